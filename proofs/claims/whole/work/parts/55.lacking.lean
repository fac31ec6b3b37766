/-! The model: what is tried and put back; what a view lacks. -/
theorem MK.eq {s s' : Nat → Int32} {b : Nat} {K : Kn} (h : MK s b K) (he : ∀ i, b ≤ i → i < b + 25 → s' i = s i) : MK s' b K := by
  refine ⟨by rw [he b (Nat.le_refl _) (by omega)]; exact h.1, fun w hw => ?_⟩
  obtain ⟨q1, q2, q3⟩ := h.2 w hw
  exact ⟨by rw [he _ (by omega) (by omega)]; exact q1, by rw [he _ (by omega) (by omega)]; exact q2, by rw [he _ (by omega) (by omega)]; exact q3⟩
theorem ML.setK {s s' : Nat → Int32} {S : St} {n v : Nat} {td : Nat → Nat} {K : Kn} (h : ML s S n td) (hv : v < 6) (hK : MK s' (9 + 26 * v) K) (he : ∀ i, (i < 9 + 26 * v ∨ 9 + 26 * v + 25 ≤ i) → s' i = s i) : ML s' (sVK S (va_up S.vk v K)) n td := by
  obtain ⟨z0, z1, z2, z3, z4, z5, z6, z7, z8⟩ := h
  refine ⟨by rw [he _ (by omega)]; exact z0, by rw [he _ (by omega)]; exact z1, by rw [he _ (by omega)]; exact z2, by rw [he _ (by omega)]; exact z3, by rw [he _ (by omega)]; exact z4, by rw [he _ (by omega)]; exact z5, fun u hu => ?_, fun w hw => ?_, z8⟩
  · obtain ⟨q1, q2, q3, q4⟩ := z6 u hu
    refine ⟨by rw [he _ (by omega)]; exact q1, q2, q3, ?_⟩
    show MK s' (9 + 26 * u) (va_up S.vk v K u)
    unfold va_up
    by_cases e : u = v
    · subst e; rw [if_pos rfl]; exact hK
    · rw [if_neg e]
      exact q4.eq (fun i h1 h2 => he i (by omega))
  · obtain ⟨q1, q2, q3⟩ := z7 w hw
    have : w < 8 := Nat.lt_of_lt_of_le hw z8
    exact ⟨by rw [he _ (by omega)]; exact q1, by rw [he _ (by omega)]; exact q2, q3⟩
def lackAns (K O : Kn) (y : Int32) : Int32 := if y = 0 then kCt K O else if y = 1 then kSum (kTk K O) - kSum K else bI (kEq (kTk K O) O)
theorem IV.tkz {G : Nat} {S : St} (h : IV G S) (hG : G ≤ 40000) {v u : Nat} (hv : v < 6) (hu : u < 6) : KZ (kTk (S.vk v) (S.vk u)) := by
  obtain ⟨a, h1, -⟩ := h
  exact ((h1 v hv).tk (h1 u hu)).kz hG
section MLK
variable {h h' : AHp} {F s : Nat → Int32} {A : Ar} {S : St} {n G : Nat} {td : Nat → Nat}
theorem m_save (hM : HM h F s A) : Call 89 [.ref 424, .ref 427] h (fun rv h' => rv = none ∧ HM h' F s (A.1, A.2.1, s, A.2.2.2) ∧ Fr 423 430 h h') := by
  obtain ⟨a1, a2, a3, a4, a5, a6, a7⟩ := hM
  refine Call.mono (m_copies a2 a5 (by decide)) ?_
  rintro rv h1 ⟨rfl, b, r⟩
  exact ⟨rfl, ⟨a1.fr r (by omega), a2.fr r (by omega), a3.fr r (by omega), a4.fr r (by omega), b, a6.fr r (by omega), a7.fr r (by omega)⟩, r.up (by omega) (by omega)⟩
theorem m_back (hM : HM h F s A) : Call 89 [.ref 427, .ref 424] h (fun rv h' => rv = none ∧ HM h' F A.2.2.1 A ∧ Fr 423 430 h h') := by
  obtain ⟨a1, a2, a3, a4, a5, a6, a7⟩ := hM
  refine Call.mono (m_copies a5 a2 (by decide)) ?_
  rintro rv h1 ⟨rfl, b, r⟩
  exact ⟨rfl, ⟨a1.fr r (by omega), b, a3.fr r (by omega), a4.fr r (by omega), a5.fr r (by omega), a6.fr r (by omega), a7.fr r (by omega)⟩, r.up (by omega) (by omega)⟩
theorem m_lacking (hM : HM h F s A) (hL : ML s S n td) (hi : IV G S) (hG : G ≤ 40000) {v u : Nat} (hv : v < 6) (hu : u < 6) (hd : v ≠ u) (y : Int32) : Call 131 [.ref 423, .int (nI v), .int (nI u), .int y] h (fun rv h' => rv = some (.int (lackAns (S.vk v) (S.vk u) y)) ∧ (∃ t, HM h' F s (A.1, A.2.1, t, A.2.2.2)) ∧ Fr 423 430 h h') := by
  have hz := (hi.iz hG).1
  have hkv := (hL.2.2.2.2.2.2.1 v hv).2.2.2
  have hku := (hL.2.2.2.2.2.2.1 u hu).2.2.2
  simp only [s131_0, s131_1, s131_4, s131_5, s131_8, s131_e, hM.f, oB_some]
  refine Call.mono (m_save hM) ?_
  rintro rv h1 ⟨rfl, k1, r1⟩
  simp only [Option.toList_none, List.nil_append, s131_11, s131_12, s131_13, s131_16, s131_17, s131_20, s131_22, s131_23, s131_24, s131_27, s131_28, s131_31, k1.f, m_knows, m_sum0 k1 hkv (hz v hv) (by omega), Option.toList_some, List.cons_append]
  refine Call.mono (m_takesIn k1 hkv hku (by omega) (by omega) (by omega)) ?_
  rintro rv h2 ⟨rfl, ⟨s2, k2, m2, e2⟩, r2⟩
  simp only [Option.toList_some, List.cons_append, List.nil_append, s131_34, s131_36, s131_37]
  have fin : ∀ (x : Int32) (v6 : Value), x = lackAns (S.vk v) (S.vk u) y → Ev none 131 85 [.ref 423, .int (nI v), .int (nI u), .int y, .int (kSum (S.vk v)), .int (kCt (S.vk v) (S.vk u)), v6] [.int x] h2 (fun rv h' => rv = some (.int (lackAns (S.vk v) (S.vk u) y)) ∧ (∃ t, HM h' F s (A.1, A.2.1, t, A.2.2.2)) ∧ Fr 423 430 h h') := by
    rintro x v6 rfl
    simp only [s131_85, s131_87, s131_88, s131_91, s131_92, s131_95, k2.f, oB_some]
    refine Call.mono (m_back k2) ?_
    rintro rv h3 ⟨rfl, k3, r3⟩
    simp only [Option.toList_none, List.nil_append, s131_98, s131_100]
    exact ⟨trivial, ⟨s, k3⟩, (r1.tr r2).tr r3⟩
  by_cases y0 : y = 0
  · subst y0
    rw [if_neg (by decide)]
    simp only [s131_40, s131_42]
    exact fin _ _ rfl
  rw [if_pos y0]
  simp only [s131_45, s131_46, s131_47]
  by_cases y1 : y = 1
  · subst y1
    rw [if_neg (by decide)]
    simp only [s131_50, s131_51, s131_52, s131_55, s131_56, s131_59, s131_61, s131_62, k2.f, m_knows, m_sum0 k2 m2 (hi.tkz hG hv hu) (by omega), Option.toList_some, List.cons_append, List.nil_append]
    exact fin _ _ rfl
  rw [if_pos y1]
  have m2u : MK s2 (9 + 26 * u) (S.vk u) := hku.eq (fun i a1 a2 => e2 i (by omega))
  simp only [s131_65, s131_66, s131_67, s131_70, s131_71, s131_74, s131_77, k2.f, m_knows, m_isSame k2 m2 m2u (by omega) (by omega), Option.toList_some, List.cons_append, List.nil_append]
  have ea : lackAns (S.vk v) (S.vk u) y = bI (kEq (kTk (S.vk v) (S.vk u)) (S.vk u)) := by
    unfold lackAns; rw [if_neg y0, if_neg y1]
  by_cases c : kEq (kTk (S.vk v) (S.vk u)) (S.vk u) = true
  · rw [if_pos c, if_neg (show ¬ (1 : Int32) = 0 by decide)]
    simp only [s131_80, s131_81]
    exact fin _ _ (by rw [ea]; unfold bI; rw [if_pos c])
  · rw [if_neg c, if_pos rfl]
    simp only [s131_84]
    exact fin _ _ (by rw [ea]; unfold bI; rw [if_neg c])
theorem m_lacks (hM : HM h F s A) (hL : ML s S n td) (hi : IV G S) (hG : G ≤ 40000) (x z y : Int32) : Call 132 [.ref 423, .int x, .int z, .int y] h (fun rv h' => rv = some (.int (aLacks S x z y)) ∧ (∃ t, HM h' F s (A.1, A.2.1, t, A.2.2.2)) ∧ Fr 423 430 h h') := by
  have bad : aLacks S x z y = eI → Ev none 132 30 [.ref 423, .int x, .int z, .int y] [] h (fun rv h' => rv = some (.int (aLacks S x z y)) ∧ (∃ t, HM h' F s (A.1, A.2.1, t, A.2.2.2)) ∧ Fr 423 430 h h') := by
    intro e
    rw [e]
    simp only [s132_30, s132_32]
    exact ⟨rfl, ⟨A.2.2.1, hM⟩, Fr.rf⟩
  simp only [s132_0, s132_1, s132_2, s132_5, s132_e, hM.f, m_isView hM hL x, Option.toList_some, List.cons_append, List.nil_append]
  rcases ix_cases x 6 with hx | ⟨v, hv6, rfl⟩
  · have e : hv S x = false := by unfold hv; rw [hx]
    rw [e, if_neg (show ¬ false = true by decide), if_pos rfl]
    exact bad (by unfold aLacks; rw [hx])
  rw [hv_nI hv6]
  by_cases c : S.th v = true
  · rw [if_pos c, if_neg (show ¬ (1 : Int32) = 0 by decide)]
    simp only [s132_8, s132_9, s132_10, s132_13, hM.f, m_isView hM hL z, Option.toList_some, List.cons_append, List.nil_append]
    rcases ix_cases z 6 with hz | ⟨u, hu6, rfl⟩
    · have e : hv S z = false := by unfold hv; rw [hz]
      rw [e, if_neg (show ¬ false = true by decide), if_pos rfl]
      exact bad (by unfold aLacks; rw [hz, ix_nI hv6 (by decide)])
    rw [hv_nI hu6]
    have e0 : aLacks S (nI v) (nI u) y = if ¬ S.th v = true ∨ ¬ S.th u = true ∨ v = u then eI else if y = 0 then kCt (S.vk v) (S.vk u) else if y = 1 then kSum (kTk (S.vk v) (S.vk u)) - kSum (S.vk v) else if y = 2 then bI (kEq (kTk (S.vk v) (S.vk u)) (S.vk u)) else eI := by
      unfold aLacks; rw [ix_nI hv6 (by decide), ix_nI hu6 (by decide)]
    by_cases c2 : S.th u = true
    · rw [if_pos c2, if_neg (show ¬ (1 : Int32) = 0 by decide)]
      simp only [s132_16, s132_17, s132_18, nI_eq (show v < 2147483648 by omega) (show u < 2147483648 by omega)]
      by_cases c3 : v = u
      · rw [if_pos c3]
        exact bad (by rw [e0, if_pos (Or.inr (Or.inr c3))])
      · rw [if_neg c3]
        rw [if_neg (show ¬ (¬ S.th v = true ∨ ¬ S.th u = true ∨ v = u) from fun q => q.elim (fun q => q c) (fun q => q.elim (fun q => q c2) c3))] at e0
        simp only [s132_21, s132_22, s132_23, s132_24, s132_27, m_in, Option.toList_some, List.cons_append, List.nil_append]
        by_cases cy : 0 ≤ y ∧ y ≤ 2
        · rw [if_pos cy, if_pos (show ¬ (1 : Int32) = 0 by decide)]
          simp only [s132_33, s132_34, s132_35, s132_36, s132_37, hM.f]
          have ea : aLacks S (nI v) (nI u) y = lackAns (S.vk v) (S.vk u) y := by
            rw [e0]
            unfold lackAns
            by_cases y0 : y = 0
            · rw [if_pos y0, if_pos y0]
            · by_cases y1 : y = 1
              · rw [if_neg y0, if_neg y0, if_pos y1, if_pos y1]
              · have y2 : y = 2 := by
                  have a1 := (i_le 0 y).mp cy.1
                  have a2 := (i_le y 2).mp cy.2
                  have e0' : (0 : Int32).toInt = 0 := rfl
                  have e2' : (2 : Int32).toInt = 2 := rfl
                  have n0 : ¬ y.toInt = 0 := fun q => y0 (Int32.toInt_inj.mp q)
                  have n1 : ¬ y.toInt = 1 := fun q => y1 (Int32.toInt_inj.mp q)
                  exact Int32.toInt_inj.mp (by omega)
                rw [if_neg y0, if_neg y0, if_neg y1, if_neg y1, if_pos y2]
          rw [ea]
          refine Call.mono (m_lacking hM hL hi hG hv6 hu6 c3 y) ?_
          rintro rv h1 ⟨rfl, k1, r1⟩
          simp only [Option.toList_some, List.cons_append, List.nil_append, s132_40]
          exact ⟨trivial, k1, r1⟩
        · rw [if_neg cy, if_neg (show ¬ ¬ (0 : Int32) = 0 by decide)]
          refine bad ?_
          rw [e0]
          have n0 : ¬ y = 0 := fun q => cy (by rw [q]; decide)
          have n1 : ¬ y = 1 := fun q => cy (by rw [q]; decide)
          have n2 : ¬ y = 2 := fun q => cy (by rw [q]; decide)
          rw [if_neg n0, if_neg n1, if_neg n2]
    · rw [if_neg c2, if_pos rfl]
      exact bad (by rw [e0, if_pos (Or.inr (Or.inl c2))])
  · rw [if_neg c, if_pos rfl]
    refine bad ?_
    unfold aLacks
    rw [ix_nI hv6 (by decide)]
    cases ix z 6 with
    | none => rfl
    | some w => exact if_pos (Or.inl c)
end MLK
