/-! The model's changes: adding, taking, retiring, moving. -/
theorem nI_99 {a M : Int32} {n : Nat} (hM : M.toInt = n) (h : (1 : Int32) ≤ a ∧ a ≤ M) : ∃ i, i ≤ n ∧ 1 ≤ i ∧ a = nI i := by
  obtain ⟨q, h1, h2, h3, -⟩ := tk_nI hM h
  exact ⟨q, h3, h2, h1⟩
section MRT
variable {h h' : AHp} {F s : Nat → Int32} {A : Ar} {S : St} {G m : Nat}
theorem m_add (hM : HM h F s A) (hX : MXG G s S) (hi : IV G S) (hG : G + 1 ≤ 40000) (hm : m ≤ 4) (hF : F 4 = nI m) (x y : Int32) : Call 108 [.ref 423, .int x, .int y] h (MO G m F s A (aAdd S x y) h) := by
  have hL : ∃ n td, ML s S n td := by
    obtain ⟨td, came, posted, P, hX, -⟩ := hX
    exact ⟨_, _, hX.1⟩
  obtain ⟨n, td, hL⟩ := hL
  have h8 := hL.2.2.2.2.2.2.2.2
  have bad : aAdd S x y = (eI, S) → Ev none 108 19 [.ref 423, .int x, .int y] [] h (MO G m F s A (aAdd S x y) h) := by
    intro e
    rw [e]
    simp only [s108_19, s108_21]
    exact MO.err (r := (eI, S)) hM isE_I
  simp only [s108_0, s108_1, s108_2, s108_5, s108_e, hM.f, m_isWriter hM hL x, Option.toList_some, List.cons_append, List.nil_append]
  rcases ix_cases x (S.ct 0) with hx | ⟨w, hw, rfl⟩
  · have e : hw S x = false := by unfold hw; rw [hx]; rfl
    rw [e, if_neg (show ¬ false = true by decide), if_pos rfl]
    exact bad (by unfold aAdd; rw [hx])
  rw [hw_yes h8 hw, if_pos (show true = true from rfl), if_neg (show ¬ (1 : Int32) = 0 by decide)]
  simp only [s108_8, s108_9, s108_10, s108_13, s108_16, m_in, Option.toList_some, List.cons_append, List.nil_append]
  have e0 : aAdd S (nI w) y = if ¬ (1 ≤ y ∧ y ≤ 999) then (eI, S) else if rt S w = true then (eN, S) else
    (kSum (kRaise (S.vk (S.ho w)) w y 0), sVK S (va_up S.vk (S.ho w) (kRaise (S.vk (S.ho w)) w y 0))) := by
    unfold aAdd; rw [ix_nI hw (by omega)]
  by_cases cy : (1 : Int32) ≤ y ∧ y ≤ 999
  · rw [if_pos cy, if_pos (show ¬ (1 : Int32) = 0 by decide)]
    rw [if_neg (fun q => q cy)] at e0
    obtain ⟨i, i1, i2, rfl⟩ := nI_99 (n := 999) rfl cy
    simp only [s108_22, s108_23, s108_24, s108_27, hM.f, m_isRetired hM hL hw, Option.toList_some, List.cons_append, List.nil_append]
    by_cases cr : rt S w = true
    · rw [if_pos cr, if_neg (show ¬ (1 : Int32) = 0 by decide)]
      rw [if_pos cr] at e0
      rw [e0]
      simp only [s108_30, s108_32, s108_42]
      exact MO.err (r := (eN, S)) hM isE_N
    · rw [if_neg cr, if_pos rfl]
      rw [if_neg cr] at e0
      rw [e0]
      simp only [s108_35, s108_36, s108_37, s108_38, s108_39, hM.f]
      refine Call.mono (m_writes (j := 0) hM hX hi hG hm hF hw (by simpa using cr) i1 (by decide)) ?_
      rintro rv h1 q
      obtain ⟨rfl, q2⟩ := q
      simp only [Option.toList_some, List.cons_append, List.nil_append, s108_42]
      exact ⟨rfl, q2⟩
  · rw [if_neg cy, if_neg (show ¬ ¬ (0 : Int32) = 0 by decide)]
    exact bad (by rw [e0, if_pos cy])
theorem m_take (hM : HM h F s A) (hX : MXG G s S) (hi : IV G S) (hG : G + 1 ≤ 40000) (hm : m ≤ 4) (hF : F 4 = nI m) (x y : Int32) : Call 109 [.ref 423, .int x, .int y] h (MO G m F s A (aTake S x y) h) := by
  have hL : ∃ n td, ML s S n td := by
    obtain ⟨td, came, posted, P, hX, -⟩ := hX
    exact ⟨_, _, hX.1⟩
  obtain ⟨n, td, hL⟩ := hL
  have h8 := hL.2.2.2.2.2.2.2.2
  have bad : aTake S x y = (eI, S) → Ev none 109 19 [.ref 423, .int x, .int y] [] h (MO G m F s A (aTake S x y) h) := by
    intro e
    rw [e]
    simp only [s109_19, s109_21]
    exact MO.err (r := (eI, S)) hM isE_I
  have bad2 : aTake S x y = (eN, S) → Ev none 109 48 [.ref 423, .int x, .int y] [] h (MO G m F s A (aTake S x y) h) := by
    intro e
    rw [e]
    simp only [s109_48, s109_50]
    exact MO.err (r := (eN, S)) hM isE_N
  simp only [s109_0, s109_1, s109_2, s109_5, s109_e, hM.f, m_isWriter hM hL x, Option.toList_some, List.cons_append, List.nil_append]
  rcases ix_cases x (S.ct 0) with hx | ⟨w, hw, rfl⟩
  · have e : hw S x = false := by unfold hw; rw [hx]; rfl
    rw [e, if_neg (show ¬ false = true by decide), if_pos rfl]
    exact bad (by unfold aTake; rw [hx])
  rw [hw_yes h8 hw, if_pos (show true = true from rfl), if_neg (show ¬ (1 : Int32) = 0 by decide)]
  simp only [s109_8, s109_9, s109_10, s109_13, s109_16, m_in, Option.toList_some, List.cons_append, List.nil_append]
  have e0 : aTake S (nI w) y = if ¬ (1 ≤ y ∧ y ≤ 999) then (eI, S) else if rt S w = true ∨ kSum (S.vk (S.ho w)) < y then (eN, S) else
    (kSum (kRaise (S.vk (S.ho w)) w 0 y), sVK S (va_up S.vk (S.ho w) (kRaise (S.vk (S.ho w)) w 0 y))) := by
    unfold aTake; rw [ix_nI hw (by omega)]
  by_cases cy : (1 : Int32) ≤ y ∧ y ≤ 999
  · rw [if_pos cy, if_pos (show ¬ (1 : Int32) = 0 by decide)]
    rw [if_neg (fun q => q cy)] at e0
    obtain ⟨i, i1, i2, rfl⟩ := nI_99 (n := 999) rfl cy
    simp only [s109_22, s109_23, s109_24, s109_27, hM.f, m_isRetired hM hL hw, Option.toList_some, List.cons_append, List.nil_append]
    by_cases cr : rt S w = true
    · rw [if_pos cr, if_pos (show ¬ (1 : Int32) = 0 by decide)]
      exact bad2 (by rw [e0, if_pos (Or.inl cr)])
    · rw [if_neg cr, if_neg (show ¬ ¬ (0 : Int32) = 0 by decide)]
      have ho6 := (hL.2.2.2.2.2.2.2.1 w hw).2.2.1
      have hk := (hL.2.2.2.2.2.2.1 _ ho6).2.2.2
      have hz := (hi.iz (by omega)).1 _ ho6
      simp only [s109_30, s109_31, s109_32, s109_33, s109_34, s109_37, s109_40, s109_41, s109_44, s109_45, hM.f, m_home hM hL hw, m_knows, m_sum0 hM hk hz (by omega), Option.toList_some, List.cons_append, List.nil_append]
      by_cases cs : nI i ≤ kSum (S.vk (S.ho w))
      · rw [if_pos cs]
        rw [if_neg (fun q => q.elim cr (Int32.not_lt.mpr cs))] at e0
        rw [e0]
        simp only [s109_51, s109_52, s109_53, s109_54, s109_55, hM.f]
        refine Call.mono (m_writes (i := 0) hM hX hi hG hm hF hw (by simpa using cr) (by decide) i1) ?_
        rintro rv h1 q
        obtain ⟨rfl, q2⟩ := q
        simp only [Option.toList_some, List.cons_append, List.nil_append, s109_58]
        exact ⟨rfl, q2⟩
      · rw [if_neg cs]
        exact bad2 (by rw [e0, if_pos (Or.inr (Int32.not_le.mp cs))])
  · rw [if_neg cy, if_neg (show ¬ ¬ (0 : Int32) = 0 by decide)]
    exact bad (by rw [e0, if_pos cy])
theorem m_move (hM : HM h F s A) (hX : MXG G s S) (hm : m ≤ 4) (hF : F 4 = nI m) (x z : Int32) : Call 111 [.ref 423, .int x, .int z] h (MO G m F s A (aMove S x z) h) := by
  obtain ⟨td, came, posted, P, hX, hc1, hp1, ht⟩ := hX
  have hL := hX.1
  have h8 := hL.2.2.2.2.2.2.2.2
  have bad : aMove S x z = (eI, S) → ∀ v3, Ev none 111 16 [.ref 423, .int x, .int z, v3] [] h (MO G m F s A (aMove S x z) h) := by
    intro e v3
    rw [e]
    simp only [s111_16, s111_18]
    exact MO.err (r := (eI, S)) hM isE_I
  have bad2 : aMove S x z = (eN, S) → ∀ v3, Ev none 111 65 [.ref 423, .int x, .int z, v3] [] h (MO G m F s A (aMove S x z) h) := by
    intro e v3
    rw [e]
    simp only [s111_65, s111_67]
    exact MO.err (r := (eN, S)) hM isE_N
  simp only [s111_0, s111_1, s111_2, s111_5, s111_e, hM.f, m_isWriter hM hL x, Option.toList_some, List.cons_append, List.nil_append]
  rcases ix_cases x (S.ct 0) with hx | ⟨w, hw, rfl⟩
  · have e : hw S x = false := by unfold hw; rw [hx]; rfl
    rw [e, if_neg (show ¬ false = true by decide), if_pos rfl]
    exact bad (by unfold aMove; rw [hx]) _
  rw [hw_yes h8 hw, if_pos (show true = true from rfl), if_neg (show ¬ (1 : Int32) = 0 by decide)]
  simp only [s111_8, s111_9, s111_10, s111_13, hM.f, m_isView hM hL z, Option.toList_some, List.cons_append, List.nil_append]
  rcases ix_cases z 6 with hz | ⟨v, hv6, rfl⟩
  · have e : hv S z = false := by unfold hv; rw [hz]
    rw [e, if_neg (show ¬ false = true by decide), if_neg (show ¬ ¬ (0 : Int32) = 0 by decide)]
    exact bad (by unfold aMove; rw [hz, ix_nI hw (by omega)]) _
  rw [hv_nI hv6]
  have e0 : aMove S (nI w) (nI v) = if ¬ S.th v = true then (eI, S) else if rt S w = true ∨ S.ho w = v ∨ ¬ (S.vk v).1 w = (S.vk (S.ho w)).1 w then (eN, S) else
    (nI (S.ho w), sHO S (va_up S.ho w v)) := by
    unfold aMove; rw [ix_nI hw (by omega), ix_nI hv6 (by decide)]
  by_cases c : S.th v = true
  · rw [if_pos c, if_pos (show ¬ (1 : Int32) = 0 by decide)]
    rw [if_neg (fun q => q c)] at e0
    have ho6 := (hL.2.2.2.2.2.2.2.1 w hw).2.2.1
    have hw8 : w < 8 := by omega
    simp only [s111_19, s111_20, s111_21, s111_22, s111_25, s111_26, s111_27, s111_28, s111_31, hM.f, m_home hM hL hw, m_isRetired hM hL hw, Option.toList_some, List.cons_append, List.nil_append]
    by_cases cr : rt S w = true
    · rw [if_pos cr, if_pos (show ¬ (1 : Int32) = 0 by decide)]
      exact bad2 (by rw [e0, if_pos (Or.inl cr)]) _
    · rw [if_neg cr, if_neg (show ¬ ¬ (0 : Int32) = 0 by decide)]
      simp only [s111_34, s111_35, s111_36, nI_eq (show S.ho w < 2147483648 by omega) (show v < 2147483648 by omega)]
      by_cases ch : S.ho w = v
      · rw [if_pos ch]
        exact bad2 (by rw [e0, if_pos (Or.inr (Or.inl ch))]) _
      · rw [if_neg ch]
        have p1 := ((hL.2.2.2.2.2.2.1 v hv6).2.2.2.2 w hw8).1
        have p2 := ((hL.2.2.2.2.2.2.1 _ ho6).2.2.2.2 w hw8).1
        simp only [s111_39, s111_40, s111_43, s111_44, s111_47, s111_48, s111_51, s111_52, s111_53, s111_56, s111_57, s111_58, s111_61, s111_62, hM.f, m_knows, m_part, m_ownPart hM hL hw, oB_some, hM.ls (show 9 + 26 * v + 1 + 3 * w < 420 by omega), hM.ls (show 9 + 26 * S.ho w + 1 + 3 * w < 420 by omega), p1, p2, Option.toList_some, List.cons_append, List.nil_append]
        by_cases cv : (S.vk v).1 w = (S.vk (S.ho w)).1 w
        · rw [if_pos cv]
          rw [if_neg (fun q => q.elim cr (fun q => q.elim ch (fun q => q cv)))] at e0
          rw [e0]
          simp only [s111_68, s111_69, hM.f]
          refine Call.mono (m_changes hM hm hF) ?_
          rintro rv h1 ⟨rfl, ⟨F1, A1, k1, cg⟩, r1⟩
          obtain ⟨h2, e2, k2, r2⟩ := k1.ss (show 164 + 2 * w < 420 by omega) (nI v)
          simp only [Option.toList_none, List.nil_append, s111_72, s111_73, s111_76, s111_79, s111_80, s111_81, s111_82, s111_83, s111_84, s111_85, s111_86, s111_87, s111_88, k1.f, oB_some, (show (164 : Int32) = nI 164 from rfl), (show (2 : Int32) = nI 2 from rfl), nI_mul, nI_add, Int32.add_zero, e2]
          refine MO.ok (G := G) (r := (nI (S.ho w), _)) k2 (isE_nI (by omega)) (r1.tr r2) cg ⟨td, came, posted, P, ?_, by omega, by omega, ht⟩
          have lo : ∀ i, i ≠ 164 + 2 * w → upd s (164 + 2 * w) (nI v) i = s i := fun i a1 => by rw [u_ne a1]
          refine hX.keep rfl ?_ (fun i hi => lo i (by omega)) rfl rfl
          obtain ⟨z0, zn, zt, z3, z4, z5, z6, z7, z8⟩ := id hL
          refine ⟨by rw [lo _ (by omega)]; exact z0, by rw [lo _ (by omega)]; exact zn, by rw [lo _ (by omega)]; exact zt, by rw [lo _ (by omega)]; exact z3, by rw [lo _ (by omega)]; exact z4, by rw [lo _ (by omega)]; exact z5, fun u hu => ?_, fun y hy => ?_, z8⟩
          · obtain ⟨q1, q2, q3, q4⟩ := z6 u hu
            exact ⟨by rw [lo _ (by omega)]; exact q1, q2, q3, q4.eq (fun i a1 a2 => lo i (by omega))⟩
          · obtain ⟨p1, p2, p3, p4⟩ := z7 y hy
            show _ = nI (va_up S.ho w v y) ∧ _ = S.he y ∧ va_up S.ho w v y < 6 ∧ _
            refine ⟨?_, by rw [lo _ (by omega)]; exact p2, ?_, p4⟩
            · by_cases ey : y = w
              · subst ey; rw [u_eq, up_eq]
              · rw [up_ne _ ey, lo _ (by omega)]; exact p1
            · by_cases ey : y = w
              · subst ey; rw [up_eq]; exact hv6
              · rw [up_ne _ ey]; exact p3
        · rw [if_neg cv]
          exact bad2 (by rw [e0, if_pos (Or.inr (Or.inr cv))]) _
  · rw [if_neg c, if_neg (show ¬ ¬ (0 : Int32) = 0 by decide)]
    exact bad (by rw [e0, if_pos c]) _
end MRT
