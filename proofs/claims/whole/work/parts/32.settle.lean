/-! The class's outer object: a fresh trial, the settling, the undoing. -/
def s4 (n i : Nat) : Nat := if i = n then 4 else if i = 4 then 5 else if i = 5 then n else i
def s5 (i : Nat) : Nat := if i < 3 then i + 1 else if i = 3 then 4 else if i = 4 then 5 else 0
def s6 (n i : Nat) : Nat := if i = n then 4 else if i = 4 then n else i
theorem s4_ok : ∀ n, n < 4 → ∀ i, i < 6 → s4 n i < 6 ∧ ∀ j, j < 6 → s4 n i = s4 n j → i = j := by decide
theorem s5_ok : ∀ i, i < 6 → s5 i < 6 ∧ ∀ j, j < 6 → s5 i = s5 j → i = j := by decide
theorem s6_ok : ∀ n, n < 4 → ∀ i, i < 6 → s6 n i < 6 ∧ ∀ j, j < 6 → s6 n i = s6 n j → i = j := by decide
def F2 (h h' : AHp) : Prop := h'.length = h.length ∧ ∀ j, j ≠ 0 → j ≠ 139 → h'[j]? = h[j]?
theorem F2.rf {h : AHp} : F2 h h := ⟨rfl, fun _ _ _ => rfl⟩
theorem F2.tr {h h1 h2 : AHp} (a : F2 h h1) (c : F2 h1 h2) : F2 h h2 := ⟨c.1.trans a.1, fun j x y => (c.2 j x y).trans (a.2 j x y)⟩
theorem F2.a {h h' : AHp} (a : Fr 0 1 h h') : F2 h h' := ⟨a.1, fun j x _ => a.2 j (by omega)⟩
theorem F2.b {h h' : AHp} (a : Fr 139 140 h h') : F2 h h' := ⟨a.1, fun j x _ => a.2 j (by omega)⟩
theorem F2.up {h h' : AHp} (a : F2 h h') : Fr 0 423 h h' := ⟨a.1, fun j x => a.2 j (by omega) (by omega)⟩
theorem HP0.mv {h h' : AHp} {q q' : Nat → Nat} {n m : Nat} {C : Nat → St} {K : Kn} {F f g : Nat → Int32} (hP : HP0 h q n C K F f g) (r : F2 h h') (h1 : HO h' 0 4 [.ref (ad (q' 4)), .ref (ad (q' 5)), .ref 139, .int (nI m), .ref 140, .ref 144]) (h2 : HQ h' 139 3 4 (fun k => ad (q' k))) (h3 : ∀ i, i < 6 → q' i < 6) (h4 : ∀ i j, i < 6 → j < 6 → q' i = q' j → i = j) : HP0 h' q' m C K F f g := by
  obtain ⟨a1, a2, a3, a4, a5, a6, a7⟩ := hP
  refine ⟨h1, h2, fun j hj => (a3 j hj).at (fun i x y => ?_), a4.at (fun i x y => r.2 i (by omega) (by omega)), ?_, h3, h4⟩
  · have := ad_b j hj
    exact r.2 i (by omega) (by omega)
  · exact ⟨a5.1.at (r.2 _ (by decide) (by decide)), a5.2.1.at (r.2 _ (by decide) (by decide)), a5.2.2.at (r.2 _ (by decide) (by decide))⟩
section SE
variable {h h' : AHp} {S T : St} {H : List St} {tn a : Nat} {tc : Nat → Int32}
theorem c_fresh (hP : HP h S H tn tc) : Call 81 [.ref 0] h (fun rv h' => ∃ a, rv = some (.ref a) ∧ HPT h' a S H S tn tc ∧ Fr 0 423 h h') := by
  obtain ⟨a, T, hT⟩ := hP
  have hT' := hT
  obtain ⟨q, C, K, F, g, h0, h1, h2, h3, rfl, rfl, rfl, h7⟩ := hT
  have q5 := h0.2.2.2.2.2.1 5 (by decide)
  have q4 := h0.2.2.2.2.2.1 4 (by decide)
  have b5 := ad_b _ q5
  have hs5 := h0.2.2.1 _ q5
  have hs4 := h0.2.2.1 _ q4
  have ne : q 5 ≠ q 4 := fun e => absurd (h0.2.2.2.2.2.2 5 4 (by decide) (by decide) e) (by decide)
  simp only [s81_0, s81_1, s81_4, s81_5, s81_8, s81_e, h0.f, oB_some, hs5.f]
  refine Call.mono (c_copyS hs5 hs4 (ad_d _ q5 _ q4 ne)) ?_
  rintro rv h' ⟨rfl, k, r⟩
  have f1 : fldv h' 0 4 1 = some (.ref (ad (q 5))) := (h0.1.fr r (by omega)).ld rfl
  simp only [Option.toList_none, List.nil_append, s81_11, s81_12, s81_15, f1, oB_some]
  exact ⟨_, rfl, hT'.run k (FrT.s r) (h0.2.2.2.2.1.fr r (by omega)) h1, r.up (by omega) (by omega)⟩
theorem c_settle (hT : HPT h a S H T tn tc) (r : Int32) : Call 82 [.ref 0, .int r] h (fun rv h' => rv = some (.int r) ∧ HP h' (if isE r = true then S else T) (if isE r = true then H else pushH H S) tn tc ∧ Fr 0 423 h h') := by
  have hT' := hT
  obtain ⟨q, C, K, F, g, h0, h1, h2, h3, rfl, rfl, rfl, h7⟩ := hT
  have h0' := h0
  obtain ⟨a1, a2, a3, a4, a5, a6, a7⟩ := h0
  have q4 := a6 4 (by decide)
  have q5 := a6 5 (by decide)
  simp only [s82_0, s82_1, s82_4, s82_e, c_isError, Option.toList_some, List.cons_append, List.nil_append]
  by_cases er : isE r = true
  · rw [if_pos er, if_neg (show ¬ (1 : Int32) = 0 by decide), if_pos er, if_pos er]
    simp only [s82_7, s82_8]
    exact ⟨trivial, ⟨_, _, hT'⟩, Fr.rf⟩
  · rw [if_neg er, if_pos rfl, if_neg er, if_neg er]
    have tail : ∀ (m sp : Nat) (hh : AHp) (gq : Nat → Nat) (v3 : Value), m < 4 → HO hh 0 4 [.ref (ad (q 4)), .ref (ad (q 5)), .ref 139, .int (nI (m + 1)), .ref 140, .ref 144] → HQ hh 139 3 4 gq → F2 h hh →
        (∀ h', HO h' 0 4 [.ref (ad (q 5)), .ref sp, .ref 139, .int (nI (m + 1)), .ref 140, .ref 144] → HQ h' 139 3 4 (fun i => if i = m then ad (q 4) else gq i) → F2 h h' → HP h' (C (q 5)) (pushH H (C (q 4))) tn tc) →
        Ev none 82 74 [.ref 0, .int r, .ref sp, v3] [] hh (fun rv h' => rv = some (.int r) ∧ HP h' (C (q 5)) (pushH H (C (q 4))) tn tc ∧ Fr 0 423 h h') := by
      intro m sp hh gq v3 hm z1 z2 z3 z4
      have is4 : isO hh (ad (q 4)) 3 := by
        obtain ⟨fs, i1⟩ := (a3 _ q4).f.2.2.2.2.2.2.2.2.2.2.2
        have := ad_b _ q4
        exact ⟨fs, by rw [z3.2 _ (by omega) (by omega)]; exact i1⟩
      obtain ⟨g1, e1, k1, r1⟩ := z2.st hm (by decide) (by decide) is4 rfl
      have o1 := z1.fr r1 (by omega)
      obtain ⟨g2, e2, k2, r2⟩ := o1.st (k := 0) (v := .ref (ad (q 5))) (show 0 < 6 by decide) rfl
      obtain ⟨g3, e3, k3, r3⟩ := k2.st (k := 1) (v := .ref sp) (show 1 < 6 by decide) rfl
      have f0 : fldv hh 0 4 0 = some (.ref (ad (q 4))) := z1.ld rfl
      have f2 : fldv hh 0 4 2 = some (.ref 139) := z1.ld rfl
      have f3 : fldv hh 0 4 3 = some (.int (nI (m + 1))) := z1.ld rfl
      have f1 : fldv g1 0 4 1 = some (.ref (ad (q 5))) := o1.ld rfl
      simp only [s82_74, s82_75, s82_78, s82_79, s82_82, s82_83, s82_84, s82_85, s82_88, s82_89, s82_90, s82_91, s82_94, s82_97, s82_98, s82_99, s82_102, s82_103, f0, f1, f2, f3, oB_some, nI_pred, e1, e2, e3]
      have fr : F2 h g3 := ((z3.tr (F2.b r1)).tr (F2.a r2)).tr (F2.a r3)
      exact ⟨trivial, z4 g3 k3 ((k1.fr r2 (by omega)).fr r3 (by omega)) fr, fr.up⟩
    simp only [s82_9, s82_10, s82_13, s82_14, h0'.f, oB_some, (show (4 : Int32) = nI 4 from rfl), le_nI (show 4 < 2147483648 by decide) (show H.length < 2147483648 by omega)]
    by_cases c : H.length < 4
    · rw [if_neg (by omega)]
      have z := s4_ok _ c
      obtain ⟨g1, e1, k1, r1⟩ := a1.st (k := 3) (v := .int (nI (H.length + 1))) (show 3 < 6 by decide) rfl
      have lq := a2.ld (w := H.length) c (by decide) (by decide)
      simp only [s82_17, s82_18, s82_21, s82_22, s82_25, s82_26, s82_27, s82_28, s82_29, s82_32, s82_33, s82_34, s82_37, h0'.f, oB_some, lq, nI_s, e1]
      refine tail H.length (ad (q H.length)) g1 _ _ c k1 (a2.fr r1 (by omega)) (F2.a r1) ?_
      intro h' u1 u2 u3
      refine ⟨_, _, fun i => q (s4 H.length i), C, K, F, g, ?_, h1, h2, ?_, rfl, rfl, ?_, ?_⟩
      · have el : (pushH H (C (q 4))).length = H.length + 1 := by unfold pushH; rw [if_pos c, List.length_append]; rfl
        rw [el]
        have w4 : s4 H.length 4 = 5 := by unfold s4; rw [if_neg (by omega)]; rfl
        have w5 : s4 H.length 5 = H.length := by unfold s4; rw [if_neg (by omega)]; rfl
        refine h0'.mv u3 ?_ (u2.to (fun i hi => ?_)) (fun i hi => a6 _ (z i hi).1) (fun i j hi hj he => (z i hi).2 j hj (a7 _ _ (z i hi).1 (z j hj).1 he))
        · show HO h' 0 4 [.ref (ad (q (s4 H.length 4))), .ref (ad (q (s4 H.length 5))), _, _, _, _]
          rw [w4, w5]; exact u1
        · show (if i = H.length then ad (q 4) else ad (q i)) = ad (q (s4 H.length i))
          unfold s4
          by_cases e : i = H.length
          · rw [if_pos e, if_pos e]
          · rw [if_neg e, if_neg e, if_neg (by omega), if_neg (by omega)]
      · unfold pushH; rw [if_pos c, List.length_append]; exact c
      · show C (q (s4 H.length 4)) = _
        have w4 : s4 H.length 4 = 5 := by unfold s4; rw [if_neg (by omega)]; rfl
        rw [w4]
      · intro k hk
        unfold pushH at hk ⊢
        rw [if_pos c] at hk ⊢
        rw [List.length_append] at hk
        show _ = some (C (q (s4 H.length k)))
        unfold s4
        by_cases e : k = H.length
        · rw [if_pos e, e, List.getElem?_append_right (Nat.le_refl _), Nat.sub_self]; rfl
        · have hk2 : k < H.length := by
            have : k < H.length + 1 := hk
            omega
          rw [if_neg e, if_neg (by omega), if_neg (by omega), List.getElem?_append_left hk2]
          exact h7 k hk2
    · have h4 : H.length = 4 := by omega
      rw [if_pos (by omega)]
      have lq := a2.ld (w := 0) (by decide) (by decide) (by decide)
      have lq' : ldq h 139 0 = some (.ref (ad (q 0))) := lq
      simp only [s82_40, s82_41, s82_44, s82_45, s82_46, s82_47, s82_48, h0'.f, oB_some, lq']
      have loop : ∀ d m (hh : AHp) (gq : Nat → Nat), m + d = 3 → HQ hh 139 3 4 gq → (∀ i, i < 4 → gq i = if i < m then ad (q (i + 1)) else ad (q i)) → F2 h hh → HO hh 0 4 [.ref (ad (q 4)), .ref (ad (q 5)), .ref 139, .int (nI H.length), .ref 140, .ref 144] →
          Ev none 82 49 [.ref 0, .int r, .ref (ad (q 0)), .int (nI (m + 1))] [] hh (fun rv h' => rv = some (.int r) ∧ HP h' (C (q 5)) (pushH H (C (q 4))) tn tc ∧ Fr 0 423 h h') := by
        intro d
        induction d with
        | zero =>
          intro m hh gq z0 z1 z2 z3 z4
          obtain rfl : m = 3 := by omega
          simp only [s82_49, s82_50, s82_51, if_pos (show (4 : Int32) ≤ nI (3 + 1) by decide)]
          rw [h4] at z4
          refine tail 3 (ad (q 0)) hh gq _ (by decide) z4 z1 z3 ?_
          intro h' u1 u2 u3
          have el : (pushH H (C (q 4))).length = 4 := by unfold pushH; rw [if_neg c, List.length_append, List.length_tail, h4]; rfl
          refine ⟨_, _, fun i => q (s5 i), C, K, F, g, ?_, h1, h2, by rw [el]; decide, rfl, rfl, rfl, ?_⟩
          · rw [el]
            refine h0'.mv u3 u1 (u2.to (fun i hi => ?_)) (fun i hi => a6 _ (s5_ok i hi).1) (fun i j hi hj he => (s5_ok i hi).2 j hj (a7 _ _ (s5_ok i hi).1 (s5_ok j hj).1 he))
            show (if i = 3 then ad (q 4) else gq i) = ad (q (s5 i))
            unfold s5
            by_cases e : i = 3
            · subst e; rfl
            · rw [if_neg e, z2 i hi, if_pos (by omega), if_pos (by omega)]
          · intro k hk
            rw [el] at hk
            unfold pushH
            rw [if_neg c]
            show _ = some (C (q (s5 k)))
            unfold s5
            by_cases e : k < 3
            · rw [if_pos e, List.getElem?_append_left (by rw [List.length_tail]; omega), List.getElem?_tail]
              exact h7 (k + 1) (by omega)
            · obtain rfl : k = 3 := by omega
              rw [List.getElem?_append_right (by rw [List.length_tail]; omega), List.length_tail, h4]
              rfl
        | succ d ih =>
          intro m hh gq z0 z1 z2 z3 z4
          have is : isO hh (ad (q (m + 1))) 3 := by
            have q6 := a6 (m + 1) (by omega)
            obtain ⟨fs, i1⟩ := (a3 _ q6).f.2.2.2.2.2.2.2.2.2.2.2
            have := ad_b _ q6
            exact ⟨fs, by rw [z3.2 _ (by omega) (by omega)]; exact i1⟩
          obtain ⟨g1, e1, k1, r1⟩ := z1.st (w := m) (v := ad (q (m + 1))) (by omega) (by decide) (by decide) is rfl
          have l1 := z1.ld (w := m + 1) (by omega) (by decide) (by decide)
          rw [z2 (m + 1) (by omega), if_neg (by omega)] at l1
          have f2 : fldv hh 0 4 2 = some (.ref 139) := z4.ld rfl
          simp only [s82_49, s82_50, s82_51, if_neg (show ¬ (4 : Int32) ≤ nI (m + 1) from nI_ge (b := 4) (by omega) (by decide))]
          simp only [s82_54, s82_55, s82_58, s82_59, s82_60, s82_61, s82_62, s82_65, s82_66, s82_67, s82_68, s82_71, f2, oB_some, nI_pred, l1, e1, nI_s]
          refine ih (m + 1) g1 _ (by omega) k1 (fun i hi => ?_) (z3.tr (F2.b r1)) (z4.fr r1 (by omega))
          show (if i = m then ad (q (m + 1)) else gq i) = _
          by_cases e : i = m
          · subst e; rw [if_pos rfl, if_pos (by omega)]
          · rw [if_neg e, z2 i hi]
            by_cases e2 : i < m
            · rw [if_pos e2, if_pos (by omega)]
            · rw [if_neg e2, if_neg (by omega)]
      exact loop 3 0 h _ rfl a2 (fun i hi => by rw [if_neg (by omega)]) F2.rf a1
/-- the undoing: the answer, the state, the history -/
def aUndo (S : St) (H : List St) : Int32 × St × List St := match H.getLast? with
  | none => (eN, S, H)
  | some T => (nI (H.length - 1), T, H.dropLast)
theorem c_undo (hP : HP h S H tn tc) : Call 76 [.ref 0] h (fun rv h' => rv = some (.int (aUndo S H).1) ∧ HP h' (aUndo S H).2.1 (aUndo S H).2.2 tn tc ∧ Fr 0 423 h h') := by
  have hP' := hP
  obtain ⟨a, T, q, C, K, F, g, h0, h1, h2, h3, rfl, rfl, rfl, h7⟩ := hP
  have h0' := h0
  obtain ⟨a1, a2, a3, a4, a5, a6, a7⟩ := h0
  simp only [s76_0, s76_1, s76_4, s76_e, h0'.f, oB_some]
  rcases Nat.eq_zero_or_pos H.length with e0 | e0
  · have eH : H = [] := List.length_eq_zero_iff.mp e0
    subst eH
    rw [if_neg (by decide)]
    simp only [s76_7, s76_9]
    exact ⟨rfl, hP', Fr.rf⟩
  · obtain ⟨m, hm⟩ : ∃ m, H.length = m + 1 := ⟨H.length - 1, by omega⟩
    have hm4 : m < 4 := by omega
    have z := s6_ok m hm4
    have q4 := a6 4 (by decide)
    rw [hm] at a1 h0' ⊢
    rw [if_pos (by rw [show (0 : Int32) = nI 0 from rfl, nI_eq (by omega) (by decide)]; omega)]
    have b4 := ad_b _ q4
    have is4 : isO h (ad (q 4)) 3 := (a3 _ q4).f.2.2.2.2.2.2.2.2.2.2.2
    obtain ⟨g1, e1, k1, r1⟩ := a1.st (k := 3) (v := .int (nI m)) (show 3 < 6 by decide) rfl
    have l1 := (a2.fr r1 (by omega)).ld (w := m) hm4 (by decide) (by decide)
    have is4' : isO g1 (ad (q 4)) 3 := by
      obtain ⟨fs, i1⟩ := is4
      exact ⟨fs, by rw [r1.2 _ (by omega)]; exact i1⟩
    obtain ⟨g2, e2, k2, r2⟩ := (a2.fr r1 (by omega)).st (w := m) (v := ad (q 4)) hm4 (by decide) (by decide) is4' rfl
    obtain ⟨g3, e3, k3, r3⟩ := (k1.fr r2 (by omega)).st (k := 0) (v := .ref (ad (q m))) (show 0 < 6 by decide) rfl
    have f0 : fldv g1 0 4 0 = some (.ref (ad (q 4))) := k1.ld rfl
    have f2 : fldv g1 0 4 2 = some (.ref 139) := k1.ld rfl
    have f3 : fldv g1 0 4 3 = some (.int (nI m)) := k1.ld rfl
    have f4 : fldv g3 0 4 3 = some (.int (nI m)) := k3.ld rfl
    simp only [s76_10, s76_11, s76_12, s76_15, s76_16, s76_17, s76_20, s76_21, s76_24, s76_25, s76_28, s76_29, s76_30, s76_31, s76_34, s76_35, s76_38, s76_39, s76_42, s76_43, s76_44, s76_45, s76_48, s76_49, s76_52, h0'.f, oB_some, nI_pred, e1, f0, f2, f3, f4, l1, e2, e3]
    have fr : F2 h g3 := ((F2.a r1).tr (F2.b r2)).tr (F2.a r3)
    have hl : H.getLast? = some (C (q m)) := by
      rw [List.getLast?_eq_getElem?, hm]
      exact h7 m (by omega)
    have ea : aUndo (C (q 4)) H = (nI m, C (q m), H.dropLast) := by
      unfold aUndo
      rw [hl, hm]
      rfl
    rw [ea]
    refine ⟨rfl, ⟨_, _, fun i => q (s6 m i), C, K, F, g, ?_, h1, h2, ?_, rfl, rfl, ?_, ?_⟩, fr.up⟩
    · have el : H.dropLast.length = m := by rw [List.length_dropLast, hm]; rfl
      show HP0 g3 _ H.dropLast.length C K F tc g
      rw [el]
      have w4 : s6 m 4 = m := by unfold s6; rw [if_neg (by omega)]; rfl
      have w5 : s6 m 5 = 5 := by unfold s6; rw [if_neg (by omega)]; rfl
      refine h0'.mv fr ?_ ((k2.fr r3 (by omega)).to (fun i hi => ?_)) (fun i hi => a6 _ (z i hi).1) (fun i j hi hj he => (z i hi).2 j hj (a7 _ _ (z i hi).1 (z j hj).1 he))
      · show HO g3 0 4 [.ref (ad (q (s6 m 4))), .ref (ad (q (s6 m 5))), _, _, _, _]
        rw [w4, w5]; exact k3
      · show (if i = m then ad (q 4) else ad (q i)) = ad (q (s6 m i))
        unfold s6
        by_cases e : i = m
        · rw [if_pos e, if_pos e]
        · rw [if_neg e, if_neg e, if_neg (by omega)]
    · show H.dropLast.length ≤ 4
      rw [List.length_dropLast]; omega
    · show C (q (s6 m 4)) = _
      have w4 : s6 m 4 = m := by unfold s6; rw [if_neg (by omega)]; rfl
      rw [w4]
    · intro k hk
      have hk' : k < H.dropLast.length := hk
      rw [List.length_dropLast] at hk'
      show H.dropLast[k]? = some (C (q (s6 m k)))
      unfold s6
      rw [if_neg (by omega), if_neg (by omega), List.getElem?_dropLast, if_pos (by omega)]
      exact h7 k (by omega)
end SE
