/-! The class's outer object: a fresh trial, the settling, the undoing. -/
def s4 (n i : Nat) : Nat := if i = n then 4 else if i = 4 then 5 else if i = 5 then n else i
def s5 (i : Nat) : Nat := if i < 3 then i + 1 else if i = 3 then 4 else if i = 4 then 5 else 0
def s6 (n i : Nat) : Nat := if i = n then 4 else if i = 4 then n else i
theorem s3_ok : ∀ n, n < 4 → ∀ i, i < 6 → s4 n i < 6 ∧ ∀ j, j < 6 → s4 n i = s4 n j → i = j := by decide
theorem s4_ok : ∀ i, i < 6 → s5 i < 6 ∧ ∀ j, j < 6 → s5 i = s5 j → i = j := by decide
theorem s5_ok : ∀ n, n < 4 → ∀ i, i < 6 → s6 n i < 6 ∧ ∀ j, j < 6 → s6 n i = s6 n j → i = j := by decide
def F2 (h h' : AHp) : Prop := h'.length = h.length ∧ ∀ j, j ≠ 0 → j ≠ 139 → h'[j]? = h[j]?
theorem F2.rf {h : AHp} : F2 h h := ⟨rfl, fun _ _ _ => rfl⟩
theorem F2.tr {h h1 h2 : AHp} (a : F2 h h1) (c : F2 h1 h2) : F2 h h2 := ⟨c.1.trans a.1, fun j x y => (c.2 j x y).trans (a.2 j x y)⟩
theorem F2.a {h h' : AHp} (a : Fr 0 1 h h') : F2 h h' := ⟨a.1, fun j x _ => a.2 j (by omega)⟩
theorem F2.b {h h' : AHp} (a : Fr 139 140 h h') : F2 h h' := ⟨a.1, fun j x _ => a.2 j (by omega)⟩
theorem F2.up {h h' : AHp} (a : F2 h h') : Fr 0 423 h h' := ⟨a.1, fun j x => a.2 j (by omega) (by omega)⟩
theorem HP0.mv {h h' : AHp} {q q' : Nat → Nat} {n m : Nat} {C : Nat → St} {K : Kn} {F f g : Nat → Int32} (hP : HP0 h q n C K F f g) (r : F2 h h') (h1 : HO h' 0 4 [.ref (ad (q' 4)), .ref (ad (q' 5)), .ref 139, .int (nI m), .ref 140, .ref 144]) (h2 : HQ h' 139 3 4 (fun k => ad (q' k))) (h3 : ∀ i, i < 6 → q' i < 6) (h4 : ∀ i j, i < 6 → j < 6 → q' i = q' j → i = j) : HP0 h' q' m C K F f g := by
  obtain ⟨a1, a2, a3, a4, a5, a6, a7⟩ := hP
  refine ⟨h1, h2, fun j hj => (a3 j hj).at (fun i x y => ?_), a4.at (fun i x y => r.2 i (by omega) (by omega)), ?_, h3, h4⟩
  · have := ad_b j hj
    exact r.2 i (by omega) (by omega)
  · exact ⟨a5.1.at (r.2 _ (by decide) (by decide)), a5.2.1.at (r.2 _ (by decide) (by decide)), a5.2.2.at (r.2 _ (by decide) (by decide))⟩
section SE
variable {h h' : AHp} {S T : St} {H : List St} {tn a : Nat} {tc : Nat → Int32}
theorem c_fresh (hP : HP h S H tn tc) : Call 58 [.ref 0] h (fun rv h' => ∃ a, rv = some (.ref a) ∧ HPT h' a S H S tn tc ∧ Fr 0 423 h h') := by
  obtain ⟨a, T, hT⟩ := hP
  have hT' := hT
  obtain ⟨q, C, K, F, g, h0, h1, h2, h3, rfl, rfl, rfl, h7⟩ := hT
  have q5 := h0.2.2.2.2.2.1 5 (by decide)
  have q4 := h0.2.2.2.2.2.1 4 (by decide)
  have b5 := ad_b _ q5
  have hs5 := h0.2.2.1 _ q5
  have hs4 := h0.2.2.1 _ q4
  have ne : q 5 ≠ q 4 := fun e => absurd (h0.2.2.2.2.2.2 5 4 (by decide) (by decide) e) (by decide)
  simp only [s58_0, s58_1, s58_4, s58_5, s58_8, s58_e, h0.f, oB_some, hs5.f]
  refine Call.mono (c_copyS hs5 hs4 (ad_d _ q5 _ q4 ne)) ?_
  rintro rv h' ⟨rfl, k, r⟩
  have f1 : fldv h' 0 4 1 = some (.ref (ad (q 5))) := (h0.1.fr r (by omega)).ld rfl
  simp only [Option.toList_none, List.nil_append, s58_11, s58_12, s58_15, f1, oB_some]
  exact ⟨_, rfl, hT'.run k (FrT.s r) (h0.2.2.2.2.1.fr r (by omega)) h1, r.up (by omega) (by omega)⟩
theorem c_settle (hT : HPT h a S H T tn tc) (r : Int32) : Call 59 [.ref 0, .int r] h (fun rv h' => rv = some (.int r) ∧ HP h' (if isE r = true then S else T) (if isE r = true then H else pushH H S) tn tc ∧ Fr 0 423 h h') := by
  have hT' := hT
  obtain ⟨q, C, K, F, g, h0, h1, h2, h3, rfl, rfl, rfl, h7⟩ := hT
  have h0' := h0
  obtain ⟨a1, a2, a3, a4, a5, a6, a7⟩ := h0
  have q4 := a6 4 (by decide)
  have q5 := a6 5 (by decide)
  simp only [s59_0, s59_1, s59_4, s59_e, c_isError, Option.toList_some, List.cons_append, List.nil_append]
  by_cases er : isE r = true
  · rw [if_pos er, if_neg (show ¬ (1 : Int32) = 0 by decide), if_pos er, if_pos er]
    simp only [s59_7, s59_8]
    exact ⟨trivial, ⟨_, _, hT'⟩, Fr.rf⟩
  · rw [if_neg er, if_pos rfl, if_neg er, if_neg er]
    have tail : ∀ (m sp : Nat) (hh : AHp) (gq : Nat → Nat) (v3 : Value), m < 4 → HO hh 0 4 [.ref (ad (q 4)), .ref (ad (q 5)), .ref 139, .int (nI (m + 1)), .ref 140, .ref 144] → HQ hh 139 3 4 gq → F2 h hh →
        (∀ h', HO h' 0 4 [.ref (ad (q 5)), .ref sp, .ref 139, .int (nI (m + 1)), .ref 140, .ref 144] → HQ h' 139 3 4 (fun i => if i = m then ad (q 4) else gq i) → F2 h h' → HP h' (C (q 5)) (pushH H (C (q 4))) tn tc) →
        Ev none 59 74 [.ref 0, .int r, .ref sp, v3] [] hh (fun rv h' => rv = some (.int r) ∧ HP h' (C (q 5)) (pushH H (C (q 4))) tn tc ∧ Fr 0 423 h h') := by
      intro m sp hh gq v3 hm z1 z2 z3 z4
      have is4 : isO hh (ad (q 4)) 3 := by
        obtain ⟨fs, i1⟩ := (a3 _ q4).f.2.2.2.2.2.2.2.2.2.2.2
        have := ad_b _ q4
        exact ⟨fs, by rw [z3.2 _ (by omega) (by omega)]; exact i1⟩
      obtain ⟨g1, e1, k1, r1⟩ := z2.st hm (by decide) (by decide) is4 rfl
      have o1 := z1.fr r1 (by omega)
      obtain ⟨g2, e2, k2, r2⟩ := o1.st (k := 0) (v := .ref (ad (q 5))) (show 0 < 6 by decide) rfl
      obtain ⟨g3, e3, k3, r3⟩ := k2.st (k := 1) (v := .ref sp) (show 1 < 6 by decide) rfl
      have f0 : fldv hh 0 4 0 = some (.ref (ad (q 4))) := z1.ld rfl
      have f2 : fldv hh 0 4 2 = some (.ref 139) := z1.ld rfl
      have f3 : fldv hh 0 4 3 = some (.int (nI (m + 1))) := z1.ld rfl
      have f1 : fldv g1 0 4 1 = some (.ref (ad (q 5))) := o1.ld rfl
      simp only [s59_74, s59_75, s59_78, s59_79, s59_82, s59_83, s59_84, s59_85, s59_88, s59_89, s59_90, s59_91, s59_94, s59_97, s59_98, s59_99, s59_102, s59_103, f0, f1, f2, f3, oB_some, nI_pred, e1, e2, e3]
      have fr : F2 h g3 := ((z3.tr (F2.b r1)).tr (F2.a r2)).tr (F2.a r3)
      exact ⟨trivial, z4 g3 k3 ((k1.fr r2 (by omega)).fr r3 (by omega)) fr, fr.up⟩
    simp only [s59_9, s59_10, s59_13, s59_14, h0'.f, oB_some, (show (4 : Int32) = nI 4 from rfl), le_nI (show 4 < 2147483648 by decide) (show H.length < 2147483648 by omega)]
    by_cases c : H.length < 4
    · rw [if_neg (by omega)]
      have z := s3_ok _ c
      obtain ⟨g1, e1, k1, r1⟩ := a1.st (k := 3) (v := .int (nI (H.length + 1))) (show 3 < 6 by decide) rfl
      have lq := a2.ld (w := H.length) c (by decide) (by decide)
      simp only [s59_17, s59_18, s59_21, s59_22, s59_25, s59_26, s59_27, s59_28, s59_29, s59_32, s59_33, s59_34, s59_37, h0'.f, oB_some, lq, nI_s, e1]
      refine tail H.length (ad (q H.length)) g1 _ _ c k1 (a2.fr r1 (by omega)) (F2.a r1) ?_
      intro h' u1 u2 u3
      refine ⟨_, _, fun i => q (s4 H.length i), C, K, F, g, ?_, h1, h2, ?_, rfl, rfl, ?_, ?_⟩
      · have el : (pushH H (C (q 4))).length = H.length + 1 := by unfold pushH; rw [if_pos c, List.length_append]; rfl
        rw [el]
        have w4 : s4 H.length 4 = 5 := by unfold s4; rw [if_neg (by omega)]; rfl
        have w5 : s4 H.length 5 = H.length := by unfold s4; rw [if_neg (by omega)]; rfl
        refine h0'.mv u3 ?_ (u2.to (fun i hi => ?_)) (fun i hi => a6 _ (z i hi).1) (fun i j hi hj he => (z i hi).2 j hj (a7 _ _ (z i hi).1 (z j hj).1 he))
        · show HO h' 0 4 [.ref (ad (q (s4 H.length 4))), .ref (ad (q (s4 H.length 5))), _, _, _, _]
          rw [w4, w5]; exact u1
        · show (if i = H.length then ad (q 4) else ad (q i)) = ad (q (s4 H.length i))
          unfold s4
          by_cases e : i = H.length
          · rw [if_pos e, if_pos e]
          · rw [if_neg e, if_neg e, if_neg (by omega), if_neg (by omega)]
      · unfold pushH; rw [if_pos c, List.length_append]; exact c
      · show C (q (s4 H.length 4)) = _
        have w4 : s4 H.length 4 = 5 := by unfold s4; rw [if_neg (by omega)]; rfl
        rw [w4]
      · intro k hk
        unfold pushH at hk ⊢
        rw [if_pos c] at hk ⊢
        rw [List.length_append] at hk
        show _ = some (C (q (s4 H.length k)))
        unfold s4
        by_cases e : k = H.length
        · rw [if_pos e, e, List.getElem?_append_right (Nat.le_refl _), Nat.sub_self]; rfl
        · have hk2 : k < H.length := by
            have : k < H.length + 1 := hk
            omega
          rw [if_neg e, if_neg (by omega), if_neg (by omega), List.getElem?_append_left hk2]
          exact h7 k hk2
    · have h4 : H.length = 4 := by omega
      rw [if_pos (by omega)]
      have lq := a2.ld (w := 0) (by decide) (by decide) (by decide)
      have lq' : ldq h 139 0 = some (.ref (ad (q 0))) := lq
      simp only [s59_40, s59_41, s59_44, s59_45, s59_46, s59_47, s59_48, h0'.f, oB_some, lq']
      have loop : ∀ d m (hh : AHp) (gq : Nat → Nat), m + d = 3 → HQ hh 139 3 4 gq → (∀ i, i < 4 → gq i = if i < m then ad (q (i + 1)) else ad (q i)) → F2 h hh → HO hh 0 4 [.ref (ad (q 4)), .ref (ad (q 5)), .ref 139, .int (nI H.length), .ref 140, .ref 144] →
          Ev none 59 49 [.ref 0, .int r, .ref (ad (q 0)), .int (nI (m + 1))] [] hh (fun rv h' => rv = some (.int r) ∧ HP h' (C (q 5)) (pushH H (C (q 4))) tn tc ∧ Fr 0 423 h h') := by
        intro d
        induction d with
        | zero =>
          intro m hh gq z0 z1 z2 z3 z4
          obtain rfl : m = 3 := by omega
          simp only [s59_49, s59_50, s59_51, if_pos (show (4 : Int32) ≤ nI (3 + 1) by decide)]
          rw [h4] at z4
          refine tail 3 (ad (q 0)) hh gq _ (by decide) z4 z1 z3 ?_
          intro h' u1 u2 u3
          have el : (pushH H (C (q 4))).length = 4 := by unfold pushH; rw [if_neg c, List.length_append, List.length_tail, h4]; rfl
          refine ⟨_, _, fun i => q (s5 i), C, K, F, g, ?_, h1, h2, by rw [el]; decide, rfl, rfl, rfl, ?_⟩
          · rw [el]
            refine h0'.mv u3 u1 (u2.to (fun i hi => ?_)) (fun i hi => a6 _ (s4_ok i hi).1) (fun i j hi hj he => (s4_ok i hi).2 j hj (a7 _ _ (s4_ok i hi).1 (s4_ok j hj).1 he))
            show (if i = 3 then ad (q 4) else gq i) = ad (q (s5 i))
            unfold s5
            by_cases e : i = 3
            · subst e; rfl
            · rw [if_neg e, z2 i hi, if_pos (by omega), if_pos (by omega)]
          · intro k hk
            rw [el] at hk
            unfold pushH
            rw [if_neg c]
            show _ = some (C (q (s5 k)))
            unfold s5
            by_cases e : k < 3
            · rw [if_pos e, List.getElem?_append_left (by rw [List.length_tail]; omega), List.getElem?_tail]
              exact h7 (k + 1) (by omega)
            · obtain rfl : k = 3 := by omega
              rw [List.getElem?_append_right (by rw [List.length_tail]; omega), List.length_tail, h4]
              rfl
        | succ d ih =>
          intro m hh gq z0 z1 z2 z3 z4
          have is : isO hh (ad (q (m + 1))) 3 := by
            have q6 := a6 (m + 1) (by omega)
            obtain ⟨fs, i1⟩ := (a3 _ q6).f.2.2.2.2.2.2.2.2.2.2.2
            have := ad_b _ q6
            exact ⟨fs, by rw [z3.2 _ (by omega) (by omega)]; exact i1⟩
          obtain ⟨g1, e1, k1, r1⟩ := z1.st (w := m) (v := ad (q (m + 1))) (by omega) (by decide) (by decide) is rfl
          have l1 := z1.ld (w := m + 1) (by omega) (by decide) (by decide)
          rw [z2 (m + 1) (by omega), if_neg (by omega)] at l1
          have f2 : fldv hh 0 4 2 = some (.ref 139) := z4.ld rfl
          simp only [s59_49, s59_50, s59_51, if_neg (show ¬ (4 : Int32) ≤ nI (m + 1) from nI_ge (b := 4) (by omega) (by decide))]
          simp only [s59_54, s59_55, s59_58, s59_59, s59_60, s59_61, s59_62, s59_65, s59_66, s59_67, s59_68, s59_71, f2, oB_some, nI_pred, l1, e1, nI_s]
          refine ih (m + 1) g1 _ (by omega) k1 (fun i hi => ?_) (z3.tr (F2.b r1)) (z4.fr r1 (by omega))
          show (if i = m then ad (q (m + 1)) else gq i) = _
          by_cases e : i = m
          · subst e; rw [if_pos rfl, if_pos (by omega)]
          · rw [if_neg e, z2 i hi]
            by_cases e2 : i < m
            · rw [if_pos e2, if_pos (by omega)]
            · rw [if_neg e2, if_neg (by omega)]
      exact loop 3 0 h _ rfl a2 (fun i hi => by rw [if_neg (by omega)]) F2.rf a1
/-- the undoing: the answer, the state, the history -/
def aUndo (S : St) (H : List St) : Int32 × St × List St := match H.getLast? with
  | none => (eN, S, H)
  | some T => (nI (H.length - 1), T, H.dropLast)
end SE
