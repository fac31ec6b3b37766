/-! The class's text: an order is read, all orders are run. -/
/-- the run of a text: the fault, how many orders are done, the state -/
def rn (c : Nat → Int32) (n : Nat) : Nat → Nat → Nat → St → Option (Nat × Int32 × Int32) × Nat × St
  | 0, _, k, S => (none, k, S)
  | d + 1, p, k, S => if p < n then
      (if (rdO c n p).1 = true then
        (if isE (aOrd S (c p) (fun i => (rdO c n p).2.2.getD i 0)).1 = true then (some (p, 2, (aOrd S (c p) (fun i => (rdO c n p).2.2.getD i 0)).1), k, (aOrd S (c p) (fun i => (rdO c n p).2.2.getD i 0)).2)
         else rn c n d (rdO c n p).2.1 (k + 1) (aOrd S (c p) (fun i => (rdO c n p).2.2.getD i 0)).2)
       else (some (p, 1, nI (rdO c n p).2.1 - nI p), k, S))
      else (none, k, S)
theorem aOrd_ext {S : St} {k : Int32} {g g' : Nat → Int32} (hk : ¬ nOf k = 0) (he : ∀ i, i < nOf k → g i = g' i) : aOrd S k g = aOrd S k g' := by
  have e0 : g 0 = g' 0 := he 0 (by omega)
  unfold aOrd
  rw [e0]
  by_cases c1 : k = 110
  · rw [if_pos c1, if_pos c1]
  rw [if_neg c1, if_neg c1]
  by_cases c2 : k = 97
  · subst c2
    rw [if_pos rfl, if_pos rfl, he 1 (by decide)]
  rw [if_neg c2, if_neg c2]
  by_cases c3 : k = 116
  · subst c3
    rw [if_pos rfl, if_pos rfl, he 1 (by decide)]
  rw [if_neg c3, if_neg c3]
  by_cases c4 : k = 114
  · subst c4
    rw [if_pos rfl, if_pos rfl, he 1 (by decide)]
  rw [if_neg c4, if_neg c4]
  by_cases c5 : k = 112
  · subst c5
    rw [if_pos rfl, if_pos rfl, he 1 (by decide), he 2 (by decide)]
  rw [if_neg c5, if_neg c5]
theorem nOf_3 (x : Int32) : nOf x ≤ 3 := by
  unfold nOf
  by_cases c1 : x = 112
  · rw [if_pos c1]; decide
  rw [if_neg c1]
  by_cases c2 : x = 97 ∨ x = 116 ∨ x = 114
  · rw [if_pos c2]; decide
  rw [if_neg c2]
  by_cases c3 : x = 110 ∨ x = 107
  · rw [if_pos c3]; decide
  rw [if_neg c3]; decide
def FrT (t : Nat) (h h' : AHp) : Prop := h'.length = h.length ∧ ∀ j, ¬ (t ≤ j ∧ j < t + 69) → ¬ (144 ≤ j ∧ j < 147) → h'[j]? = h[j]?
theorem FrT.rf {t : Nat} {h : AHp} : FrT t h h := ⟨rfl, fun _ _ _ => rfl⟩
theorem FrT.tr {t : Nat} {h h1 h2 : AHp} (a : FrT t h h1) (c : FrT t h1 h2) : FrT t h h2 := ⟨c.1.trans a.1, fun j q1 q2 => (c.2 j q1 q2).trans (a.2 j q1 q2)⟩
theorem FrT.s {t : Nat} {h h' : AHp} (a : Fr t (t + 69) h h') : FrT t h h' := ⟨a.1, fun j q1 _ => a.2 j (by omega)⟩
theorem FrT.c {t : Nat} {h h' : AHp} (a : Fr 144 147 h h') : FrT t h h' := ⟨a.1, fun j _ q2 => a.2 j (by omega)⟩
section RI
variable {h h' : AHp} {F f g : Nat → Int32} {n p : Nat}
theorem c_readOrder (hC : HC h F f g) (hn : F 1 = nI n) (hb : n ≤ 60) (hpn : p < n) : Call 20 [.ref 144, .int (nI p)] h (fun rv h' => rv = some (.int (if (rdO f n p).1 = true then 1 else 0)) ∧ (∃ F' g', HC h' F' f g' ∧ F' 8 = nI (rdO f n p).2.1 ∧ F' 6 = f p ∧ (∀ j, j ≠ 8 → j ≠ 6 → F' j = F j) ∧ ((rdO f n p).1 = true → ∀ i, i < nOf (f p) → g' i = (rdO f n p).2.2.getD i 0)) ∧ Fr 144 147 h h') := by
  obtain ⟨h1, e1, k1, r1⟩ := hC.sF (k := 8) (by decide) (nI p)
  obtain ⟨h2, e2, k2, r2⟩ := k1.sF (k := 6) (by decide) (f p)
  have q6 : fldv h2 144 2 6 = some (.int (f p)) := k2.fd.2.2.2.2.2.2.1
  simp only [s20_0, s20_1, s20_2, s20_5, s20_6, s20_7, s20_10, s20_11, s20_12, s20_15, s20_16, s20_19, s20_22, s20_23, s20_24, s20_e, hC.fd, oB_some, e1, k1.fd, k1.lc (show p < 60 by omega), e2, q6, c_numbersOf, Option.toList_some, List.cons_append, List.nil_append]
  have hw3 := nOf_3 (f p)
  unfold rdO
  by_cases c0 : nOf (f p) = 0
  · rw [if_neg (by rw [c0]; decide), if_pos c0]
    simp only [s20_27, s20_28]
    exact ⟨Or.inl trivial, rfl, ⟨_, _, k2, rfl, rfl, fun j q8 q6 => by unfold upd; rw [if_neg q6, if_neg q8], fun q => by cases q⟩, r1.tr r2⟩
  · rw [if_pos (by rw [show (0 : Int32) = nI 0 from rfl, nI_eq (by omega) (by decide)]; exact c0), if_neg c0]
    obtain ⟨h3, e3, k3, r3⟩ := k2.sF (k := 8) (by decide) (nI (p + 1))
    have q8 : fldv h2 144 2 8 = some (.int (nI p)) := k2.fd.2.2.2.2.2.2.2.2.1
    simp only [s20_29, s20_30, s20_31, s20_34, s20_35, s20_36, s20_39, s20_40, q8, oB_some, nI_s, e3]
    obtain ⟨R, hR⟩ : ∃ R, rdL f n (nOf (f p)) (p + 1) = R := ⟨_, rfl⟩
    obtain ⟨W, hW⟩ : ∃ W, nOf (f p) = W := ⟨_, rfl⟩
    rw [hW] at hR c0 hw3
    rw [hW, hR]
    have loop : ∀ m k p' (pre : List Int32) (hh : AHp) (F' g' : Nat → Int32), k + m = W → pre.length = k → p' ≤ n → HC hh F' f g' → F' 8 = nI p' → F' 6 = f p → (∀ j, j ≠ 8 → j ≠ 6 → F' j = F j) → (∀ i, i < k → g' i = pre.getD i 0) → R = ((rdL f n m p').1, (rdL f n m p').2.1, pre ++ (rdL f n m p').2.2) → Fr 144 147 h hh →
        Ev none 20 41 [.ref 144, .int (nI p), .int (nI W), .int (nI k)] [] hh (fun rv h' => rv = some (.int (if R.1 = true then 1 else 0)) ∧ (∃ F' g', HC h' F' f g' ∧ F' 8 = nI R.2.1 ∧ F' 6 = f p ∧ (∀ j, j ≠ 8 → j ≠ 6 → F' j = F j) ∧ (R.1 = true → ∀ i, i < W → g' i = R.2.2.getD i 0)) ∧ Fr 144 147 h h') := by
      intro m
      induction m with
      | zero =>
        intro k p' pre hh F' g' a1 a2 a3 a4 a5 a6 a7 a8 a9 a10
        obtain rfl : k = W := by omega
        subst a9
        simp only [s20_41, s20_42, s20_43, if_pos (Int32.le_refl _), s20_83, s20_84]
        refine ⟨Or.inr trivial, rfl, ⟨F', g', a4, a5, a6, a7, fun _ i hi => ?_⟩, a10⟩
        show g' i = (pre ++ []).getD i 0
        rw [List.append_nil]
        exact a8 i hi
      | succ m ih =>
        intro k p' pre hh F' g' a1 a2 a3 a4 a5 a6 a7 a8 a9 a10
        have hn' : F' 1 = nI n := (a7 1 (by decide) (by decide)).trans hn
        simp only [s20_41, s20_42, s20_43, s20_46, s20_47, s20_48, if_neg (show ¬ nI W ≤ nI k from nI_ge (by omega) (by omega)), a4.fd]
        refine Call.mono (c_readNumber a4 hn' hb a5 a3 (show k < 3 by omega)) ?_
        rintro rv h5 ⟨rfl, ⟨F5, k5, b5, b6⟩, r5⟩
        have hrd := rdN_le f n 3 p' 0 a3
        have hn5 : F5 1 = nI n := (b6 1 (by decide)).trans hn'
        have fo5 : ∀ j, j ≠ 8 → j ≠ 6 → F5 j = F j := fun j q8 q6 => (b6 j q8).trans (a7 j q8 q6)
        simp only [s20_51, Option.toList_some, List.cons_append, List.nil_append]
        unfold rdL at a9
        by_cases c1 : (rdN f n 3 p' 0).1 = p'
        · rw [if_pos c1] at a9
          rw [if_pos c1, if_pos rfl]
          subst a9
          simp only [s20_75, s20_76]
          refine ⟨Or.inl trivial, rfl, ⟨F5, _, k5, ?_, (b6 6 (by decide)).trans a6, fo5, fun q => by cases q⟩, a10.tr r5⟩
          rw [b5, c1]
        · rw [if_neg c1] at a9
          rw [if_neg c1, if_neg (show ¬ (1 : Int32) = 0 by decide)]
          have hpred : nI W - 1 = nI (k + m) := by rw [← a1, ← Nat.add_assoc]; exact nI_pred _
          have sig : Ev none 20 69 [.ref 144, .int (nI p), .int (nI W), .int (nI k)] [.int (sg m), .ref 144] h5 (fun rv h' => rv = some (.int (if R.1 = true then 1 else 0)) ∧ (∃ F' g', HC h' F' f g' ∧ F' 8 = nI R.2.1 ∧ F' 6 = f p ∧ (∀ j, j ≠ 8 → j ≠ 6 → F' j = F j) ∧ (R.1 = true → ∀ i, i < W → g' i = R.2.2.getD i 0)) ∧ Fr 144 147 h h') := by
            simp only [s20_69, k5.fd]
            refine Call.mono (c_readSign k5 hn5 hb b5 hrd.2.1 (sg m)) ?_
            rintro rv h7 ⟨rfl, k7, r7⟩
            simp only [s20_72, Option.toList_some, List.cons_append, List.nil_append]
            by_cases c2 : (rdN f n 3 p' 0).1 < n ∧ f (rdN f n 3 p' 0).1 = sg m
            · rw [if_pos c2] at a9 k7
              rw [if_pos c2, if_pos (show ¬ (1 : Int32) = 0 by decide)]
              simp only [s20_77, s20_80, nI_s]
              refine ih (k + 1) ((rdN f n 3 p' 0).1 + 1) (pre ++ [(rdN f n 3 p' 0).2]) h7 _ _ (by omega) (by rw [List.length_append, a2]; rfl) (by omega) k7 rfl ?_ ?_ ?_ ?_ ((a10.tr r5).tr r7)
              · exact (b6 6 (by decide)).trans a6
              · intro j q8 q6
                unfold upd
                rw [if_neg q8]
                exact fo5 j q8 q6
              · intro i hi
                unfold upd
                by_cases q : i = k
                · subst q
                  rw [if_pos rfl, List.getD_eq_getElem?_getD, List.getElem?_append_right (by omega), a2, Nat.sub_self]
                  rfl
                · rw [if_neg q, List.getD_eq_getElem?_getD, List.getElem?_append_left (by omega), ← List.getD_eq_getElem?_getD]
                  exact a8 i (by omega)
              · rw [a9]
                simp
            · rw [if_neg c2] at a9 k7
              rw [if_neg c2, if_neg (show ¬ ¬ (0 : Int32) = 0 by decide)]
              subst a9
              simp only [s20_75, s20_76]
              exact ⟨Or.inl trivial, rfl, ⟨F5, _, k7, b5, (b6 6 (by decide)).trans a6, fo5, fun q => by cases q⟩, (a10.tr r5).tr r7⟩
          simp only [s20_54, s20_55, s20_56, s20_57, s20_58, s20_59, hpred, nI_eq (show k < 2147483648 by omega) (show k + m < 2147483648 by omega)]
          by_cases cm : m = 0
          · subst cm
            rw [if_neg (by omega)]
            simp only [s20_62, s20_64]
            exact sig
          · rw [if_pos (by omega)]
            simp only [s20_67]
            have e44 : sg m = 44 := if_neg cm
            rw [e44] at sig
            exact sig
    exact loop W 0 (p + 1) [] h3 _ _ (Nat.zero_add _) rfl (by omega) k3 rfl rfl (fun j q8 q6 => by unfold upd; rw [if_neg q8, if_neg q6, if_neg q8]) (fun i hi => absurd hi (Nat.not_lt_zero i)) (by rw [hR]; simp) ((r1.tr r2).tr r3)
end RI
