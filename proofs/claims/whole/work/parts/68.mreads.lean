/-! The model's text: an order is read. -/
/-- the text as the model keeps it -/
def TX (F : Nat → Int32) (A : Ar) (c : Nat → Int32) (n : Nat) : Prop := F 7 = nI n ∧ n ≤ 60 ∧ ∀ i, i < n → A.2.2.2.1 i = c i
/-- what reading may change: where it is, the order, the numbers -/
def SK (F : Nat → Int32) (A : Ar) (F' : Nat → Int32) (A' : Ar) : Prop := (∀ j, j ≠ 8 → j ≠ 13 → F' j = F j) ∧ A'.1 = A.1 ∧ A'.2.1 = A.2.1 ∧ A'.2.2.1 = A.2.2.1 ∧ A'.2.2.2.1 = A.2.2.2.1
theorem SK.rf {F : Nat → Int32} {A : Ar} : SK F A F A := ⟨fun _ _ _ => rfl, rfl, rfl, rfl, rfl⟩
theorem SK.tr {F F1 F2 : Nat → Int32} {A A1 A2 : Ar} (a : SK F A F1 A1) (b : SK F1 A1 F2 A2) : SK F A F2 A2 :=
  ⟨fun j h1 h2 => (b.1 j h1 h2).trans (a.1 j h1 h2), b.2.1.trans a.2.1, b.2.2.1.trans a.2.2.1, b.2.2.2.1.trans a.2.2.2.1, b.2.2.2.2.trans a.2.2.2.2⟩
theorem SK.sp {F : Nat → Int32} {A : Ar} (x : Int32) : SK F A (upd F 8 x) A := ⟨fun j h1 _ => u_ne h1, rfl, rfl, rfl, rfl⟩
theorem SK.or {F : Nat → Int32} {A : Ar} (x : Int32) : SK F A (upd F 13 x) A := ⟨fun j _ h1 => u_ne h1, rfl, rfl, rfl, rfl⟩
theorem SK.tl {F : Nat → Int32} {A : Ar} (f : Nat → Int32) : SK F A F (A.1, A.2.1, A.2.2.1, A.2.2.2.1, f) := ⟨fun _ _ _ => rfl, rfl, rfl, rfl, rfl⟩
theorem TX.sk {F F' : Nat → Int32} {A A' : Ar} {c : Nat → Int32} {n : Nat} (h : TX F A c n) (k : SK F A F' A') : TX F' A' c n :=
  ⟨(k.1 7 (by decide) (by decide)).trans h.1, h.2.1, fun i hi => by rw [k.2.2.2.2]; exact h.2.2 i hi⟩
section MRD
variable {h h' : AHp} {F s : Nat → Int32} {A : Ar} {c : Nat → Int32} {n p : Nat}
theorem m_isAt (hM : HM h F s A) (hT : TX F A c n) (hp : F 8 = nI p) (hpn : p ≤ n) (x y : Int32) : ∀ post, Call 144 [.ref 423, .int x, .int y] h post = post (some (.int (if p < n ∧ x ≤ c p ∧ c p ≤ y then 1 else 0))) h := by
  refine call_eq ?_
  obtain ⟨t1, t2, t3⟩ := hT
  simp only [s144_0, s144_1, s144_4, s144_5, s144_8, s144_e, hM.f, oB_some, hp, t1]
  by_cases c1 : p < n
  · rw [if_neg (show ¬ nI n ≤ nI p from nI_ge c1 (by omega))]
    have l1 := hM.lx (show p < 60 by omega)
    rw [t3 p c1] at l1
    simp only [s144_11, s144_12, s144_15, s144_16, s144_19, s144_20, s144_21, s144_22, s144_25, hM.f, oB_some, hp, l1, m_in, Option.toList_some, List.cons_append, List.nil_append]
    by_cases c2 : x ≤ c p ∧ c p ≤ y
    · rw [if_pos c2, if_neg (show ¬ (1 : Int32) = 0 by decide), if_pos ⟨c1, c2⟩]
      simp only [s144_28, s144_29, s144_32, s144_33]
      exact ⟨by first | trivial | decide, by first | trivial | rfl, trivial⟩
    · rw [if_neg c2, if_pos rfl, if_neg (fun q => c2 q.2)]
      simp only [s144_32, s144_33]
      exact ⟨by first | trivial | decide, by first | trivial | rfl, trivial⟩
  · rw [if_pos (show nI n ≤ nI p by rw [le_nI (by omega) (by omega)]; omega), if_neg (fun q => c1 q.1)]
    simp only [s144_32, s144_33]
    exact ⟨by first | trivial | decide, by first | trivial | rfl, trivial⟩
theorem m_sign (hM : HM h F s A) (hT : TX F A c n) (hp : F 8 = nI p) (hpn : p ≤ n) (x : Int32) : Call 145 [.ref 423, .int x] h (fun rv h' => rv = some (.int (if p < n ∧ c p = x then 1 else 0)) ∧ (∃ F', HM h' F' s A ∧ SK F A F' A ∧ F' 8 = nI (if p < n ∧ c p = x then p + 1 else p) ∧ F' 13 = F 13) ∧ Fr 423 430 h h') := by
  have e : (p < n ∧ x ≤ c p ∧ c p ≤ x) = (p < n ∧ c p = x) := propext ⟨fun q => ⟨q.1, Int32.le_antisymm q.2.2 q.2.1⟩, fun q => ⟨q.1, by rw [q.2]; exact Int32.le_refl _, by rw [q.2]; exact Int32.le_refl _⟩⟩
  simp only [s145_0, s145_1, s145_2, s145_3, s145_6, s145_7, s145_8, s145_9, s145_12, s145_13, s145_e, hM.f, m_isAt hM hT hp hpn, oB_some, hp, e, Option.toList_some, List.cons_append, List.nil_append]
  by_cases q : p < n ∧ c p = x
  · simp only [if_pos q]
    rw [if_neg (show ¬ (1 : Int32) = 0 by decide)]
    obtain ⟨h1, e1, k1, r1⟩ := hM.sF (k := 8) (by decide) (nI (p + 1))
    simp only [s145_16, s145_17, s145_21, s145_22, s145_25, s145_26, nI_1, e1, oB_some]
    exact ⟨by first | trivial | decide, by first | trivial | rfl, ⟨_, k1, SK.sp _, u_eq, u_ne (by decide)⟩, r1⟩
  · simp only [if_neg q]
    rw [if_pos trivial]
    obtain ⟨h1, e1, k1, r1⟩ := hM.sF (k := 8) (by decide) (nI p)
    simp only [s145_20, s145_21, s145_22, s145_25, s145_26, Int32.add_zero, e1, oB_some]
    exact ⟨by first | trivial | decide, by first | trivial | rfl, ⟨_, k1, SK.sp _, u_eq, u_ne (by decide)⟩, r1⟩
theorem m_number (hM : HM h F s A) (hT : TX F A c n) (hp : F 8 = nI p) (hpn : p ≤ n) {k : Nat} (hk : k < 3) : Call 146 [.ref 423, .int (nI k)] h (fun rv h' => rv = some (.int (if (rdN c n 3 p 0).1 = p then 0 else 1)) ∧ (∃ F' A', HM h' F' s A' ∧ SK F A F' A' ∧ F' 8 = nI (rdN c n 3 p 0).1 ∧ F' 13 = F 13 ∧ A'.2.2.2.2 k = (rdN c n 3 p 0).2 ∧ ∀ i, i ≠ k → A'.2.2.2.2 i = A.2.2.2.2 i) ∧ Fr 423 430 h h') := by
  obtain ⟨h1, e1, k1, r1⟩ := hM.stl hk 0
  obtain ⟨R, hR⟩ : ∃ R, R = rdN c n 3 p 0 := ⟨_, rfl⟩
  rw [← hR]
  have h60 := hT.2.1
  have loop : ∀ d q (x : Int32) (hh : AHp) (F1 : Nat → Int32) (A1 : Ar), q + d = p + 3 → p ≤ q → q ≤ n → rdN c n d q x = R → HM hh F1 s A1 → SK F A F1 A1 → F1 8 = nI q → F1 13 = F 13 → A1.2.2.2.2 k = x → (∀ i, i ≠ k → A1.2.2.2.2 i = A.2.2.2.2 i) → Fr 423 430 h hh →
      Ev none 146 12 [.ref 423, .int (nI k), .int (nI p)] [] hh (fun rv h' => rv = some (.int (if R.1 = p then 0 else 1)) ∧ (∃ F' A', HM h' F' s A' ∧ SK F A F' A' ∧ F' 8 = nI R.1 ∧ F' 13 = F 13 ∧ A'.2.2.2.2 k = R.2 ∧ ∀ i, i ≠ k → A'.2.2.2.2 i = A.2.2.2.2 i) ∧ Fr 423 430 h h') := by
    intro d
    have fin : ∀ q (x : Int32) (hh : AHp) (F1 : Nat → Int32) (A1 : Ar), p ≤ q → q ≤ n → (q, x) = R → HM hh F1 s A1 → SK F A F1 A1 → F1 8 = nI q → F1 13 = F 13 → A1.2.2.2.2 k = x → (∀ i, i ≠ k → A1.2.2.2.2 i = A.2.2.2.2 i) → Fr 423 430 h hh →
        Ev none 146 74 [.ref 423, .int (nI k), .int (nI p)] [] hh (fun rv h' => rv = some (.int (if R.1 = p then 0 else 1)) ∧ (∃ F' A', HM h' F' s A' ∧ SK F A F' A' ∧ F' 8 = nI R.1 ∧ F' 13 = F 13 ∧ A'.2.2.2.2 k = R.2 ∧ ∀ i, i ≠ k → A'.2.2.2.2 i = A.2.2.2.2 i) ∧ Fr 423 430 h h') := by
      intro q x hh F1 A1 z1 z2 z3 y1 y2 y3 y4 y5 y6 y7
      have ra : R.1 = q := by rw [← z3]
      have rb : R.2 = x := by rw [← z3]
      rw [ra, rb]
      simp only [s146_74, s146_75, s146_78, s146_79, y1.f, oB_some, y3, le_nI (show q < 2147483648 by omega) (show p < 2147483648 by omega)]
      by_cases e : q ≤ p
      · rw [if_pos e, if_pos (show q = p by omega)]
        simp only [s146_86, s146_87]
        exact ⟨by first | trivial | decide, by first | trivial | rfl, ⟨F1, A1, y1, y2, y3, y4, y5, y6⟩, y7⟩
      · rw [if_neg e, if_neg (show ¬ q = p by omega)]
        simp only [s146_82, s146_83, s146_87]
        exact ⟨by first | trivial | decide, by first | trivial | rfl, ⟨F1, A1, y1, y2, y3, y4, y5, y6⟩, y7⟩
    induction d with
    | zero =>
      intro q x hh F1 A1 hq hpq hqn hr y1 y2 y3 y4 y5 y6 y7
      have hT1 := hT.sk y2
      simp only [s146_12, s146_13, s146_15, s146_17, y1.f, m_isAt y1 hT1 y3 hqn, Option.toList_some, List.cons_append, List.nil_append]
      by_cases e : q < n ∧ 48 ≤ c q ∧ c q ≤ 57
      · rw [if_pos e]
        have es : nI q - nI p = nI (q - p) := pk_sub hpq
        simp only [s146_20, s146_23, s146_24, s146_27, s146_28, s146_29, s146_30, if_neg (show ¬ (1 : Int32) = 0 by decide), y1.f, oB_some, y3, es]
        rw [if_pos (show (3 : Int32) ≤ nI (q - p) by rw [show q - p = 3 by omega]; decide)]
        exact fin q x hh F1 A1 hpq hqn hr y1 y2 y3 y4 y5 y6 y7
      · rw [if_neg e]
        simp only [s146_20, if_true]
        exact fin q x hh F1 A1 hpq hqn hr y1 y2 y3 y4 y5 y6 y7
    | succ d ih =>
      intro q x hh F1 A1 hq hpq hqn hr y1 y2 y3 y4 y5 y6 y7
      have hT1 := hT.sk y2
      simp only [s146_12, s146_13, s146_15, s146_17, y1.f, m_isAt y1 hT1 y3 hqn, Option.toList_some, List.cons_append, List.nil_append]
      unfold rdN at hr
      by_cases e : q < n ∧ 48 ≤ c q ∧ c q ≤ 57
      · rw [if_pos e]
        rw [if_pos e] at hr
        have es : nI q - nI p = nI (q - p) := pk_sub hpq
        simp only [s146_20, s146_23, s146_24, s146_27, s146_28, s146_29, s146_30, if_neg (show ¬ (1 : Int32) = 0 by decide), y1.f, oB_some, y3, es]
        rw [if_neg (show ¬ (3 : Int32) ≤ nI (q - p) from nI_ge (b := 3) (by omega) (by decide))]
        have l1 := y1.lt hk
        rw [y5] at l1
        have l2 := y1.lx (show q < 60 by omega)
        rw [hT1.2.2 q e.1] at l2
        obtain ⟨h2, e2, k2, r2⟩ := y1.stl hk (x * 10 + c q - 48)
        obtain ⟨h3, e3, k3, r3⟩ := k2.sF (k := 8) (by decide) (nI (q + 1))
        have em : (10 : Int32) * x + c q - 48 = x * 10 + c q - 48 := by rw [Int32.mul_comm]
        simp only [s146_33, s146_34, s146_37, s146_38, s146_40, s146_41, s146_44, s146_45, s146_46, s146_47, s146_48, s146_51, s146_52, s146_55, s146_56, s146_57, s146_59, s146_60, s146_61, s146_62, s146_63, s146_66, s146_67, s146_68, s146_71, y1.f, k2.f, oB_some, y3, l1, l2, em, e2, nI_1, e3]
        exact ih (q + 1) _ h3 _ _ (by omega) (by omega) (by omega) hr k3 ((y2.tr (SK.tl _)).tr (SK.sp _)) u_eq ((u_ne (by decide)).trans y4) u_eq (fun i hi => (u_ne hi).trans (y6 i hi)) ((y7.tr r2).tr r3)
      · rw [if_neg e]
        rw [if_neg e] at hr
        simp only [s146_20, if_true]
        exact fin q x hh F1 A1 hpq hqn hr y1 y2 y3 y4 y5 y6 y7
  simp only [s146_0, s146_1, s146_4, s146_5, s146_6, s146_9, s146_10, s146_11, s146_e, hM.f, oB_some, hp, e1]
  exact loop 3 p 0 h1 F _ rfl (Nat.le_refl _) hpn hR.symm k1 (SK.tl _) hp rfl u_eq (fun i hi => u_ne hi) r1
theorem m_numbersOf (x : Int32) (h : AHp) : ∀ post, Call 147 [.int x] h post = post (some (.int (nI (nOf x)))) h := by
  refine call_eq ?_
  have key : nOf x = nOf x := rfl
  simp only [s147_0, s147_1, s147_3, s147_e]
  unfold nOf
  by_cases c1 : x = 112
  · rw [if_neg (fun q => q c1), if_pos c1]
    simp only [s147_6, s147_7, s147_49]
    first | exact ⟨rfl, trivial⟩ | exact ⟨trivial, trivial⟩
  rw [if_pos c1, if_neg c1]
  simp only [s147_10, s147_11, s147_13]
  by_cases c2 : x = 97
  · rw [if_pos c2, if_pos (Or.inl c2)]
    simp only [s147_28, s147_29, s147_49]
    first | exact ⟨rfl, trivial⟩ | exact ⟨trivial, trivial⟩
  rw [if_neg c2]
  simp only [s147_16, s147_17, s147_19]
  by_cases c3 : x = 116
  · rw [if_pos c3, if_pos (Or.inr (Or.inl c3))]
    simp only [s147_28, s147_29, s147_49]
    first | exact ⟨rfl, trivial⟩ | exact ⟨trivial, trivial⟩
  rw [if_neg c3]
  simp only [s147_22, s147_23, s147_25]
  by_cases c4 : x = 114
  · rw [if_neg (fun q => q c4), if_pos (Or.inr (Or.inr c4))]
    simp only [s147_28, s147_29, s147_49]
    first | exact ⟨rfl, trivial⟩ | exact ⟨trivial, trivial⟩
  rw [if_pos c4, if_neg (show ¬ (x = 97 ∨ x = 116 ∨ x = 114) from fun q => q.elim c2 (fun q => q.elim c3 c4))]
  simp only [s147_32, s147_33, s147_35]
  by_cases c5 : x = 110
  · rw [if_pos c5, if_pos (Or.inl c5)]
    simp only [s147_44, s147_45, s147_49]
    first | exact ⟨rfl, trivial⟩ | exact ⟨trivial, trivial⟩
  rw [if_neg c5]
  simp only [s147_38, s147_39, s147_41]
  by_cases c6 : x = 107
  · rw [if_neg (fun q => q c6), if_pos (Or.inr c6)]
    simp only [s147_44, s147_45, s147_49]
    first | exact ⟨rfl, trivial⟩ | exact ⟨trivial, trivial⟩
  rw [if_pos c6, if_neg (show ¬ (x = 110 ∨ x = 107) from fun q => q.elim c5 c6)]
  simp only [s147_48, s147_49]
  first | exact ⟨rfl, trivial⟩ | exact ⟨trivial, trivial⟩
end MRD
