/-! The model: where it keeps views and writers; its sets. -/
/-- the model's cells hold the counts, views and writers of a state; n letters; td: as how manieth one a view is there, 0 if not -/
def ML (s : Nat → Int32) (S : St) (n : Nat) (td : Nat → Nat) : Prop :=
  s 0 = nI (S.ct 0) ∧ s 1 = nI n ∧ s 2 = nI (S.ct 1) ∧ s 3 = nI (S.ct 2) ∧ s 4 = nI (S.ct 3) ∧ s 5 = S.ot ∧
  (∀ v, v < 6 → s (8 + 26 * v) = nI (td v) ∧ td v < 1073741824 ∧ S.th v = decide (0 < td v) ∧ MK s (9 + 26 * v) (S.vk v)) ∧
  (∀ w, w < S.ct 0 → s (164 + 2 * w) = nI (S.ho w) ∧ s (165 + 2 * w) = S.he w ∧ S.ho w < 6 ∧ (S.he w = -1 ∨ 0 ≤ S.he w)) ∧ S.ct 0 ≤ 8
def kern : Nat → Int32 → Int32 → Option Int32
  | 0, _, _ => none
  | d + 1, x, n => if x = 0 then some n else kern d (x &&& (x - 1)) (n + 1)
set_option maxRecDepth 100000 in
theorem kern_ok : ∀ k, k < 256 → kern 9 (nI k) 0 = some (bc (nI k)) := by decide +kernel
set_option maxRecDepth 100000 in
theorem obits_8 (p : Nat → Bool) : kern 9 (obits p 8) 0 = some (bc (obits p 8)) := by
  simp only [obits]
  generalize p 0 = b0
  generalize p 1 = b1
  generalize p 2 = b2
  generalize p 3 = b3
  generalize p 4 = b4
  generalize p 5 = b5
  generalize p 6 = b6
  generalize p 7 = b7
  revert b0 b1 b2 b3 b4 b5 b6 b7
  decide +kernel
theorem obits_68 (p : Nat → Bool) : obits p 6 = obits (fun i => decide (i < 6) && p i) 8 := by
  simp [obits]
theorem m_ones {x r : Int32} {d : Nat} (h : AHp) (hk : kern d x 0 = some r) : ∀ post, Call 99 [.int x] h post = post (some (.int r)) h := by
  refine call_eq ?_
  have loop : ∀ d (x n : Int32), kern d x n = some r → ∀ l0, Ev none 99 4 [l0, .int n, .int x] [] h (fun q g => q = some (.int r) ∧ g = h) := by
    intro d
    induction d with
    | zero => intro x n e; cases e
    | succ d ih =>
      intro x n e l0
      unfold kern at e
      simp only [s99_4, s99_5]
      by_cases c : x = 0
      · rw [if_pos c] at e
        cases e
        rw [if_pos c]
        simp only [s99_20, s99_21]
        first | exact ⟨rfl, trivial⟩ | exact ⟨trivial, trivial⟩
      · rw [if_neg c] at e
        rw [if_neg c]
        simp only [s99_8, s99_11, s99_12, s99_13, s99_14, s99_15, s99_16, s99_17]
        exact ih _ _ e _
  simp only [s99_0, s99_1, s99_2, s99_3, s99_e]
  exact loop d x 0 hk _
section MS
variable {h h' : AHp} {F s : Nat → Int32} {A : Ar} {S : St} {n : Nat} {td : Nat → Nat}
theorem m_isView (hM : HM h F s A) (hL : ML s S n td) (x : Int32) : ∀ post, Call 94 [.ref 423, .int x] h post = post (some (.int (if hv S x = true then 1 else 0))) h := by
  refine call_eq ?_
  simp only [s94_0, s94_1, s94_2, s94_3, s94_6, s94_e, m_in, Option.toList_some, List.cons_append, List.nil_append]
  have e5 : (5 : Int32) = nI 6 - 1 := by decide
  rw [e5]
  rcases ix_cases x 6 with hx | ⟨v, hv6, rfl⟩
  · have hn : ¬ ((0 : Int32) ≤ x ∧ x ≤ nI 6 - 1) := fun q => by
      have := (ix_iff (n := 6) (by decide)).mpr q
      rw [hx] at this; cases this
    rw [if_neg hn, if_pos rfl]
    simp only [s94_28, s94_29]
    simp [hv, hx]
  · have hp := (ix_iff (x := nI v) (n := 6) (by decide)).mp (by rw [ix_nI hv6 (by decide)]; rfl)
    obtain ⟨q1, q2, q3, -⟩ := hL.2.2.2.2.2.2.1 v hv6
    rw [if_pos hp, if_neg (show ¬ (1 : Int32) = 0 by decide), hv_nI hv6, q3]
    simp only [s94_9, s94_10, s94_13, s94_15, s94_17, s94_18, s94_19, s94_20, s94_21, (show (8 : Int32) = nI 8 from rfl), (show (26 : Int32) = nI 26 from rfl), nI_mul, nI_add, hM.f, oB_some, hM.ls (show 8 + 26 * v < 420 by omega), q1]
    by_cases c : td v ≤ 0
    · rw [if_pos (show nI (td v) ≤ 0 from (nI_leI (b := 0) (by omega) (by decide)).mpr c), decide_eq_false (by omega)]
      simp only [s94_28, s94_29]
      exact ⟨Or.inl trivial, rfl, trivial⟩
    · rw [if_neg (show ¬ nI (td v) ≤ 0 from fun q => c ((nI_leI (b := 0) (by omega) (by decide)).mp q)), decide_eq_true (by omega)]
      simp only [s94_24, s94_25, s94_28, s94_29]
      exact ⟨Or.inr trivial, rfl, trivial⟩
theorem m_isWriter (hM : HM h F s A) (hL : ML s S n td) (x : Int32) : ∀ post, Call 95 [.ref 423, .int x] h post = post (some (.int (if hw S x = true then 1 else 0))) h := by
  refine call_eq ?_
  have h8 := hL.2.2.2.2.2.2.2.2
  have l0 : ldi h 424 0 = some (s 0) := hM.ls (i := 0) (by decide)
  simp only [s95_0, s95_1, s95_e]
  rcases ix_cases x (S.ct 0) with hx | ⟨w, hw0, rfl⟩
  · have e : hw S x = false := by unfold hw; rw [hx]; rfl
    rw [e, if_neg (show ¬ false = true by decide)]
    by_cases c : x < 0
    · rw [if_pos c]
      simp only [s95_18, s95_19]
      first | exact ⟨Or.inl trivial, rfl, trivial⟩ | exact ⟨Or.inl trivial, trivial, trivial⟩
    · rw [if_neg c]
      have c2 : nI (S.ct 0) ≤ x := by
        rw [i_le, nI_toInt (by omega)]
        rw [i_lt, Int32.toInt_zero] at c
        unfold ix at hx
        by_cases z : 0 ≤ x.toInt ∧ x.toInt < S.ct 0
        · rw [if_pos z] at hx; cases hx
        · omega
      simp only [s95_4, s95_5, s95_6, s95_9, s95_10, s95_11, hM.f, oB_some, l0, hL.1, if_pos c2, s95_18, s95_19]
      first | exact ⟨Or.inl trivial, rfl, trivial⟩ | exact ⟨Or.inl trivial, trivial, trivial⟩
  · have e : hw S (nI w) = true := by unfold hw; rw [ix_nI hw0 (by omega)]; rfl
    rw [e, if_pos (show true = true from rfl), if_neg (nI_pos (by omega))]
    simp only [s95_4, s95_5, s95_6, s95_9, s95_10, s95_11, hM.f, oB_some, l0, hL.1, if_neg (show ¬ nI (S.ct 0) ≤ nI w from nI_ge hw0 (by omega))]
    simp only [s95_14, s95_15, s95_19]
    first | exact ⟨Or.inr trivial, rfl, trivial⟩ | exact ⟨Or.inr trivial, trivial, trivial⟩
theorem m_home (hM : HM h F s A) (hL : ML s S n td) {w : Nat} (hw : w < S.ct 0) : ∀ post, Call 96 [.ref 423, .int (nI w), .int 0] h post = post (some (.int (nI (S.ho w)))) h := by
  refine call_eq ?_
  have h8 := hL.2.2.2.2.2.2.2.2
  have l1 := hM.ls (show 164 + 2 * w < 420 by omega)
  rw [(hL.2.2.2.2.2.2.2.1 w hw).1] at l1
  simp only [s96_e, s96_0, s96_1, s96_4, s96_7, s96_8, s96_9, s96_10, s96_11, s96_12, s96_13, s96_14, (show (164 : Int32) = nI 164 from rfl), (show (2 : Int32) = nI 2 from rfl), nI_mul, nI_add, Int32.add_zero, hM.f, oB_some, l1]
  first | exact ⟨rfl, trivial⟩ | exact ⟨trivial, trivial⟩
theorem m_heir (hM : HM h F s A) (hL : ML s S n td) {w : Nat} (hw : w < S.ct 0) : ∀ post, Call 96 [.ref 423, .int (nI w), .int 1] h post = post (some (.int (S.he w))) h := by
  refine call_eq ?_
  have h8 := hL.2.2.2.2.2.2.2.2
  have l1 := hM.ls (show 165 + 2 * w < 420 by omega)
  rw [(hL.2.2.2.2.2.2.2.1 w hw).2.1, show 165 + 2 * w = 164 + 2 * w + 1 by omega] at l1
  simp only [s96_e, s96_0, s96_1, s96_4, s96_7, s96_8, s96_9, s96_10, s96_11, s96_12, s96_13, s96_14, (show (164 : Int32) = nI 164 from rfl), (show (2 : Int32) = nI 2 from rfl), (show (1 : Int32) = nI 1 from rfl), nI_mul, nI_add, hM.f, oB_some, l1]
  first | exact ⟨rfl, trivial⟩ | exact ⟨trivial, trivial⟩
theorem m_isRetired (hM : HM h F s A) (hL : ML s S n td) {w : Nat} (hw : w < S.ct 0) : ∀ post, Call 97 [.ref 423, .int (nI w)] h post = post (some (.int (if rt S w = true then 1 else 0))) h := by
  refine call_eq ?_
  have hh := (hL.2.2.2.2.2.2.2.1 w hw).2.2.2
  simp only [s97_0, s97_1, s97_2, s97_3, s97_6, s97_e, hM.f, m_heir hM hL hw, Option.toList_some, List.cons_append, List.nil_append]
  unfold rt
  by_cases c : S.he w = -1
  · rw [if_pos (show S.he w < 0 by rw [c]; decide), if_neg (show ¬ (!decide (S.he w = -1)) = true by simp [c])]
    simp only [s97_13, s97_14]
    exact ⟨Or.inl trivial, trivial, trivial⟩
  · have h0 : 0 ≤ S.he w := hh.resolve_left c
    rw [if_neg (Int32.not_lt.mpr h0), if_pos (show (!decide (S.he w = -1)) = true by simp [c])]
    simp only [s97_9, s97_10, s97_13, s97_14]
    exact ⟨Or.inr trivial, trivial, trivial⟩
theorem ob_s {p : Nat → Bool} {n : Nat} (hp : p n = true) : obits p n ||| ((1 : Int32) <<< (nI n &&& 31)) = obits p (n + 1) := by
  show _ = (if p n = true then _ else _)
  rw [if_pos hp]
theorem ob_n {p : Nat → Bool} {n : Nat} (hp : ¬ p n = true) : obits p n ||| 0 = obits p (n + 1) := by
  show _ = (if p n = true then _ else _)
  rw [if_neg hp, Int32.or_zero]
theorem m_views (hM : HM h F s A) (hL : ML s S n td) : ∀ post, Call 100 [.ref 423] h post = post (some (.int (obits S.th 6))) h := by
  refine call_eq ?_
  have loop : ∀ d v, v + d = 6 → Ev none 100 4 [.ref 423, .int (obits S.th v), .int (nI v)] [] h (fun r g => r = some (.int (obits S.th 6)) ∧ g = h) := by
    intro d
    induction d with
    | zero =>
      intro v hv
      obtain rfl : v = 6 := by omega
      simp only [s100_4, s100_5, s100_7, s100_34, s100_35, if_pos (show (6 : Int32) ≤ nI 6 by decide)]
      first | exact ⟨rfl, trivial⟩ | exact ⟨trivial, trivial⟩
    | succ d ih =>
      intro v hv
      have hv6 : v < 6 := by omega
      have z := ih (v + 1) (by omega)
      simp only [s100_4, s100_5, s100_7, if_neg (le6 hv6)]
      simp only [s100_10, s100_11, s100_12, s100_13, s100_16, hM.f, m_isView hM hL, hv_nI hv6, Option.toList_some, List.cons_append, List.nil_append]
      by_cases c : S.th v = true
      · rw [if_pos c, if_neg (show ¬ (1 : Int32) = 0 by decide)]
        simp only [s100_19, s100_20, s100_21, s100_22, s100_25, s100_26, s100_27, s100_28, s100_31, ob_s c, nI_1]
        exact z
      · rw [if_neg c, if_pos rfl]
        simp only [s100_25, s100_26, s100_27, s100_28, s100_31, ob_n c, nI_1]
        exact z
  simp only [s100_0, s100_1, s100_2, s100_3, s100_e]
  exact loop 6 0 rfl
theorem m_active (hM : HM h F s A) (hL : ML s S n td) : ∀ post, Call 101 [.ref 423] h post = post (some (.int (cntI (fun w => !rt S w) (S.ct 0)))) h := by
  refine call_eq ?_
  have h8 := hL.2.2.2.2.2.2.2.2
  have l0 : ldi h 424 0 = some (s 0) := hM.ls (i := 0) (by decide)
  have loop : ∀ d w, w + d = S.ct 0 → Ev none 101 4 [.ref 423, .int (cntI (fun w => !rt S w) w), .int (nI w)] [] h (fun r g => r = some (.int (cntI (fun w => !rt S w) (S.ct 0))) ∧ g = h) := by
    intro d
    induction d with
    | zero =>
      intro w hw
      obtain rfl : w = S.ct 0 := by omega
      simp only [s101_4, s101_5, s101_6, s101_9, s101_10, s101_11, s101_36, s101_37, hM.f, oB_some, l0, hL.1, if_pos (Int32.le_refl _)]
      first | exact ⟨rfl, trivial⟩ | exact ⟨trivial, trivial⟩
    | succ d ih =>
      intro w hw
      have hw0 : w < S.ct 0 := by omega
      have z := ih (w + 1) (by omega)
      simp only [s101_4, s101_5, s101_6, s101_9, s101_10, s101_11, hM.f, oB_some, l0, hL.1, if_neg (show ¬ nI (S.ct 0) ≤ nI w from nI_ge hw0 (by omega))]
      simp only [s101_14, s101_15, s101_16, s101_17, s101_20, hM.f, m_isRetired hM hL hw0, Option.toList_some, List.cons_append, List.nil_append]
      by_cases c : rt S w = true
      · rw [if_pos c, if_neg (show ¬ (1 : Int32) = 0 by decide)]
        have e : cntI (fun w => !rt S w) (w + 1) = cntI (fun w => !rt S w) w := if_neg (by simp [c])
        rw [e] at z
        simp only [s101_23, s101_24, s101_28, s101_29, s101_30, s101_33, Int32.add_zero, nI_1]
        exact z
      · rw [if_neg c, if_pos rfl]
        have e : cntI (fun w => !rt S w) (w + 1) = cntI (fun w => !rt S w) w + 1 := if_pos (by simp [c])
        rw [e] at z
        simp only [s101_27, s101_28, s101_29, s101_30, s101_33, nI_1]
        exact z
  simp only [s101_0, s101_1, s101_2, s101_3, s101_e]
  exact loop (S.ct 0) 0 (Nat.zero_add _)
theorem m_homers (hM : HM h F s A) (hL : ML s S n td) {v : Nat} (hv : v < 6) : ∀ post, Call 114 [.ref 423, .int (nI v)] h post = post (some (.int (homeSet S v))) h := by
  refine call_eq ?_
  have h8 := hL.2.2.2.2.2.2.2.2
  have l0 : ldi h 424 0 = some (s 0) := hM.ls (i := 0) (by decide)
  have loop : ∀ d w, w + d = S.ct 0 → Ev none 114 4 [.ref 423, .int (nI v), .int (obits (fun w => decide (S.ho w = v) && !rt S w) w), .int (nI w)] [] h (fun r g => r = some (.int (obits (fun w => decide (S.ho w = v) && !rt S w) (S.ct 0))) ∧ g = h) := by
    intro d
    induction d with
    | zero =>
      intro w hw
      obtain rfl : w = S.ct 0 := by omega
      simp only [s114_4, s114_5, s114_6, s114_9, s114_10, s114_11, s114_48, s114_49, hM.f, oB_some, l0, hL.1, if_pos (Int32.le_refl _)]
      first | exact ⟨rfl, trivial⟩ | exact ⟨trivial, trivial⟩
    | succ d ih =>
      intro w hw
      have hw0 : w < S.ct 0 := by omega
      have z := ih (w + 1) (by omega)
      have ho6 := (hL.2.2.2.2.2.2.2.1 w hw0).2.2.1
      simp only [s114_4, s114_5, s114_6, s114_9, s114_10, s114_11, hM.f, oB_some, l0, hL.1, if_neg (show ¬ nI (S.ct 0) ≤ nI w from nI_ge hw0 (by omega))]
      simp only [s114_14, s114_15, s114_16, s114_17, s114_20, hM.f, m_isRetired hM hL hw0, Option.toList_some, List.cons_append, List.nil_append]
      by_cases c : rt S w = true
      · have e : ¬ (decide (S.ho w = v) && !rt S w) = true := by simp [c]
        rw [if_pos c, if_pos (show ¬ (1 : Int32) = 0 by decide)]
        simp only [s114_39, s114_40, s114_41, s114_42, s114_45, nI_1, ob_n (p := fun w => decide (S.ho w = v) && !rt S w) e]
        exact z
      · rw [if_neg c, if_neg (show ¬ ¬ (0 : Int32) = 0 by decide)]
        simp only [s114_23, s114_24, s114_25, s114_26, s114_29, s114_30, hM.f, m_home hM hL hw0, Option.toList_some, List.cons_append, List.nil_append, nI_eq (show S.ho w < 2147483648 by omega) (show v < 2147483648 by omega)]
        by_cases c2 : S.ho w = v
        · have e : (decide (S.ho w = v) && !rt S w) = true := by simp [c, c2]
          rw [if_neg (fun q => q c2)]
          simp only [s114_33, s114_34, s114_35, s114_36, s114_39, s114_40, s114_41, s114_42, s114_45, nI_1, ob_s (p := fun w => decide (S.ho w = v) && !rt S w) e]
          exact z
        · have e : ¬ (decide (S.ho w = v) && !rt S w) = true := by simp [c2]
          rw [if_pos c2]
          simp only [s114_39, s114_40, s114_41, s114_42, s114_45, nI_1, ob_n (p := fun w => decide (S.ho w = v) && !rt S w) e]
          exact z
  simp only [s114_0, s114_1, s114_2, s114_3, s114_e]
  exact loop (S.ct 0) 0 (Nat.zero_add _)
theorem m_known (hM : HM h F s A) (hL : ML s S n td) {v : Nat} (hv : v < 6) : ∀ post, Call 123 [.ref 423, .int (nI v)] h post = post (some (.int (obits (fun w => decide (0 < (S.vk v).1 w)) 8))) h := by
  refine call_eq ?_
  have loop : ∀ d w, w + d = 8 → Ev none 123 4 [.ref 423, .int (nI v), .int (obits (fun w => decide (0 < (S.vk v).1 w)) w), .int (nI w)] [] h (fun r g => r = some (.int (obits (fun w => decide (0 < (S.vk v).1 w)) 8)) ∧ g = h) := by
    intro d
    induction d with
    | zero =>
      intro w hw
      obtain rfl : w = 8 := by omega
      simp only [s123_4, s123_5, s123_7, s123_42, s123_43, if_pos (show (8 : Int32) ≤ nI 8 by decide)]
      first | exact ⟨rfl, trivial⟩ | exact ⟨trivial, trivial⟩
    | succ d ih =>
      intro w hw
      have hw8 : w < 8 := by omega
      have z := ih (w + 1) (by omega)
      have q1 := ((hL.2.2.2.2.2.2.1 v hv).2.2.2.2 w hw8).1
      simp only [s123_4, s123_5, s123_7, if_neg (le8 hw8)]
      simp only [s123_10, s123_11, s123_12, s123_15, s123_16, s123_19, s123_20, s123_23, s123_24, m_knows, m_part, Option.toList_some, List.cons_append, List.nil_append, hM.f, oB_some, hM.ls (show 9 + 26 * v + 1 + 3 * w < 420 by omega), q1]
      by_cases c : 0 < (S.vk v).1 w
      · have e : decide (0 < (S.vk v).1 w) = true := decide_eq_true c
        rw [if_neg (Int32.not_le.mpr c)]
        simp only [s123_27, s123_28, s123_29, s123_30, s123_33, s123_34, s123_35, s123_36, s123_39, nI_1, ob_s (p := fun w => decide (0 < (S.vk v).1 w)) e]
        exact z
      · have e : ¬ decide (0 < (S.vk v).1 w) = true := by simp [c]
        rw [if_pos (Int32.not_lt.mp c)]
        simp only [s123_33, s123_34, s123_35, s123_36, s123_39, nI_1, ob_n (p := fun w => decide (0 < (S.vk v).1 w)) e]
        exact z
  simp only [s123_0, s123_1, s123_2, s123_3, s123_e]
  exact loop 8 0 rfl
theorem m_alike (hM : HM h F s A) (hL : ML s S n td) {v : Nat} (hv : v < 6) : ∀ post, Call 124 [.ref 423, .int (nI v)] h post = post (some (.int (sameSet S v))) h := by
  refine call_eq ?_
  have loop : ∀ d u, u + d = 6 → Ev none 124 4 [.ref 423, .int (nI v), .int (obits (fun u => S.th u && kEq (S.vk u) (S.vk v)) u), .int (nI u)] [] h (fun r g => r = some (.int (obits (fun u => S.th u && kEq (S.vk u) (S.vk v)) 6)) ∧ g = h) := by
    intro d
    induction d with
    | zero =>
      intro u hu
      obtain rfl : u = 6 := by omega
      simp only [s124_4, s124_5, s124_7, s124_49, s124_50, if_pos (show (6 : Int32) ≤ nI 6 by decide)]
      first | exact ⟨rfl, trivial⟩ | exact ⟨trivial, trivial⟩
    | succ d ih =>
      intro u hu
      have hu6 : u < 6 := by omega
      have z := ih (u + 1) (by omega)
      have ku := (hL.2.2.2.2.2.2.1 u hu6).2.2.2
      have kv := (hL.2.2.2.2.2.2.1 v hv).2.2.2
      simp only [s124_4, s124_5, s124_7, if_neg (le6 hu6)]
      simp only [s124_10, s124_11, s124_12, s124_13, s124_16, hM.f, m_isView hM hL, hv_nI hu6, Option.toList_some, List.cons_append, List.nil_append]
      by_cases c : S.th u = true
      · rw [if_pos c, if_neg (show ¬ (1 : Int32) = 0 by decide)]
        simp only [s124_19, s124_20, s124_21, s124_24, s124_25, s124_28, s124_31, hM.f, m_knows, m_isSame hM ku kv (show 9 + 26 * u + 25 ≤ 420 by omega) (show 9 + 26 * v + 25 ≤ 420 by omega), Option.toList_some, List.cons_append, List.nil_append]
        by_cases c2 : kEq (S.vk u) (S.vk v) = true
        · have e : (S.th u && kEq (S.vk u) (S.vk v)) = true := by simp [c, c2]
          rw [if_pos c2, if_neg (show ¬ (1 : Int32) = 0 by decide)]
          simp only [s124_34, s124_35, s124_36, s124_37, s124_40, s124_41, s124_42, s124_43, s124_46, nI_1, ob_s (p := fun u => S.th u && kEq (S.vk u) (S.vk v)) e]
          exact z
        · have e : ¬ (S.th u && kEq (S.vk u) (S.vk v)) = true := by simp [c2]
          rw [if_neg c2, if_pos rfl]
          simp only [s124_40, s124_41, s124_42, s124_43, s124_46, nI_1, ob_n (p := fun u => S.th u && kEq (S.vk u) (S.vk v)) e]
          exact z
      · have e : ¬ (S.th u && kEq (S.vk u) (S.vk v)) = true := by simp [c]
        rw [if_neg c, if_pos rfl]
        simp only [s124_40, s124_41, s124_42, s124_43, s124_46, nI_1, ob_n (p := fun u => S.th u && kEq (S.vk u) (S.vk v)) e]
        exact z
  simp only [s124_0, s124_1, s124_2, s124_3, s124_e]
  exact loop 6 0 rfl
end MS
