/-! The law's small methods: cell, low, ones, sum, views, same, homers. -/
def lowN (v : Int32) (n : Nat) : Nat := v.toBitVec.toNat % 2 ^ 31 % n
theorem lowN_lt (v : Int32) {n : Nat} (h : 0 < n) : lowN v n < n := Nat.mod_lt _ h
theorem c_low (v : Int32) {n : Nat} (h0 : 0 < n) (hn : n < 2147483648) (h : AHp) : ∀ post, Call 64 [.int v, .int (nI n)] h post = post (some (.int (nI (lowN v n)))) h := by
  refine call_eq ?_
  have e : v &&& 2147483647 = nI (v.toBitVec.toNat % 2 ^ 31) := pk_and v 31 (by decide)
  have hb : v.toBitVec.toNat % 2 ^ 31 < 2 ^ 31 := Nat.mod_lt _ (by decide)
  have hz : ¬ nI n = 0 := nI_ne0 h0 (by omega)
  simp only [s64_0, s64_1, s64_3, s64_4, s64_e, e, s64_5 hz, pk_rem hb h0 (by omega), s64_6]
  exact ⟨rfl, trivial⟩
theorem c_cell {L : Nat} {xs : Nat → Int32} {r k : Nat} {h : AHp} {post : Option Value → AHp → Prop} (hL : L ≤ 260) (hk : k < 100000) (hp : ∀ v, post (some (.int v)) h) : Ev (some (L, xs)) 63 0 [.retAddr r, .int (nI k)] [] h post := by
  simp only [s63_0, s63_1, s63_2, s63_3]
  have e : (Int32.ofNat L ≤ nI k) ↔ (L ≤ k) := nI_leI (by omega) (by omega)
  by_cases c : L ≤ k
  · rw [if_pos (e.mpr c)]
    simp only [s63_12, s63_14, s63_15, s63_16, s63_17, s63_18]
    exact hp _
  · rw [if_neg (fun q => c (e.mp q))]
    simp only [s63_6, s63_7, s63_8 (nI_ok (show k < L by omega) (by omega)), s63_9, s63_18]
    exact hp _
/-- how often a bit can be taken away -/
def onF : Nat → Int32 → Int32 → Int32
  | 0, n, _ => n
  | d + 1, n, l => if l = 0 then n else onF d (n + 1) (l &&& (l - 1))
def onE : Nat → Int32 → Bool
  | 0, _ => false
  | d + 1, l => if l = 0 then true else onE d (l &&& (l - 1))
theorem c_onesF (x : Int32) (h : AHp) {d : Nat} (he : onE d x = true) : ∀ post, Call 65 [.int x] h post = post (some (.int (onF d 0 x))) h := by
  refine call_eq ?_
  have loop : ∀ d n l, onE d l = true → Ev none 65 4 [.int x, .int n, .int l] [] h (fun r g => r = some (.int (onF d n l)) ∧ g = h) := by
    intro d
    induction d with
    | zero => intro n l q; cases q
    | succ d ih =>
      intro n l q
      unfold onE at q
      unfold onF
      simp only [s65_4, s65_5]
      by_cases c : l = 0
      · rw [if_pos c, if_pos c]
        simp only [s65_20, s65_21]
        exact ⟨trivial, trivial⟩
      · rw [if_neg c] at q
        rw [if_neg c, if_neg c]
        simp only [s65_8, s65_11, s65_12, s65_13, s65_14, s65_15, s65_16, s65_17]
        exact ih _ _ q
  simp only [s65_0, s65_1, s65_2, s65_3, s65_e]
  exact loop d 0 x he
set_option maxRecDepth 100000 in
theorem on_8 (p : Nat → Bool) : onE 9 (obits p 8) = true ∧ onF 9 0 (obits p 8) = cntI p 8 := by
  simp only [obits, cntI]
  generalize p 0 = b0
  generalize p 1 = b1
  generalize p 2 = b2
  generalize p 3 = b3
  generalize p 4 = b4
  generalize p 5 = b5
  generalize p 6 = b6
  generalize p 7 = b7
  revert b0 b1 b2 b3 b4 b5 b6 b7
  decide +kernel
set_option maxRecDepth 100000 in
theorem on_6 (p : Nat → Bool) : onE 9 (obits p 6) = true ∧ onF 9 0 (obits p 6) = cntI p 6 := by
  simp only [obits, cntI]
  generalize p 0 = b0
  generalize p 1 = b1
  generalize p 2 = b2
  generalize p 3 = b3
  generalize p 4 = b4
  generalize p 5 = b5
  revert b0 b1 b2 b3 b4 b5
  decide +kernel
theorem c_ones8 (p : Nat → Bool) (h : AHp) : ∀ post, Call 65 [.int (obits p 8)] h post = post (some (.int (cntI p 8))) h := by
  intro post
  rw [c_onesF _ h (on_8 p).1, (on_8 p).2]
theorem c_ones6 (p : Nat → Bool) (h : AHp) : ∀ post, Call 65 [.int (obits p 6)] h post = post (some (.int (cntI p 6))) h := by
  intro post
  rw [c_onesF _ h (on_6 p).1, (on_6 p).2]
section SMALL
variable {h h' : AHp} {A : WA}
def smT (fa fb fc : Nat → Int32) (t : Nat) : Nat → Int32 := fun w => if 0 < fa (t + w) then fb (t + w) - fc (t + w) else 0
theorem c_sumT {ia ib ic n t : Nat} {fa fb fc : Nat → Int32} (ha : HA h ia n fa) (hb : HA h ib n fb) (hc : HA h ic n fc) (ht : t + 8 ≤ n) (hn : n ≤ 64) : ∀ post, Call 66 [.ref ia, .ref ib, .ref ic, .int (nI t)] h post = post (some (.int (sm (smT fa fb fc t) 8))) h := by
  refine call_eq ?_
  have e8 : nI t + 8 = nI (t + 8) := nI_add t 8
  have loop : ∀ d w, w + d = 8 → Ev none 66 6 [.ref ia, .ref ib, .ref ic, .int (nI t), .int (sm (smT fa fb fc t) w), .int (nI (t + w))] [] h (fun r g => r = some (.int (sm (smT fa fb fc t) 8)) ∧ g = h) := by
    intro d
    induction d with
    | zero =>
      intro w hw
      obtain rfl : w = 8 := by omega
      simp only [s66_6, s66_8, s66_9, s66_11, s66_12, e8, if_pos (Int32.le_refl _), s66_46, s66_48]
      exact ⟨trivial, trivial⟩
    | succ d ih =>
      intro w hw
      have hw8 : w < 8 := by omega
      have z := ih (w + 1) (by omega)
      simp only [s66_6, s66_8, s66_9, s66_11, s66_12, e8, if_neg (nI_ge (show t + w < t + 8 by omega) (by omega))]
      simp only [s66_15, s66_17, s66_18, s66_20, s66_21, ha.ld (show t + w < n by omega) (by omega), oB_some]
      have e : sm (smT fa fb fc t) (w + 1) = sm (smT fa fb fc t) w + smT fa fb fc t w := rfl
      rw [e] at z
      by_cases c : fa (t + w) ≤ 0
      · rw [if_pos c]
        have e2 : smT fa fb fc t w = 0 := if_neg (Int32.not_lt.mpr c)
        rw [e2] at z
        simp only [s66_36, s66_37, s66_38, s66_40, s66_43, nI_1]
        exact z
      · rw [if_neg c]
        have e2 : smT fa fb fc t w = fb (t + w) - fc (t + w) := if_pos (Int32.not_le.mp c)
        rw [e2] at z
        simp only [s66_24, s66_25, s66_27, s66_28, s66_29, s66_31, s66_32, s66_33, s66_36, s66_37, s66_38, s66_40, s66_43, hb.ld (show t + w < n by omega) (by omega), hc.ld (show t + w < n by omega) (by omega), oB_some, nI_1]
        exact z
  simp only [s66_0, s66_1, s66_3, s66_4, s66_e]
  exact loop 8 0 rfl
theorem c_viewsT (hW : HW h A) : ∀ post, Call 67 [.ref 424] h post = post (some (.int (obits (fun v => decide (0 < A 1 v)) 6))) h := by
  refine call_eq ?_
  have loop : ∀ d v, v + d = 6 → Ev none 67 4 [.ref 424, .int (obits (fun v => decide (0 < A 1 v)) v), .int (nI v)] [] h (fun r g => r = some (.int (obits (fun v => decide (0 < A 1 v)) 6)) ∧ g = h) := by
    intro d
    induction d with
    | zero =>
      intro v hv
      obtain rfl : v = 6 := by omega
      simp only [s67_4, s67_5, s67_7, if_pos (show (6 : Int32) ≤ nI 6 by decide), s67_32, s67_33]
      exact ⟨trivial, trivial⟩
    | succ d ih =>
      intro v hv
      have hv6 : v < 6 := by omega
      have z := ih (v + 1) (by omega)
      simp only [s67_4, s67_5, s67_7, if_neg (le6 hv6)]
      simp only [s67_10, s67_11, s67_12, s67_13, s67_14, hW.l1 hv6, oB_some]
      unfold obits at z
      by_cases c : A 1 v ≤ 0
      · rw [if_pos c]
        rw [if_neg (by rw [decide_eq_true_eq]; exact Int32.not_lt.mpr c)] at z
        simp only [s67_23, s67_24, s67_25, s67_26, s67_29, or0, nI_1]
        exact z
      · rw [if_neg c]
        rw [if_pos (by rw [decide_eq_true_eq]; exact Int32.not_le.mp c)] at z
        simp only [s67_17, s67_18, s67_19, s67_20, s67_23, s67_24, s67_25, s67_26, s67_29, nI_1]
        exact z
  simp only [s67_0, s67_1, s67_2, s67_3, s67_e]
  exact loop 6 0 rfl
theorem c_homersT (hW : HW h A) {n : Nat} (hn : n ≤ 8) (hg : A 0 0 = nI n) (v : Int32) : ∀ post, Call 70 [.ref 423, .ref 429, .ref 430, .int v] h post = post (some (.int (obits (fun w => decide (A 7 w < 0) && decide (A 6 w = v)) n))) h := by
  refine call_eq ?_
  have loop : ∀ d w, w + d = n → Ev none 70 6 [.ref 423, .ref 429, .ref 430, .int v, .int (obits (fun w => decide (A 7 w < 0) && decide (A 6 w = v)) w), .int (nI w)] [] h (fun r g => r = some (.int (obits (fun w => decide (A 7 w < 0) && decide (A 6 w = v)) n)) ∧ g = h) := by
    intro d
    induction d with
    | zero =>
      intro w hw
      obtain rfl : w = n := by omega
      simp only [s70_6, s70_8, s70_9, s70_10, s70_11, hW.g, oB_some, hg, if_pos (Int32.le_refl _), s70_48, s70_50]
      exact ⟨trivial, trivial⟩
    | succ d ih =>
      intro w hw
      have hw8 : w < 8 := by omega
      have z := ih (w + 1) (by omega)
      simp only [s70_6, s70_8, s70_9, s70_10, s70_11, hW.g, oB_some, hg, if_neg (nI_ge (show w < n by omega) (by omega))]
      simp only [s70_14, s70_16, s70_17, s70_19, s70_20, hW.l7 hw8, oB_some]
      have eo : obits (fun w => decide (A 7 w < 0) && decide (A 6 w = v)) (w + 1) = if (decide (A 7 w < 0) && decide (A 6 w = v)) = true then obits (fun w => decide (A 7 w < 0) && decide (A 6 w = v)) w ||| ((1 : Int32) <<< (nI w &&& 31)) else obits (fun w => decide (A 7 w < 0) && decide (A 6 w = v)) w := rfl
      rw [eo] at z
      by_cases c : 0 ≤ A 7 w
      · rw [if_pos c]
        rw [if_neg (by simp [Int32.not_lt.mpr c])] at z
        simp only [s70_38, s70_39, s70_40, s70_42, s70_45, or0, nI_1]
        exact z
      · rw [if_neg c]
        simp only [s70_23, s70_24, s70_26, s70_27, s70_28, hW.l6 hw8, oB_some]
        by_cases c2 : A 6 w = v
        · rw [if_neg (fun q => q c2)]
          rw [if_pos (by simp [Int32.not_le.mp c, c2])] at z
          simp only [s70_31, s70_32, s70_34, s70_35, s70_38, s70_39, s70_40, s70_42, s70_45, nI_1]
          exact z
        · rw [if_pos c2]
          rw [if_neg (by simp [c2])] at z
          simp only [s70_38, s70_39, s70_40, s70_42, s70_45, or0, nI_1]
          exact z
  simp only [s70_0, s70_1, s70_3, s70_4, s70_e]
  exact loop n 0 (Nat.zero_add n)
theorem c_sameT (hW : HW h A) {v i : Nat} (hv : v < 6) (hi : i < 6) : ∀ post, Call 69 [.ref 425, .ref 426, .int (nI v), .int (nI i)] h post = post (some (.int (bI (decide (A 2 v = A 2 i) && allb (fun w => decide (A 3 (8 * v + w) = A 3 (8 * i + w))) 8)))) h := by
  refine call_eq ?_
  have loop : ∀ d w, w + d = 8 → Ev none 69 19 [.ref 425, .ref 426, .int (nI v), .int (nI i), .int (bI (decide (A 2 v = A 2 i) && allb (fun w => decide (A 3 (8 * v + w) = A 3 (8 * i + w))) w)), .int (nI w)] [] h (fun r g => r = some (.int (bI (decide (A 2 v = A 2 i) && allb (fun w => decide (A 3 (8 * v + w) = A 3 (8 * i + w))) 8))) ∧ g = h) := by
    intro d
    induction d with
    | zero =>
      intro w hw
      obtain rfl : w = 8 := by omega
      simp only [s69_19, s69_21, s69_23, if_pos (show (8 : Int32) ≤ nI 8 by decide), s69_65, s69_67]
      refine ⟨?_, trivial, trivial⟩
      unfold bI
      split
      · exact Or.inr rfl
      · exact Or.inl rfl
    | succ d ih =>
      intro w hw
      have hw8 : w < 8 := by omega
      have z := ih (w + 1) (by omega)
      unfold allb at z
      rw [← Bool.and_assoc] at z
      simp only [s69_19, s69_21, s69_23, if_neg (le8 hw8)]
      simp only [s69_26, s69_28]
      cases cb : (decide (A 2 v = A 2 i) && allb (fun w => decide (A 3 (8 * v + w) = A 3 (8 * i + w))) w) with
      | false =>
        rw [cb, Bool.false_and] at z
        rw [if_pos (show bI false = 0 from rfl)]
        simp only [s69_56, s69_57, s69_59, s69_62, nI_1]
        exact z
      | true =>
        rw [cb, Bool.true_and] at z
        rw [if_neg (show ¬ bI true = 0 from n10')]
        simp only [s69_31, s69_32, s69_34, s69_35, s69_36, s69_38, s69_39, s69_40, s69_41, s69_43, s69_44, s69_45, s69_47, s69_48, s69_49, i8, nI_add, hW.l3 (show 8 * v + w < 48 by omega), hW.l3 (show 8 * i + w < 48 by omega), oB_some]
        by_cases c : A 3 (8 * v + w) = A 3 (8 * i + w)
        · rw [if_neg (fun q => q c)]
          rw [decide_eq_true c] at z
          simp only [s69_52, s69_53, s69_56, s69_57, s69_59, s69_62, nI_1]
          exact z
        · rw [if_pos c]
          rw [decide_eq_false c] at z
          simp only [s69_56, s69_57, s69_59, s69_62, nI_1]
          exact z
  simp only [s69_0, s69_1, s69_2, s69_3, s69_4, s69_5, s69_6, s69_e, hW.l2 hv, hW.l2 hi, oB_some]
  have z := loop 8 0 rfl
  by_cases c : A 2 v = A 2 i
  · rw [if_neg (fun q => q c)]
    simp only [s69_9, s69_10, s69_13, s69_14, s69_16, s69_17]
    rw [decide_eq_true c] at z ⊢
    exact z
  · rw [if_pos c]
    simp only [s69_13, s69_14, s69_16, s69_17]
    rw [decide_eq_false c] at z ⊢
    exact z
end SMALL
