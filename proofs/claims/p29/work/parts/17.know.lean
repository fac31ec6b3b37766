/-! Knowledge: what a view knows; its methods. -/
abbrev Kn : Type := (Nat → Int32) × (Nat → Int32) × (Nat → Int32) × Int32
def HK (h : AHp) (k : Nat) (K : Kn) : Prop := HO h k 0 [.ref (k + 1), .ref (k + 2), .ref (k + 3), .int K.2.2.2] ∧ HA h (k + 1) 8 K.1 ∧ HA h (k + 2) 8 K.2.1 ∧ HA h (k + 3) 8 K.2.2.1
/-- a set as bits: has it this number -/
def bit (g : Int32) (w : Nat) : Prop := ¬ g &&& ((1 : Int32) <<< (nI w &&& 31)) = 0
def kRaise (K : Kn) (w : Nat) (x t : Int32) : Kn := (upd K.1 w (K.1 w + 1), upd K.2.1 w (K.2.1 w + x), upd K.2.2.1 w (K.2.2.1 w + t), K.2.2.2)
def kForget (K : Kn) (w : Nat) : Kn := (upd K.1 w 0, upd K.2.1 w 0, upd K.2.2.1 w 0, K.2.2.2)
def kSum (K : Kn) : Int32 := sm K.2.1 8 - sm K.2.2.1 8
/-- a set out of its members, as bits -/
def obits (p : Nat → Bool) : Nat → Int32
  | 0 => 0
  | n + 1 => if p n = true then obits p n ||| ((1 : Int32) <<< (nI n &&& 31)) else obits p n
def allb (p : Nat → Bool) : Nat → Bool
  | 0 => true
  | n + 1 => allb p n && p n
def cntI (p : Nat → Bool) : Nat → Int32
  | 0 => 0
  | n + 1 => if p n = true then cntI p n + 1 else cntI p n
def gb (g : Int32) (w : Nat) : Bool := !decide (g &&& ((1 : Int32) <<< (nI w &&& 31)) = 0)
def kEq (K O : Kn) : Bool := allb (fun w => decide (K.1 w = O.1 w)) 8 && decide (K.2.2.2 = O.2.2.2)
def pick (K O : Kn) (w : Nat) (a b : Int32) : Int32 := if gb (K.2.2.2 ||| O.2.2.2) w = true then 0 else if K.1 w < O.1 w then b else a
def kTk (K O : Kn) : Kn := (fun w => pick K O w (K.1 w) (O.1 w), fun w => pick K O w (K.2.1 w) (O.2.1 w), fun w => pick K O w (K.2.2.1 w) (O.2.2.1 w), K.2.2.2 ||| O.2.2.2)
def kCt (K O : Kn) : Int32 := cntI (fun w => !decide ((kTk K O).1 w = K.1 w)) 8
section KN
variable {h h' : AHp} {k w : Nat} {K : Kn}
theorem HK.f (hK : HK h k K) : fldv h k 0 0 = some (.ref (k + 1)) ∧ fldv h k 0 1 = some (.ref (k + 2)) ∧ fldv h k 0 2 = some (.ref (k + 3)) ∧ fldv h k 0 3 = some (.int K.2.2.2) ∧ isO h k 0 := ⟨hK.1.ld rfl, hK.1.ld rfl, hK.1.ld rfl, hK.1.ld rfl, hK.1.is⟩
theorem HK.lv (hK : HK h k K) (hw : w < 8) : ldi h (k + 1) (nI w) = some (K.1 w) := hK.2.1.ld hw (by decide)
theorem HK.la (hK : HK h k K) (hw : w < 8) : ldi h (k + 2) (nI w) = some (K.2.1 w) := hK.2.2.1.ld hw (by decide)
theorem HK.lt (hK : HK h k K) (hw : w < 8) : ldi h (k + 3) (nI w) = some (K.2.2.1 w) := hK.2.2.2.ld hw (by decide)
theorem HK.fr {lo hi : Nat} (hK : HK h k K) (hf : Fr lo hi h h') (hd : k + 4 ≤ lo ∨ hi ≤ k) : HK h' k K := ⟨hK.1.fr hf (by omega), hK.2.1.fr hf (by omega), hK.2.2.1.fr hf (by omega), hK.2.2.2.fr hf (by omega)⟩
theorem HK.sv (hK : HK h k K) (hw : w < 8) (x : Int32) : ∃ h', sti h (k + 1) (nI w) x = some h' ∧ HK h' k (upd K.1 w x, K.2) ∧ Fr k (k + 4) h h' := by
  obtain ⟨h', e, a, f⟩ := hK.2.1.st (x := x) hw (by decide)
  exact ⟨h', e, ⟨hK.1.fr f (by omega), a, hK.2.2.1.fr f (by omega), hK.2.2.2.fr f (by omega)⟩, f.up (by omega) (by omega)⟩
theorem HK.sa (hK : HK h k K) (hw : w < 8) (x : Int32) : ∃ h', sti h (k + 2) (nI w) x = some h' ∧ HK h' k (K.1, upd K.2.1 w x, K.2.2) ∧ Fr k (k + 4) h h' := by
  obtain ⟨h', e, a, f⟩ := hK.2.2.1.st (x := x) hw (by decide)
  exact ⟨h', e, ⟨hK.1.fr f (by omega), hK.2.1.fr f (by omega), a, hK.2.2.2.fr f (by omega)⟩, f.up (by omega) (by omega)⟩
theorem HK.s3 (hK : HK h k K) (hw : w < 8) (x : Int32) : ∃ h', sti h (k + 3) (nI w) x = some h' ∧ HK h' k (K.1, K.2.1, upd K.2.2.1 w x, K.2.2.2) ∧ Fr k (k + 4) h h' := by
  obtain ⟨h', e, a, f⟩ := hK.2.2.2.st (x := x) hw (by decide)
  exact ⟨h', e, ⟨hK.1.fr f (by omega), hK.2.1.fr f (by omega), hK.2.2.1.fr f (by omega), a⟩, f.up (by omega) (by omega)⟩
theorem HK.sg (hK : HK h k K) (x : Int32) : ∃ h', stf h k 0 3 (.int x) = some h' ∧ HK h' k (K.1, K.2.1, K.2.2.1, x) ∧ Fr k (k + 4) h h' := by
  obtain ⟨h', e, a, f⟩ := hK.1.st (k := 3) (v := .int x) (Nat.le_of_ble_eq_true rfl) rfl
  exact ⟨h', e, ⟨a, hK.2.1.fr f (by omega), hK.2.2.1.fr f (by omega), hK.2.2.2.fr f (by omega)⟩, f.up (by omega) (by omega)⟩
theorem HK.to {K2 : Kn} (hK : HK h k K) (he : ∀ i, i < 8 → K.1 i = K2.1 i ∧ K.2.1 i = K2.2.1 i ∧ K.2.2.1 i = K2.2.2.1 i) (hg : K.2.2.2 = K2.2.2.2) : HK h k K2 := ⟨by rw [← hg]; exact hK.1, hK.2.1.to (fun i hi => (he i hi).1), hK.2.2.1.to (fun i hi => (he i hi).2.1), hK.2.2.2.to (fun i hi => (he i hi).2.2)⟩
def b2i (c : Prop) [Decidable c] : Int32 := if c then 1 else 0
theorem c_knows (hK : HK h k K) (hw : w < 8) : ∀ post, Call 3 [.ref k, .int (nI w)] h post = post (some (.int (if 0 < K.1 w then 1 else 0))) h := by
  obtain ⟨f0, f1, f2, f3, fo⟩ := hK.f
  refine call_eq ?_
  simp only [s3_e, s3_0, s3_1, s3_4, s3_5, s3_6, s3_9, s3_10, s3_13, s3_14, f0, oB_some, hK.lv hw]
  by_cases hc : K.1 w ≤ 0
  · rw [if_pos hc, if_neg (Int32.not_lt.mpr hc)]; simp
  · rw [if_neg hc, if_pos (Int32.not_le.mp hc)]; simp
theorem c_hasGrave (hK : HK h k K) (w : Nat) : ∀ post, Call 4 [.ref k, .int (nI w)] h post = post (some (.int (if gb K.2.2.2 w = true then 1 else 0))) h := by
  obtain ⟨f0, f1, f2, f3, fo⟩ := hK.f
  refine call_eq ?_
  simp only [s4_e, s4_0, s4_1, s4_4, s4_5, s4_6, s4_7, s4_8, s4_11, s4_12, s4_15, s4_16, f3, oB_some]
  by_cases hc : K.2.2.2 &&& ((1 : Int32) <<< (nI w &&& 31)) = 0
  · simp [hc, gb]
  · simp [hc, gb]
theorem c_forgetPart (hK : HK h k K) (hw : w < 8) : Call 2 [.ref k, .int (nI w)] h (fun rv h' => rv = none ∧ HK h' k (kForget K w) ∧ Fr k (k + 4) h h') := by
  simp only [s2_e, s2_0, s2_1, s2_4, s2_5, s2_6, s2_7, s2_8, s2_11, s2_12, s2_13, s2_14, s2_15, s2_18, s2_19, s2_20, s2_21, hK.f, oB_some]
  obtain ⟨h1, e1, k1, r1⟩ := hK.sv hw 0
  simp only [s2_7, s2_8, s2_11, s2_12, s2_13, e1, oB_some, k1.f]
  obtain ⟨h2, e2, k2, r2⟩ := k1.sa hw 0
  simp only [s2_14, s2_15, s2_18, s2_19, s2_20, e2, oB_some, k2.f]
  obtain ⟨h3, e3, k3, r3⟩ := k2.s3 hw 0
  simp only [s2_21, e3, oB_some]
  exact ⟨trivial, k3, (r1.tr r2).tr r3⟩
theorem c_raise {x t : Int32} (hK : HK h k K) (hw : w < 8) : Call 5 [.ref k, .int (nI w), .int x, .int t] h (fun rv h' => rv = none ∧ HK h' k (kRaise K w x t) ∧ Fr k (k + 4) h h') := by
  simp only [s5_e, s5_0, s5_1, s5_4, s5_5, s5_6, s5_7, s5_8, s5_9, s5_10, s5_11, s5_14, s5_15, s5_16, s5_17, s5_18, s5_19, s5_20, s5_21, s5_24, s5_25, s5_26, s5_27, s5_28, s5_29, s5_30, hK.f, oB_some, hK.lv hw]
  obtain ⟨h1, e1, k1, r1⟩ := hK.sv hw (K.1 w + 1)
  simp only [s5_10, s5_11, s5_14, s5_15, s5_16, s5_17, s5_18, s5_19, e1, oB_some, k1.f, k1.la hw]
  obtain ⟨h2, e2, k2, r2⟩ := k1.sa hw (K.2.1 w + x)
  simp only [s5_20, s5_21, s5_24, s5_25, s5_26, s5_27, s5_28, s5_29, e2, oB_some, k2.f, k2.lt hw]
  obtain ⟨h3, e3, k3, r3⟩ := k2.s3 hw (K.2.2.1 w + t)
  simp only [s5_30, e3, oB_some]
  exact ⟨trivial, k3, (r1.tr r2).tr r3⟩
theorem c_allAdded (hK : HK h k K) : ∀ post, Call 9 [.ref k] h post = post (some (.int (sm K.2.1 8))) h := by
  refine call_eq ?_
  have loop : ∀ d w, w + d = 8 → Ev none 9 4 [.ref k, .int (sm K.2.1 w), .int (nI w)] [] h (fun r g => r = some (.int (sm K.2.1 8)) ∧ g = h) := by
    intro d
    induction d with
    | zero =>
      intro w hw
      obtain rfl : w = 8 := by omega
      simp only [s9_4, s9_5, s9_7, s9_25, s9_26, if_pos (show (8 : Int32) ≤ nI 8 by decide)]
      simp
    | succ d ih =>
      intro w hw
      have hw8 : w < 8 := by omega
      simp only [s9_4, s9_5, s9_7, if_neg (le8 hw8)]
      simp only [s9_10, s9_11, s9_12, s9_15, s9_16, s9_17, s9_18, s9_19, s9_22, hK.f, oB_some, hK.la hw8, nI_s]
      exact ih (w + 1) (by omega)
  simp only [s9_0, s9_1, s9_2, s9_3, s9_e]
  exact loop 8 0 rfl
theorem c_allTaken (hK : HK h k K) : ∀ post, Call 10 [.ref k] h post = post (some (.int (sm K.2.2.1 8))) h := by
  refine call_eq ?_
  have loop : ∀ d w, w + d = 8 → Ev none 10 4 [.ref k, .int (sm K.2.2.1 w), .int (nI w)] [] h (fun r g => r = some (.int (sm K.2.2.1 8)) ∧ g = h) := by
    intro d
    induction d with
    | zero =>
      intro w hw
      obtain rfl : w = 8 := by omega
      simp only [s10_4, s10_5, s10_7, s10_25, s10_26, if_pos (show (8 : Int32) ≤ nI 8 by decide)]
      simp
    | succ d ih =>
      intro w hw
      have hw8 : w < 8 := by omega
      simp only [s10_4, s10_5, s10_7, if_neg (le8 hw8)]
      simp only [s10_10, s10_11, s10_12, s10_15, s10_16, s10_17, s10_18, s10_19, s10_22, hK.f, oB_some, hK.lt hw8, nI_s]
      exact ih (w + 1) (by omega)
  simp only [s10_0, s10_1, s10_2, s10_3, s10_e]
  exact loop 8 0 rfl
theorem c_sum (hK : HK h k K) : ∀ post, Call 11 [.ref k] h post = post (some (.int (kSum K))) h := by
  refine call_eq ?_
  simp only [s11_e, s11_0, s11_1, s11_4, s11_5, s11_8, s11_9, hK.f, c_allAdded hK, c_allTaken hK, Option.toList_some, List.cons_append, List.nil_append]
  simp [kSum]
theorem c_knownWriters (hK : HK h k K) : ∀ post, Call 12 [.ref k] h post = post (some (.int (obits (fun w => decide (0 < K.1 w)) 8))) h := by
  refine call_eq ?_
  have loop : ∀ d w, w + d = 8 → Ev none 12 4 [.ref k, .int (obits (fun w => decide (0 < K.1 w)) w), .int (nI w)] [] h (fun r g => r = some (.int (obits (fun w => decide (0 < K.1 w)) 8)) ∧ g = h) := by
    intro d
    induction d with
    | zero =>
      intro w hw
      obtain rfl : w = 8 := by omega
      simp only [s12_4, s12_5, s12_7, s12_30, s12_31, if_pos (show (8 : Int32) ≤ nI 8 by decide)]
      simp
    | succ d ih =>
      intro w hw
      have hw8 : w < 8 := by omega
      simp only [s12_4, s12_5, s12_7, if_neg (le8 hw8)]
      simp only [s12_10, s12_11, s12_12, hK.f, c_knows hK hw8, Option.toList_some, List.cons_append, List.nil_append]
      have ih := ih (w + 1) (by omega)
      by_cases hc : 0 < K.1 w
      · simp only [s12_15, s12_18, s12_19, s12_20, s12_21, s12_22, s12_23, s12_24, s12_27, if_pos hc, if_neg (show ¬ (1 : Int32) = 0 by decide), nI_s]
        simpa only [obits, hc, decide_true, if_true] using ih
      · simp only [s12_15, s12_18, s12_19, s12_20, s12_21, s12_22, s12_23, s12_24, s12_27, if_neg hc, if_true, nI_s]
        simpa only [obits, hc, decide_false, if_false, Bool.false_eq_true] using ih
  simp only [s12_0, s12_1, s12_2, s12_3, s12_e]
  exact loop 8 0 rfl
theorem c_knowsTheSameAs {o : Nat} {O : Kn} (hK : HK h k K) (hO : HK h o O) : ∀ post, Call 8 [.ref k, .ref o] h post = post (some (.int (if kEq K O = true then 1 else 0))) h := by
  refine call_eq ?_
  have loop : ∀ d w, w + d = 8 → allb (fun w => decide (K.1 w = O.1 w)) w = true → Ev none 8 2 [.ref k, .ref o, .int (nI w)] [] h (fun r g => r = some (.int (if kEq K O = true then 1 else 0)) ∧ g = h) := by
    intro d
    induction d with
    | zero =>
      intro w hw ha
      obtain rfl : w = 8 := by omega
      simp only [s8_2, s8_3, s8_5, s8_31, s8_32, s8_35, s8_36, s8_39, if_pos (show (8 : Int32) ≤ nI 8 by decide), hK.f, hO.f, oB_some]
      by_cases hc : K.2.2.2 = O.2.2.2
      · rw [if_neg (fun q => q hc)]
        simp only [s8_42, s8_43, s8_46, s8_47]
        simp [kEq, ha, hc]
      · rw [if_pos hc]
        simp only [s8_42, s8_43, s8_46, s8_47]
        simp [kEq, hc]
    | succ d ih =>
      intro w hw ha
      have hw8 : w < 8 := by omega
      simp only [s8_2, s8_3, s8_5, if_neg (le8 hw8)]
      simp only [s8_8, s8_9, s8_12, s8_13, s8_14, s8_15, s8_18, s8_19, s8_20, hK.f, hO.f, oB_some, hK.lv hw8, hO.lv hw8]
      by_cases hc : K.1 w = O.1 w
      · rw [if_pos hc]
        simp only [s8_25, s8_28, nI_s]
        exact ih (w + 1) (by omega) (by simp [allb, ha, hc])
      · rw [if_neg hc]
        simp only [s8_23, s8_24]
        have hn : allb (fun w => decide (K.1 w = O.1 w)) 8 = false := by
          have key : ∀ n, w < n → allb (fun w => decide (K.1 w = O.1 w)) n = false := by
            intro n
            induction n with
            | zero => intro q; omega
            | succ n ihn =>
              intro q
              by_cases e : n = w
              · subst e; simp [allb, hc]
              · simp [allb, ihn (by omega)]
          exact key 8 hw8
        simp [kEq, hn]
  simp only [s8_0, s8_1, s8_e]
  exact loop 8 0 rfl rfl
theorem c_bequeath {e : Nat} (hK : HK h k K) (hw : w < 8) (he : e < 8) : Call 6 [.ref k, .int (nI w), .int (nI e)] h (fun rv h' => rv = none ∧ HK h' k ((kForget (kRaise K e (K.2.1 w) (K.2.2.1 w)) w).1, (kForget (kRaise K e (K.2.1 w) (K.2.2.1 w)) w).2.1, (kForget (kRaise K e (K.2.1 w) (K.2.2.1 w)) w).2.2.1, K.2.2.2 ||| ((1 : Int32) <<< (nI w &&& 31))) ∧ Fr k (k + 4) h h') := by
  simp only [s6_0, s6_1, s6_2, s6_3, s6_6, s6_7, s6_8, s6_9, s6_12, s6_13, s6_14, s6_e, hK.f, oB_some, hK.la hw, hK.lt hw]
  refine Call.mono (c_raise hK he) ?_
  rintro rv h1 ⟨rfl, k1, r1⟩
  simp only [Option.toList_none, List.nil_append, s6_17, s6_18, s6_19, k1.f]
  refine Call.mono (c_forgetPart k1 hw) ?_
  rintro rv h2 ⟨rfl, k2, r2⟩
  simp only [Option.toList_none, List.nil_append, s6_22, s6_23, s6_24, s6_27, s6_28, s6_29, s6_30, s6_31, k2.f, oB_some]
  obtain ⟨h3, e3, k3, r3⟩ := k2.sg (K.2.2.2 ||| ((1 : Int32) <<< (nI w &&& 31)))
  have e3' : stf h2 k 0 3 (.int ((kForget (kRaise K e (K.2.1 w) (K.2.2.1 w)) w).2.2.2 ||| ((1 : Int32) <<< (nI w &&& 31)))) = some h3 := e3
  simp only [e3', oB_some, s6_34]
  exact ⟨trivial, k3, (r1.tr r2).tr r3⟩
theorem c_copyK {o : Nat} {O : Kn} (hK : HK h k K) (hO : HK h o O) (hd : k + 4 ≤ o ∨ o + 4 ≤ k) : Call 1 [.ref k, .ref o] h (fun rv h' => rv = none ∧ HK h' k O ∧ Fr k (k + 4) h h') := by
  simp only [s1_0, s1_1, s1_4, s1_5, s1_6, s1_9, s1_10, s1_12, s1_e, hK.f, hO.f, oB_some]
  obtain ⟨h1, e1, a1, r1⟩ := hO.2.1.cp hK.2.1 (Nat.le_refl 8) (by decide)
  have e1 : acp h (o + 1) 0 (k + 1) 0 8 = some h1 := e1
  have k1 : HK h1 k (O.1, K.2) := ⟨hK.1.fr r1 (by omega), a1.to (fun i hi => if_pos hi), hK.2.2.1.fr r1 (by omega), hK.2.2.2.fr r1 (by omega)⟩
  have o1 := hO.fr r1 (by omega)
  simp only [s1_15, s1_16, s1_19, s1_20, s1_21, s1_24, s1_25, s1_27, e1, k1.f, o1.f, oB_some]
  obtain ⟨h2, e2, a2, r2⟩ := o1.2.2.1.cp k1.2.2.1 (Nat.le_refl 8) (by decide)
  have e2 : acp h1 (o + 2) 0 (k + 2) 0 8 = some h2 := e2
  have k2 : HK h2 k (O.1, O.2.1, K.2.2) := ⟨k1.1.fr r2 (by omega), k1.2.1.fr r2 (by omega), a2.to (fun i hi => if_pos hi), k1.2.2.2.fr r2 (by omega)⟩
  have o2 := o1.fr r2 (by omega)
  simp only [s1_30, s1_31, s1_34, s1_35, s1_36, s1_39, s1_40, s1_42, e2, k2.f, o2.f, oB_some]
  obtain ⟨h3, e3, a3, r3⟩ := o2.2.2.2.cp k2.2.2.2 (Nat.le_refl 8) (by decide)
  have e3 : acp h2 (o + 3) 0 (k + 3) 0 8 = some h3 := e3
  have k3 : HK h3 k (O.1, O.2.1, O.2.2.1, K.2.2.2) := ⟨k2.1.fr r3 (by omega), k2.2.1.fr r3 (by omega), k2.2.2.1.fr r3 (by omega), a3.to (fun i hi => if_pos hi)⟩
  have o3 := o2.fr r3 (by omega)
  simp only [s1_45, s1_46, s1_47, s1_50, e3, k3.f, o3.f, oB_some]
  obtain ⟨h4, e4, k4, r4⟩ := k3.sg O.2.2.2
  simp only [s1_53, e4, oB_some]
  exact ⟨trivial, k4, (((r1.up (by omega) (by omega)).tr (r2.up (by omega) (by omega))).tr (r3.up (by omega) (by omega))).tr r4⟩
def kNil : Kn := (fun _ => 0, fun _ => 0, fun _ => 0, 0)
theorem pick_g {K O : Kn} {w : Nat} {a b : Int32} (hg : gb (K.2.2.2 ||| O.2.2.2) w = true) : pick K O w a b = 0 := if_pos hg
theorem pick_b {K O : Kn} {w : Nat} {a b : Int32} (hg : ¬ gb (K.2.2.2 ||| O.2.2.2) w = true) (hl : K.1 w < O.1 w) : pick K O w a b = b := by unfold pick; rw [if_neg hg, if_pos hl]
theorem pick_a {K O : Kn} {w : Nat} {a b : Int32} (hg : ¬ gb (K.2.2.2 ||| O.2.2.2) w = true) (hl : ¬ K.1 w < O.1 w) : pick K O w a b = a := by unfold pick; rw [if_neg hg, if_neg hl]
theorem c_takeIn {o : Nat} {O : Kn} (hK : HK h k K) (hO : HK h o O) (hd : k + 4 ≤ o ∨ o + 4 ≤ k) : Call 7 [.ref k, .ref o] h (fun rv h' => rv = some (.int (kCt K O)) ∧ HK h' k (kTk K O) ∧ Fr k (k + 4) h h') := by
  have loop : ∀ d w hh (KK : Kn) (v4 : Value), w + d = 8 → HK hh k KK → KK.2.2.2 = K.2.2.2 ||| O.2.2.2 → (∀ i, i < 8 → KK.1 i = (if i < w then (kTk K O).1 i else K.1 i) ∧ KK.2.1 i = (if i < w then (kTk K O).2.1 i else K.2.1 i) ∧ KK.2.2.1 i = (if i < w then (kTk K O).2.2.1 i else K.2.2.1 i)) → Fr k (k + 4) h hh →
      Ev none 7 17 [.ref k, .ref o, .int (cntI (fun w => !decide ((kTk K O).1 w = K.1 w)) w), .int (nI w), v4] [] hh (fun rv h' => rv = some (.int (kCt K O)) ∧ HK h' k (kTk K O) ∧ Fr k (k + 4) h h') := by
    intro d
    induction d with
    | zero =>
      intro w hh KK v4 hw hKK hg hz hr
      obtain rfl : w = 8 := by omega
      simp only [s7_17, s7_18, s7_20, s7_114, s7_115, if_pos (show (8 : Int32) ≤ nI 8 by decide)]
      exact ⟨rfl, hKK.to (fun i hi => by have := hz i hi; rwa [if_pos hi, if_pos hi, if_pos hi] at this) hg, hr⟩
    | succ d ih =>
      intro w hh KK v4 hw hKK hg hz hr
      have hw8 : w < 8 := by omega
      have hO1 := hO.fr hr (by omega)
      have hzw := hz w hw8
      rw [if_neg (Nat.lt_irrefl w), if_neg (Nat.lt_irrefl w), if_neg (Nat.lt_irrefl w)] at hzw
      have fin : ∀ (h1 : AHp) (K1 : Kn), HK h1 k K1 → K1.2.2.2 = KK.2.2.2 → Fr k (k + 4) hh h1 → (∀ i, i < 8 → K1.1 i = (if i = w then (kTk K O).1 w else KK.1 i) ∧ K1.2.1 i = (if i = w then (kTk K O).2.1 w else KK.2.1 i) ∧ K1.2.2.1 i = (if i = w then (kTk K O).2.2.1 w else KK.2.2.1 i)) →
          Ev none 7 94 [.ref k, .ref o, .int (cntI (fun w => !decide ((kTk K O).1 w = K.1 w)) w), .int (nI w), .int (KK.1 w)] [] h1 (fun rv h' => rv = some (.int (kCt K O)) ∧ HK h' k (kTk K O) ∧ Fr k (k + 4) h h') := by
        intro h1 K1 hK1 hg1 hr1 hz1
        simp only [s7_94, s7_95, s7_98, s7_99, s7_100, s7_102, hK1.f, oB_some, hK1.lv hw8]
        have e1 : K1.1 w = (kTk K O).1 w := by have := (hz1 w hw8).1; rwa [if_pos rfl] at this
        rw [e1, hzw.1]
        have nxt := ih (w + 1) h1 K1 (.int (K.1 w)) (by omega) hK1 (hg1.trans hg) (fun i hi => by
          obtain ⟨a1, a2, a3⟩ := hz1 i hi
          obtain ⟨b1, b2, b3⟩ := hz i hi
          rw [a1, a2, a3]
          by_cases e : i = w
          · subst e
            rw [if_pos rfl, if_pos rfl, if_pos rfl, if_pos (Nat.lt_succ_self i), if_pos (Nat.lt_succ_self i), if_pos (Nat.lt_succ_self i)]
            exact ⟨rfl, rfl, rfl⟩
          · rw [if_neg e, if_neg e, if_neg e, b1, b2, b3]
            by_cases e2 : i < w
            · rw [if_pos e2, if_pos e2, if_pos e2, if_pos (by omega), if_pos (by omega), if_pos (by omega)]
              exact ⟨rfl, rfl, rfl⟩
            · rw [if_neg e2, if_neg e2, if_neg e2, if_neg (by omega), if_neg (by omega), if_neg (by omega)]
              exact ⟨rfl, rfl, rfl⟩) (hr.tr hr1)
        by_cases hc : (kTk K O).1 w = K.1 w
        · rw [if_pos hc]
          simp only [s7_105, s7_108, s7_111, nI_s]
          simpa [cntI, hc] using nxt
        · rw [if_neg hc]
          simp only [s7_105, s7_108, s7_111, nI_s]
          simpa [cntI, hc] using nxt
      simp only [s7_17, s7_18, s7_20, if_neg (le8 hw8)]
      simp only [s7_23, s7_24, s7_27, s7_28, s7_29, s7_31, s7_32, s7_33, hKK.f, oB_some, hKK.lv hw8, c_hasGrave hKK, Option.toList_some, List.cons_append, List.nil_append, s7_36]
      by_cases hgr : gb KK.2.2.2 w = true
      · rw [if_pos hgr, if_neg (show ¬ (1 : Int32) = 0 by decide)]
        simp only [s7_39, s7_40, s7_41, hKK.f]
        refine Call.mono (c_forgetPart hKK hw8) ?_
        rintro rv h1 ⟨rfl, k1, r1⟩
        simp only [Option.toList_none, List.nil_append, s7_44]
        rw [hg] at hgr
        refine fin h1 _ k1 rfl r1 (fun i hi => ?_)
        simp only [kForget, upd, kTk, pick_g hgr]
        refine ⟨?_, ?_, ?_⟩ <;> first | trivial | rfl
      · rw [if_neg hgr, if_pos rfl]
        simp only [s7_47, s7_48, s7_51, s7_52, s7_53, s7_55, hO1.f, oB_some, hO1.lv hw8]
        rw [hg] at hgr
        by_cases hl : O.1 w ≤ KK.1 w
        · rw [if_pos hl]
          rw [hzw.1] at hl
          refine fin hh KK hKK rfl Fr.rf (fun i hi => ?_)
          by_cases e : i = w
          · subst e
            simp only [if_pos, kTk, pick_a hgr (Int32.not_lt.mpr hl), hzw]
            exact ⟨trivial, trivial, trivial⟩
          · rw [if_neg e, if_neg e, if_neg e]; exact ⟨rfl, rfl, rfl⟩
        · rw [if_neg hl]
          rw [hzw.1] at hl
          simp only [s7_58, s7_59, s7_62, s7_63, s7_64, s7_67, s7_68, s7_69, hKK.f, hO1.f, oB_some, hO1.lv hw8]
          obtain ⟨h1, e1, k1, r1⟩ := hKK.sv hw8 (O.1 w)
          have o1 := hO1.fr r1 (by omega)
          simp only [s7_70, s7_71, s7_74, s7_75, s7_76, s7_79, s7_80, s7_81, e1, k1.f, o1.f, oB_some, o1.la hw8]
          obtain ⟨h2, e2, k2, r2⟩ := k1.sa hw8 (O.2.1 w)
          have o2 := o1.fr r2 (by omega)
          simp only [s7_82, s7_83, s7_86, s7_87, s7_88, s7_91, s7_92, s7_93, e2, k2.f, o2.f, oB_some, o2.lt hw8]
          obtain ⟨h3, e3, k3, r3⟩ := k2.s3 hw8 (O.2.2.1 w)
          simp only [e3, oB_some]
          refine fin h3 _ k3 rfl ((r1.tr r2).tr r3) (fun i hi => ?_)
          simp only [upd, kTk, pick_b hgr (Int32.not_le.mp hl)]
          refine ⟨?_, ?_, ?_⟩ <;> first | trivial | rfl
  simp only [s7_0, s7_1, s7_2, s7_5, s7_6, s7_9, s7_10, s7_e, hK.f, hO.f, oB_some]
  obtain ⟨h1, e1, k1, r1⟩ := hK.sg (K.2.2.2 ||| O.2.2.2)
  simp only [s7_13, s7_14, s7_15, s7_16, e1, oB_some]
  exact loop 8 0 h1 _ _ rfl k1 rfl (fun i hi => by rw [if_neg (Nat.not_lt_zero i), if_neg (Nat.not_lt_zero i), if_neg (Nat.not_lt_zero i)]; exact ⟨rfl, rfl, rfl⟩) r1
end KN
