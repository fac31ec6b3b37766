/-! Knowledge: what a view knows; its methods. -/
abbrev Kn : Type := (Nat → Int32) × (Nat → Int32) × (Nat → Int32) × Int32
def HK (h : AHp) (k : Nat) (K : Kn) : Prop := HO h k 0 [.ref (k + 1), .ref (k + 2), .ref (k + 3), .int K.2.2.2] ∧ HA h (k + 1) 8 K.1 ∧ HA h (k + 2) 8 K.2.1 ∧ HA h (k + 3) 8 K.2.2.1
/-- a set as bits: has it this number -/
def bit (g : Int32) (w : Nat) : Prop := ¬ g &&& ((1 : Int32) <<< (nI w &&& 31)) = 0
section KN
variable {h h' : AHp} {k w : Nat} {K : Kn}
theorem HK.f (hK : HK h k K) : fldv h k 0 0 = some (.ref (k + 1)) ∧ fldv h k 0 1 = some (.ref (k + 2)) ∧ fldv h k 0 2 = some (.ref (k + 3)) ∧ fldv h k 0 3 = some (.int K.2.2.2) ∧ isO h k 0 := ⟨hK.1.ld rfl, hK.1.ld rfl, hK.1.ld rfl, hK.1.ld rfl, hK.1.is⟩
theorem HK.lv (hK : HK h k K) (hw : w < 8) : ldi h (k + 1) (nI w) = some (K.1 w) := hK.2.1.ld hw (by decide)
theorem HK.la (hK : HK h k K) (hw : w < 8) : ldi h (k + 2) (nI w) = some (K.2.1 w) := hK.2.2.1.ld hw (by decide)
theorem HK.lt (hK : HK h k K) (hw : w < 8) : ldi h (k + 3) (nI w) = some (K.2.2.1 w) := hK.2.2.2.ld hw (by decide)
theorem HK.fr {lo hi : Nat} (hK : HK h k K) (hf : Fr lo hi h h') (hd : k + 4 ≤ lo ∨ hi ≤ k) : HK h' k K := ⟨hK.1.fr hf (by omega), hK.2.1.fr hf (by omega), hK.2.2.1.fr hf (by omega), hK.2.2.2.fr hf (by omega)⟩
theorem HK.sv (hK : HK h k K) (hw : w < 8) (x : Int32) : ∃ h', sti h (k + 1) (nI w) x = some h' ∧ HK h' k (upd K.1 w x, K.2) ∧ Fr k (k + 4) h h' := by
  obtain ⟨h', e, a, f⟩ := hK.2.1.st (x := x) hw (by decide)
  exact ⟨h', e, ⟨hK.1.fr f (by omega), a, hK.2.2.1.fr f (by omega), hK.2.2.2.fr f (by omega)⟩, f.up (by omega) (by omega)⟩
theorem HK.sa (hK : HK h k K) (hw : w < 8) (x : Int32) : ∃ h', sti h (k + 2) (nI w) x = some h' ∧ HK h' k (K.1, upd K.2.1 w x, K.2.2) ∧ Fr k (k + 4) h h' := by
  obtain ⟨h', e, a, f⟩ := hK.2.2.1.st (x := x) hw (by decide)
  exact ⟨h', e, ⟨hK.1.fr f (by omega), hK.2.1.fr f (by omega), a, hK.2.2.2.fr f (by omega)⟩, f.up (by omega) (by omega)⟩
theorem HK.s3 (hK : HK h k K) (hw : w < 8) (x : Int32) : ∃ h', sti h (k + 3) (nI w) x = some h' ∧ HK h' k (K.1, K.2.1, upd K.2.2.1 w x, K.2.2.2) ∧ Fr k (k + 4) h h' := by
  obtain ⟨h', e, a, f⟩ := hK.2.2.2.st (x := x) hw (by decide)
  exact ⟨h', e, ⟨hK.1.fr f (by omega), hK.2.1.fr f (by omega), hK.2.2.1.fr f (by omega), a⟩, f.up (by omega) (by omega)⟩
theorem HK.sg (hK : HK h k K) (x : Int32) : ∃ h', stf h k 0 3 (.int x) = some h' ∧ HK h' k (K.1, K.2.1, K.2.2.1, x) ∧ Fr k (k + 4) h h' := by
  obtain ⟨h', e, a, f⟩ := hK.1.st (k := 3) (v := .int x) (Nat.le_of_ble_eq_true rfl) rfl
  exact ⟨h', e, ⟨a, hK.2.1.fr f (by omega), hK.2.2.1.fr f (by omega), hK.2.2.2.fr f (by omega)⟩, f.up (by omega) (by omega)⟩
theorem HK.to {K2 : Kn} (hK : HK h k K) (he : ∀ i, i < 8 → K.1 i = K2.1 i ∧ K.2.1 i = K2.2.1 i ∧ K.2.2.1 i = K2.2.2.1 i) (hg : K.2.2.2 = K2.2.2.2) : HK h k K2 := ⟨by rw [← hg]; exact hK.1, hK.2.1.to (fun i hi => (he i hi).1), hK.2.2.1.to (fun i hi => (he i hi).2.1), hK.2.2.2.to (fun i hi => (he i hi).2.2)⟩
def b2i (c : Prop) [Decidable c] : Int32 := if c then 1 else 0
theorem c_knows (hK : HK h k K) (hw : w < 8) : ∀ post, Call 4 [.ref k, .int (nI w)] h post = post (some (.int (if 0 < K.1 w then 1 else 0))) h := by
  obtain ⟨f0, f1, f2, f3, fo⟩ := hK.f
  refine call_eq ?_
  simp only [s4_e, s4_0, s4_1, s4_4, s4_5, s4_6, s4_9, s4_10, s4_13, s4_14, f0, oB_some, hK.lv hw]
  by_cases hc : K.1 w ≤ 0
  · rw [if_pos hc, if_neg (Int32.not_lt.mpr hc)]; simp
  · rw [if_neg hc, if_pos (Int32.not_le.mp hc)]; simp
theorem c_hasGrave (hK : HK h k K) (w : Nat) : ∀ post, Call 5 [.ref k, .int (nI w)] h post = post (some (.int (if K.2.2.2 &&& ((1 : Int32) <<< (nI w &&& 31)) = 0 then 0 else 1))) h := by
  obtain ⟨f0, f1, f2, f3, fo⟩ := hK.f
  refine call_eq ?_
  simp only [s5_e, s5_0, s5_1, s5_4, s5_5, s5_6, s5_7, s5_8, s5_11, s5_12, s5_15, s5_16, f3, oB_some]
  split <;> simp
theorem c_forgetPart (hK : HK h k K) (hw : w < 8) : Call 3 [.ref k, .int (nI w)] h (fun rv h' => rv = none ∧ HK h' k (upd K.1 w 0, upd K.2.1 w 0, upd K.2.2.1 w 0, K.2.2.2) ∧ Fr k (k + 4) h h') := by
  simp only [s3_e, s3_0, s3_1, s3_4, s3_5, s3_6, s3_7, s3_8, s3_11, s3_12, s3_13, s3_14, s3_15, s3_18, s3_19, s3_20, s3_21, hK.f, oB_some]
  obtain ⟨h1, e1, k1, r1⟩ := hK.sv hw 0
  simp only [s3_7, s3_8, s3_11, s3_12, s3_13, e1, oB_some, k1.f]
  obtain ⟨h2, e2, k2, r2⟩ := k1.sa hw 0
  simp only [s3_14, s3_15, s3_18, s3_19, s3_20, e2, oB_some, k2.f]
  obtain ⟨h3, e3, k3, r3⟩ := k2.s3 hw 0
  simp only [s3_21, e3, oB_some]
  exact ⟨trivial, k3, (r1.tr r2).tr r3⟩
theorem c_raise {x t : Int32} (hK : HK h k K) (hw : w < 8) : Call 6 [.ref k, .int (nI w), .int x, .int t] h (fun rv h' => rv = none ∧ HK h' k (upd K.1 w (K.1 w + 1), upd K.2.1 w (K.2.1 w + x), upd K.2.2.1 w (K.2.2.1 w + t), K.2.2.2) ∧ Fr k (k + 4) h h') := by
  simp only [s6_e, s6_0, s6_1, s6_4, s6_5, s6_6, s6_7, s6_8, s6_9, s6_10, s6_11, s6_14, s6_15, s6_16, s6_17, s6_18, s6_19, s6_20, s6_21, s6_24, s6_25, s6_26, s6_27, s6_28, s6_29, s6_30, hK.f, oB_some, hK.lv hw]
  obtain ⟨h1, e1, k1, r1⟩ := hK.sv hw (K.1 w + 1)
  simp only [s6_10, s6_11, s6_14, s6_15, s6_16, s6_17, s6_18, s6_19, e1, oB_some, k1.f, k1.la hw]
  obtain ⟨h2, e2, k2, r2⟩ := k1.sa hw (K.2.1 w + x)
  simp only [s6_20, s6_21, s6_24, s6_25, s6_26, s6_27, s6_28, s6_29, e2, oB_some, k2.f, k2.lt hw]
  obtain ⟨h3, e3, k3, r3⟩ := k2.s3 hw (K.2.2.1 w + t)
  simp only [s6_30, e3, oB_some]
  exact ⟨trivial, k3, (r1.tr r2).tr r3⟩
theorem c_allAdded (hK : HK h k K) : ∀ post, Call 10 [.ref k] h post = post (some (.int (sm K.2.1 8))) h := by
  refine call_eq ?_
  have loop : ∀ d w, w + d = 8 → Ev none 10 4 [.ref k, .int (sm K.2.1 w), .int (nI w)] [] h (fun r g => r = some (.int (sm K.2.1 8)) ∧ g = h) := by
    intro d
    induction d with
    | zero =>
      intro w hw
      obtain rfl : w = 8 := by omega
      simp only [s10_4, s10_5, s10_7, s10_25, s10_26, if_pos (show (8 : Int32) ≤ nI 8 by decide)]
      simp
    | succ d ih =>
      intro w hw
      have hw8 : w < 8 := by omega
      simp only [s10_4, s10_5, s10_7, if_neg (le8 hw8)]
      simp only [s10_10, s10_11, s10_12, s10_15, s10_16, s10_17, s10_18, s10_19, s10_22, hK.f, oB_some, hK.la hw8, nI_s]
      exact ih (w + 1) (by omega)
  simp only [s10_0, s10_1, s10_2, s10_3, s10_e]
  exact loop 8 0 rfl
end KN
