/-! The model: a change is recorded. -/
/-- what the recording does, if no text runs: m states are in the history before it -/
def CH (m : Nat) (F s : Nat → Int32) (A : Ar) (F' : Nat → Int32) (A' : Ar) : Prop :=
  (¬ F 5 = 0 → F' = F ∧ A' = A) ∧
  (F 5 = 0 → F' 4 = nI (if m < 4 then m + 1 else 4) ∧ (∀ j, j ≠ 4 → F' j = F j) ∧ A'.2 = A.2 ∧
    (m < 4 → ∀ j, j < 1680 → A'.1 j = if 420 * m ≤ j ∧ j < 420 * m + 420 then s (j - 420 * m) else A.1 j) ∧
    (m = 4 → ∀ j, j < 1680 → A'.1 j = if j < 1260 then A.1 (j + 420) else s (j - 1260)))
section MC
variable {h h' : AHp} {F s : Nat → Int32} {A : Ar}
theorem HM.lp (hM : HM h F s A) {i : Nat} (hi : i < 1680) : ldi h 425 (nI i) = some (A.1 i) := hM.2.2.1.ld hi (by decide)
theorem HM.sp (hM : HM h F s A) {i : Nat} (hi : i < 1680) (x : Int32) : ∃ h', sti h 425 (nI i) x = some h' ∧ HM h' F s (upd A.1 i x, A.2) ∧ Fr 423 430 h h' := by
  obtain ⟨a1, a2, a3, a4, a5, a6, a7⟩ := hM
  obtain ⟨h', e, b, r⟩ := a3.st (x := x) hi (by decide)
  exact ⟨h', e, ⟨a1.fr r (by omega), a2.fr r (by omega), b, a4.fr r (by omega), a5.fr r (by omega), a6.fr r (by omega), a7.fr r (by omega)⟩, r.up (by omega) (by omega)⟩
theorem m_changes (hM : HM h F s A) {m : Nat} (hm : m ≤ 4) (hF : F 4 = nI m) : Call 90 [.ref 423] h (fun rv h' => rv = none ∧ (∃ F' A', HM h' F' s A' ∧ CH m F s A F' A') ∧ Fr 423 430 h h') := by
  simp only [s90_0, s90_1, s90_4, s90_e, hM.f, oB_some]
  by_cases c0 : F 5 = 0
  · rw [if_pos c0]
    have tail : ∀ (m' : Nat) (hh : AHp) (F1 : Nat → Int32) (A1 : Ar) (v1 : Value), m' < 4 → HM hh F1 s A1 → F1 4 = nI m' → Fr 423 430 h hh →
        (∀ F' A', F' 4 = nI (m' + 1) → (∀ j, j ≠ 4 → F' j = F1 j) → A'.2 = A1.2 → (∀ j, j < 1680 → A'.1 j = if 420 * m' ≤ j ∧ j < 420 * m' + 420 then s (j - 420 * m') else A1.1 j) → CH m F s A F' A') →
        Ev none 90 57 [.ref 423, v1] [] hh (fun rv h' => rv = none ∧ (∃ F' A', HM h' F' s A' ∧ CH m F s A F' A') ∧ Fr 423 430 h h') := by
      intro m' hh F1 A1 v1 hm' z1 z2 z3 z4
      have loop : ∀ d k (h2 : AHp) (A2 : Ar), k + d = 420 → HM h2 F1 s A2 → A2.2 = A1.2 → (∀ j, j < 1680 → A2.1 j = if 420 * m' ≤ j ∧ j < 420 * m' + k then s (j - 420 * m') else A1.1 j) → Fr 423 430 h h2 →
          Ev none 90 59 [.ref 423, .int (nI k)] [] h2 (fun rv h' => rv = none ∧ (∃ F' A', HM h' F' s A' ∧ CH m F s A F' A') ∧ Fr 423 430 h h') := by
        intro d
        induction d with
        | zero =>
          intro k h2 A2 hk y1 y2 y3 y4
          obtain rfl : k = 420 := by omega
          obtain ⟨h3, e3, k3, r3⟩ := y1.sF (k := 4) (by decide) (nI (m' + 1))
          simp only [s90_59, s90_60, s90_63, if_pos (show (420 : Int32) ≤ nI 420 by decide), s90_93, s90_94, s90_95, s90_98, s90_99, s90_100, s90_103, y1.f, oB_some, z2, nI_1, e3]
          exact ⟨trivial, ⟨_, _, k3, z4 _ _ rfl (fun j hj => by unfold upd; rw [if_neg hj]) y2 y3⟩, y4.tr r3⟩
        | succ d ih =>
          intro k h2 A2 hk y1 y2 y3 y4
          obtain ⟨h3, e3, k3, r3⟩ := y1.sp (show 420 * m' + k < 1680 by omega) (s k)
          have l1 := y1.ls (show k < 420 by omega)
          have e420 : (420 : Int32) * nI m' + nI k = nI (420 * m' + k) := by
            rw [show (420 : Int32) = nI 420 from rfl, nI_mul, nI_add]
          simp only [s90_59, s90_60, s90_63, if_neg (show ¬ (420 : Int32) ≤ nI k from nI_ge (b := 420) (by omega) (by decide))]
          simp only [s90_66, s90_67, s90_70, s90_73, s90_74, s90_77, s90_78, s90_79, s90_80, s90_81, s90_84, s90_85, s90_86, s90_87, s90_90, y1.f, oB_some, z2, e420, l1, e3, nI_1]
          refine ih (k + 1) h3 _ (by omega) k3 y2 (fun j hj => ?_) (y4.tr r3)
          show upd A2.1 (420 * m' + k) (s k) j = _
          unfold upd
          by_cases e : j = 420 * m' + k
          · subst e
            rw [if_pos rfl, if_pos (by omega), Nat.add_sub_cancel_left]
          · rw [if_neg e, y3 j hj]
            by_cases e2 : 420 * m' ≤ j ∧ j < 420 * m' + k
            · rw [if_pos e2, if_pos (by omega)]
            · rw [if_neg e2, if_neg (by omega)]
      simp only [s90_57, s90_58]
      exact loop 420 0 hh A1 rfl z1 rfl (fun j hj => by rw [if_neg (by omega)]) z3
    simp only [s90_8, s90_9, s90_12, s90_13, hM.f, oB_some, hF, (show (4 : Int32) = nI 4 from rfl), nI_eq (show m < 2147483648 by omega) (show 4 < 2147483648 by decide)]
    by_cases c4 : m = 4
    · rw [if_neg (fun q => q c4)]
      have loop : ∀ d k (h2 : AHp) (A2 : Ar), k + d = 1260 → HM h2 F s A2 → A2.2 = A.2 → (∀ j, j < 1680 → A2.1 j = if j < k then A.1 (j + 420) else A.1 j) → Fr 423 430 h h2 →
          Ev none 90 18 [.ref 423, .int (nI k)] [] h2 (fun rv h' => rv = none ∧ (∃ F' A', HM h' F' s A' ∧ CH m F s A F' A') ∧ Fr 423 430 h h') := by
        intro d
        induction d with
        | zero =>
          intro k h2 A2 hk y1 y2 y3 y4
          obtain rfl : k = 1260 := by omega
          obtain ⟨h3, e3, k3, r3⟩ := y1.sF (k := 4) (by decide) (nI 3)
          have hF4 : F 4 = nI 4 := by rw [hF, c4]
          simp only [s90_18, s90_19, s90_22, if_pos (show (1260 : Int32) ≤ nI 1260 by decide), s90_47, s90_48, s90_49, s90_52, s90_53, s90_54, y1.f, oB_some, hF4, (show nI 4 - 1 = nI 3 from rfl), e3]
          refine tail 3 h3 _ _ _ (by decide) k3 rfl (y4.tr r3) ?_
          intro F' A' u1 u2 u3 u4
          refine ⟨fun q => absurd c0 q, fun _ => ⟨?_, ?_, u3.trans y2, fun q => by omega, fun _ j hj => ?_⟩⟩
          · rw [u1, if_neg (by omega)]
          · intro j hj
            rw [u2 j hj]
            unfold upd
            rw [if_neg hj]
          · rw [u4 j hj, y3 j hj]
            by_cases e : j < 1260
            · rw [if_neg (by omega), if_pos e, if_pos e]
            · rw [if_pos (by omega), if_neg e]
        | succ d ih =>
          intro k h2 A2 hk y1 y2 y3 y4
          obtain ⟨h3, e3, k3, r3⟩ := y1.sp (show k < 1680 by omega) (A.1 (k + 420))
          have l1 := y1.lp (show k + 420 < 1680 by omega)
          rw [y3 _ (by omega), if_neg (by omega)] at l1
          have e420 : nI k + (420 : Int32) = nI (k + 420) := by rw [show (420 : Int32) = nI 420 from rfl, nI_add]
          simp only [s90_18, s90_19, s90_22, if_neg (show ¬ (1260 : Int32) ≤ nI k from nI_ge (b := 1260) (by omega) (by decide))]
          simp only [s90_25, s90_26, s90_29, s90_30, s90_31, s90_34, s90_35, s90_38, s90_39, s90_40, s90_41, s90_44, y1.f, oB_some, e420, l1, e3, nI_1]
          refine ih (k + 1) h3 _ (by omega) k3 y2 (fun j hj => ?_) (y4.tr r3)
          show upd A2.1 k (A.1 (k + 420)) j = _
          unfold upd
          by_cases e : j = k
          · subst e
            rw [if_pos rfl, if_pos (by omega)]
          · rw [if_neg e, y3 j hj]
            by_cases e2 : j < k
            · rw [if_pos e2, if_pos (by omega)]
            · rw [if_neg e2, if_neg (by omega)]
      simp only [s90_16, s90_17]
      exact loop 1260 0 h A rfl hM rfl (fun j hj => by rw [if_neg (Nat.not_lt_zero j)]) Fr.rf
    · rw [if_pos c4]
      refine tail m h F A _ (by omega) hM hF Fr.rf ?_
      intro F' A' u1 u2 u3 u4
      exact ⟨fun q => absurd c0 q, fun _ => ⟨by rw [u1, if_pos (by omega)], u2, u3, fun _ => u4, fun q => absurd q c4⟩⟩
  · rw [if_neg c0]
    simp only [s90_7]
    exact ⟨trivial, ⟨F, A, hM, fun _ => ⟨rfl, rfl⟩, fun q => absurd q c0⟩, Fr.rf⟩
end MC
