/-! The class's text: the run. -/
def RF (F : Nat → Int32) (R : Option (Nat × Int32 × Int32) × Nat × St) : Prop := match R.1 with
  | none => F 3 = -1 ∧ F 2 = nI R.2.1
  | some q => F 3 = nI q.1 ∧ F 4 = q.2.1 ∧ F 5 = q.2.2
theorem rdO_le {c : Nat → Int32} {n p : Nat} (hp : p < n) : p ≤ (rdO c n p).2.1 ∧ (rdO c n p).2.1 ≤ n ∧ ((rdO c n p).1 = true → p < (rdO c n p).2.1 ∧ ¬ nOf (c p) = 0 ∧ (rdO c n p).2.2.length = nOf (c p)) := by
  unfold rdO
  by_cases c0 : nOf (c p) = 0
  · rw [if_pos c0]
    exact ⟨Nat.le_refl _, Nat.le_of_lt hp, fun q => by cases q⟩
  · rw [if_neg c0]
    have := rdL_le c n (nOf (c p)) (p + 1) hp
    exact ⟨by omega, this.2.1, fun q => ⟨by omega, c0, this.2.2.2 q⟩⟩