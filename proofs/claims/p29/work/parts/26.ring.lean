theorem nxF_spec (p : Nat → Bool) (v : Nat) : ∀ d k, (∃ j, k ≤ j ∧ j < k + d ∧ nxF p v d k = (v + j) % 6 ∧ p ((v + j) % 6) = true ∧ ∀ i, k ≤ i → i < j → p ((v + i) % 6) = false) ∨ (nxF p v d k = v ∧ ∀ i, k ≤ i → i < k + d → p ((v + i) % 6) = false) := by
  intro d
  induction d with
  | zero => intro k; exact Or.inr ⟨rfl, fun i h1 h2 => by omega⟩
  | succ d ih =>
    intro k
    unfold nxF
    by_cases hc : p ((v + k) % 6) = true
    · rw [if_pos hc]
      exact Or.inl ⟨k, Nat.le_refl k, by omega, rfl, hc, fun i h1 h2 => by omega⟩
    · rw [if_neg hc]
      rcases ih (k + 1) with ⟨j, h1, h2, h3, h4, h5⟩ | ⟨h1, h2⟩
      · refine Or.inl ⟨j, by omega, by omega, h3, h4, fun i q1 q2 => ?_⟩
        by_cases e : i = k
        · subst e; simpa using hc
        · exact h5 i (by omega) q2
      · refine Or.inr ⟨h1, fun i q1 q2 => ?_⟩
        by_cases e : i = k
        · subst e; simpa using hc
        · exact h2 i (by omega) (by omega)
theorem nxt_spec {p : Nat → Bool} {v : Nat} (hv : v < 6) (he : ∃ u, u < 6 ∧ p u = true) : nxt p v < 6 ∧ p (nxt p v) = true := by
  unfold nxt
  rcases nxF_spec p v 6 1 with ⟨j, h1, h2, h3, h4, h5⟩ | ⟨h1, h2⟩
  · rw [h3]; exact ⟨Nat.mod_lt _ (by decide), h4⟩
  · obtain ⟨u, hu, hp⟩ := he
    have : ∃ j, 1 ≤ j ∧ j < 7 ∧ (v + j) % 6 = u := by
      by_cases c : v < u
      · exact ⟨u - v, by omega, by omega, by rw [show v + (u - v) = u by omega]; exact Nat.mod_eq_of_lt hu⟩
      · refine ⟨u + 6 - v, by omega, by omega, ?_⟩
        rw [show v + (u + 6 - v) = u + 6 by omega, Nat.add_mod_right]
        exact Nat.mod_eq_of_lt hu
    obtain ⟨j, j1, j2, j3⟩ := this
    have := h2 j j1 (by omega)
    rw [j3, hp] at this
    cases this
theorem nxt_self {p : Nat → Bool} {v : Nat} (hv : v < 6) (he : nxt p v = v) : ∀ u, u < 6 → u ≠ v → p u = false := by
  intro u hu hne
  have key : ∀ i, 1 ≤ i → i < 6 → p ((v + i) % 6) = false := by
    unfold nxt at he
    rcases nxF_spec p v 6 1 with ⟨j, h1, h2, h3, h4, h5⟩ | ⟨h1, h2⟩
    · rw [h3] at he
      have hj : j = 6 := by
        apply Classical.byContradiction
        intro hn
        by_cases c : v + j < 6
        · rw [Nat.mod_eq_of_lt c] at he; omega
        · have e : (v + j) % 6 = v + j - 6 := by
            rw [Nat.mod_eq_sub_mod (by omega), Nat.mod_eq_of_lt (by omega)]
          rw [e] at he; omega
      intro i i1 i2
      exact h5 i i1 (by omega)
    · intro i i1 i2
      exact h2 i i1 (by omega)
  by_cases c : v < u
  · have := key (u - v) (by omega) (by omega)
    rwa [show v + (u - v) = u by omega, Nat.mod_eq_of_lt hu] at this
  · have := key (u + 6 - v) (by omega) (by omega)
    rwa [show v + (u + 6 - v) = u + 6 by omega, Nat.add_mod_right, Nat.mod_eq_of_lt hu] at this
theorem kEq_rf (K : Kn) : kEq K K = true := by simp [kEq, allb]
def sameSet (S : St) (v : Nat) : Int32 := obits (fun u => S.th u && kEq (S.vk u) (S.vk v)) 6
def mu : Nat → St → Nat → Nat → Nat
  | 0, _, _, n => n
  | d + 1, S, v, n => if sameSet S v = obits S.th 6 then n else mu d (sVK S (va_up S.vk v (kTk (S.vk v) (S.vk (nxt S.th v))))) (nxt S.th v) (n + 1)
section RG
variable {h h' : AHp} {t : Nat} {S : St}
end RG
