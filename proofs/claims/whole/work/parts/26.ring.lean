theorem nxF_spec (p : Nat → Bool) (v : Nat) : ∀ d k, (∃ j, k ≤ j ∧ j < k + d ∧ nxF p v d k = (v + j) % 6 ∧ p ((v + j) % 6) = true ∧ ∀ i, k ≤ i → i < j → p ((v + i) % 6) = false) ∨ (nxF p v d k = v ∧ ∀ i, k ≤ i → i < k + d → p ((v + i) % 6) = false) := by
  intro d
  induction d with
  | zero => intro k; exact Or.inr ⟨rfl, fun i h1 h2 => by omega⟩
  | succ d ih =>
    intro k
    unfold nxF
    by_cases hc : p ((v + k) % 6) = true
    · rw [if_pos hc]
      exact Or.inl ⟨k, Nat.le_refl k, by omega, rfl, hc, fun i h1 h2 => by omega⟩
    · rw [if_neg hc]
      rcases ih (k + 1) with ⟨j, h1, h2, h3, h4, h5⟩ | ⟨h1, h2⟩
      · refine Or.inl ⟨j, by omega, by omega, h3, h4, fun i q1 q2 => ?_⟩
        by_cases e : i = k
        · subst e; simpa using hc
        · exact h5 i (by omega) q2
      · refine Or.inr ⟨h1, fun i q1 q2 => ?_⟩
        by_cases e : i = k
        · subst e; simpa using hc
        · exact h2 i (by omega) (by omega)
theorem nxt_spec {p : Nat → Bool} {v : Nat} (hv : v < 6) (he : ∃ u, u < 6 ∧ p u = true) : nxt p v < 6 ∧ p (nxt p v) = true := by
  unfold nxt
  rcases nxF_spec p v 6 1 with ⟨j, h1, h2, h3, h4, h5⟩ | ⟨h1, h2⟩
  · rw [h3]; exact ⟨Nat.mod_lt _ (by decide), h4⟩
  · obtain ⟨u, hu, hp⟩ := he
    have : ∃ j, 1 ≤ j ∧ j < 7 ∧ (v + j) % 6 = u := by
      by_cases c : v < u
      · exact ⟨u - v, by omega, by omega, by rw [show v + (u - v) = u by omega]; exact Nat.mod_eq_of_lt hu⟩
      · refine ⟨u + 6 - v, by omega, by omega, ?_⟩
        rw [show v + (u + 6 - v) = u + 6 by omega, Nat.add_mod_right]
        exact Nat.mod_eq_of_lt hu
    obtain ⟨j, j1, j2, j3⟩ := this
    have := h2 j j1 (by omega)
    rw [j3, hp] at this
    cases this
theorem nxt_self {p : Nat → Bool} {v : Nat} (hv : v < 6) (he : nxt p v = v) : ∀ u, u < 6 → u ≠ v → p u = false := by
  intro u hu hne
  have key : ∀ i, 1 ≤ i → i < 6 → p ((v + i) % 6) = false := by
    unfold nxt at he
    rcases nxF_spec p v 6 1 with ⟨j, h1, h2, h3, h4, h5⟩ | ⟨h1, h2⟩
    · rw [h3] at he
      have hj : j = 6 := by
        apply Classical.byContradiction
        intro hn
        by_cases c : v + j < 6
        · rw [Nat.mod_eq_of_lt c] at he; omega
        · have e : (v + j) % 6 = v + j - 6 := by
            rw [Nat.mod_eq_sub_mod (by omega), Nat.mod_eq_of_lt (by omega)]
          rw [e] at he; omega
      intro i i1 i2
      exact h5 i i1 (by omega)
    · intro i i1 i2
      exact h2 i i1 (by omega)
  by_cases c : v < u
  · have := key (u - v) (by omega) (by omega)
    rwa [show v + (u - v) = u by omega, Nat.mod_eq_of_lt hu] at this
  · have := key (u + 6 - v) (by omega) (by omega)
    rwa [show v + (u + 6 - v) = u + 6 by omega, Nat.add_mod_right, Nat.mod_eq_of_lt hu] at this
theorem kEq_rf (K : Kn) : kEq K K = true := by simp [kEq, allb]
def sameSet (S : St) (v : Nat) : Int32 := obits (fun u => S.th u && kEq (S.vk u) (S.vk v)) 6
def mu : Nat → St → Nat → Nat → Nat
  | 0, _, _, n => n
  | d + 1, S, v, n => if sameSet S v = obits S.th 6 then n else mu d (sVK S (va_up S.vk v (kTk (S.vk v) (S.vk (nxt S.th v))))) (nxt S.th v) (n + 1)
section RG
variable {h h' : AHp} {t : Nat} {S : St}
theorem c_ring (hS : HS h t S) : Call 52 [.ref t] h (fun rv h' => rv = some (.int (nI (mu 1000 S (nxt S.th 5) 0))) ∧ (∃ S', HS h' t S') ∧ Fr t (t + 69) h h') := by
  simp only [s52_0, s52_1, s52_2, s52_3, s52_4, s52_e, hS.f, (show (5 : Int32) = nI 5 from rfl), c_viewBehind hS (show 5 < 6 by decide), Option.toList_some, List.cons_append, List.nil_append, s52_7]
  obtain ⟨R, hRR⟩ : ∃ R, mu 1000 S (nxt S.th 5) 0 = R := ⟨_, rfl⟩
  rw [hRR]
  have loop : ∀ d n v (hh : AHp) (T : St), n + d = 1000 → HS hh t T → v < 6 → T.th v = true → mu d T v n = R → Fr t (t + 69) h hh → ∀ v3 : Value, Ev none 52 8 [.ref t, .int (nI n), .int (nI v), v3] [] hh (fun rv h' => rv = some (.int (nI R)) ∧ (∃ S', HS h' t S') ∧ Fr t (t + 69) h h') := by
    intro d
    induction d with
    | zero =>
      intro n v hh T hn hT hv hth he hr v3
      obtain rfl : n = 1000 := by omega
      simp only [s52_8, s52_9, s52_12, s52_57, s52_58, if_pos (show (1000 : Int32) ≤ nI 1000 by decide)]
      rw [← he]
      exact ⟨rfl, ⟨T, hT⟩, hr⟩
    | succ d ih =>
      intro n v hh T hn hT hv hth he hr v3
      simp only [s52_8, s52_9, s52_12, if_neg (show ¬ (1000 : Int32) ≤ nI n from nI_ge (b := 1000) (by omega) (by decide))]
      simp only [s52_15, s52_16, s52_17, s52_20, s52_21, s52_24, hT.f, oB_some, c_viewsSame hT hv, Option.toList_some, List.cons_append, List.nil_append]
      unfold mu at he
      by_cases hs : sameSet T v = obits T.th 6
      · rw [if_pos hs] at he
        have hs' : obits (fun u => T.th u && kEq (T.vk u) (T.vk v)) 6 = obits T.th 6 := hs
        rw [if_pos hs']
        simp only [s52_57, s52_58]
        rw [← he]
        exact ⟨rfl, ⟨T, hT⟩, hr⟩
      · rw [if_neg hs] at he
        have hs' : ¬ obits (fun u => T.th u && kEq (T.vk u) (T.vk v)) 6 = obits T.th 6 := hs
        rw [if_neg hs']
        obtain ⟨x1, x2⟩ := nxt_spec hv hT.w.2.2.2.2.2.1
        have hne : nxt T.th v ≠ v := by
          intro q
          apply hs'
          refine (obits_eq (by decide)).mpr (fun u hu => ?_)
          by_cases e : u = v
          · subst e; simp [kEq_rf]
          · simp [nxt_self hv q u hu e]
        simp only [s52_27, s52_28, s52_29, s52_32, s52_33, s52_34, s52_37, s52_38, s52_39, s52_40, s52_43, s52_44, s52_45, hT.f, oB_some, c_viewBehind hT hv, Option.toList_some, List.cons_append, List.nil_append, hT.vq hv, hT.vq x1, (hT.vK hv).f]
        refine Call.mono (c_takeIn (hT.vK hv) (hT.vK x1) (by omega)) ?_
        rintro rv h4 ⟨rfl, k4, r4⟩
        have hT4 := hT.setK hv k4 r4
        simp only [Option.toList_some, List.cons_append, List.nil_append, s52_48, s52_49, s52_50, s52_51, s52_54, nI_s]
        exact ih (n + 1) (nxt T.th v) h4 _ (by omega) hT4 x1 x2 he (hr.tr (frK hv r4)) _
  obtain ⟨x1, x2⟩ := nxt_spec (p := S.th) (show 5 < 6 by decide) hS.w.2.2.2.2.2.1
  exact loop 1000 0 (nxt S.th 5) h S rfl hS x1 x2 hRR Fr.rf _
end RG
