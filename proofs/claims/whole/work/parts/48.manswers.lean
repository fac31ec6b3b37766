/-! The model: what it answers of views, parts and writers. -/
/-- graves are a set of the eight writers; versions are not negative -/
def GZ (S : St) : Prop := ∀ v, v < 6 → (∃ k, k < 256 ∧ (S.vk v).2.2.2 = nI k) ∧ ∀ w, w < 8 → 0 ≤ (S.vk v).1 w
section MA
variable {h h' : AHp} {F s : Nat → Int32} {A : Ar} {S : St} {n : Nat} {td : Nat → Nat}
theorem m_partOf (hM : HM h F s A) (hL : ML s S n td) (hg : GZ S) (x z y : Int32) : ∀ post, Call 126 [.ref 423, .int x, .int z, .int y] h post = post (some (.int (aPartOf S x z y))) h := by
  refine call_eq ?_
  have h8 := hL.2.2.2.2.2.2.2.2
  have bad : aPartOf S x z y = eI → ∀ v4, Ev none 126 25 [.ref 423, .int x, .int z, .int y, v4] [] h (fun r g => r = some (.int (aPartOf S x z y)) ∧ g = h) := by
    intro e v4
    rw [e]
    simp only [s126_25, s126_27]
    first | exact ⟨rfl, trivial⟩ | exact ⟨trivial, trivial⟩
  simp only [s126_0, s126_1, s126_2, s126_5, s126_e, hM.f, m_isView hM hL x, Option.toList_some, List.cons_append, List.nil_append]
  rcases ix_cases x 6 with hx | ⟨v, hv6, rfl⟩
  · have e : hv S x = false := by unfold hv; rw [hx]
    rw [e, if_neg (show ¬ false = true by decide), if_pos rfl]
    exact bad (by unfold aPartOf; rw [hx]) _
  rw [hv_nI hv6]
  by_cases c : S.th v = true
  · rw [if_pos c, if_neg (show ¬ (1 : Int32) = 0 by decide)]
    simp only [s126_8, s126_9, s126_10, s126_13, hM.f, m_isWriter hM hL z, Option.toList_some, List.cons_append, List.nil_append]
    rcases ix_cases z (S.ct 0) with hz | ⟨w, hw0, rfl⟩
    · have e : hw S z = false := by unfold hw; rw [hz]; rfl
      rw [e, if_neg (show ¬ false = true by decide), if_pos rfl]
      exact bad (by unfold aPartOf; rw [hz, ix_nI hv6 (by decide)]) _
    have e : hw S (nI w) = true := by unfold hw; rw [ix_nI hw0 (by omega)]; rfl
    have e0 : aPartOf S (nI v) (nI w) y = if ¬ S.th v = true ∨ ¬ (0 ≤ y ∧ y ≤ 2) then eI else if ¬ 0 < (S.vk v).1 w then eF else if y = 0 then (S.vk v).1 w else if y = 1 then (S.vk v).2.1 w else (S.vk v).2.2.1 w := by
      unfold aPartOf; rw [ix_nI hv6 (by decide), ix_nI hw0 (by omega)]
    rw [e, if_pos (show true = true from rfl), if_neg (show ¬ (1 : Int32) = 0 by decide)]
    simp only [s126_16, s126_17, s126_18, s126_19, s126_22, m_in, Option.toList_some, List.cons_append, List.nil_append]
    have hw8 : w < 8 := by omega
    by_cases cy : 0 ≤ y ∧ y ≤ 2
    · rw [if_pos cy, if_pos (show ¬ (1 : Int32) = 0 by decide)]
      rw [if_neg (show ¬ (¬ S.th v = true ∨ ¬ (0 ≤ y ∧ y ≤ 2)) from fun q => q.elim (fun q => q c) (fun q => q cy))] at e0
      rw [e0]
      obtain ⟨q1, q2, q3⟩ := (hL.2.2.2.2.2.2.1 v hv6).2.2.2.2 w hw8
      simp only [s126_28, s126_29, s126_32, s126_33, s126_36, s126_38, s126_39, s126_42, s126_44, s126_45, m_knows, m_part, hM.f, Option.toList_some, List.cons_append, List.nil_append, oB_some, hM.ls (show 9 + 26 * v + 1 + 3 * w < 420 by omega), q1]
      have hp := (hg v hv6).2 w hw8
      by_cases ck : (S.vk v).1 w = 0
      · rw [if_neg (fun q => q ck), if_pos (show ¬ 0 < (S.vk v).1 w by rw [ck]; decide)]
        simp only [s126_48, s126_50, s126_62]
        first | exact ⟨rfl, trivial⟩ | exact ⟨trivial, trivial⟩
      · have cp : 0 < (S.vk v).1 w := by
          rw [i_lt]; rw [i_le] at hp
          have : ¬ ((S.vk v).1 w).toInt = 0 := fun q => ck (Int32.toInt_inj.mp q)
          have e00 : (0 : Int32).toInt = 0 := rfl
          omega
        rw [if_pos ck, if_neg (fun q => q cp)]
        have hj : ∃ j, j < 3 ∧ y = nI j := by
          rcases ix_cases y 3 with q | q
          · have := (ix_iff (x := y) (n := 3) (by decide)).mpr ⟨cy.1, cy.2⟩
            rw [q] at this; cases this
          · exact q
        obtain ⟨j, hj3, rfl⟩ := hj
        simp only [s126_53, s126_54, s126_57, s126_59, s126_60, s126_61, s126_62, hM.f, oB_some, nI_add, hM.ls (show 9 + 26 * v + 1 + 3 * w + j < 420 by omega)]
        have : j = 0 ∨ j = 1 ∨ j = 2 := by omega
        rcases this with rfl | rfl | rfl
        · refine ⟨?_, trivial⟩
          show some (Value.int (s (9 + 26 * v + 1 + 3 * w))) = _
          rw [q1]; rfl
        · refine ⟨?_, trivial⟩
          rw [q2]; rfl
        · refine ⟨?_, trivial⟩
          rw [q3]; rfl
    · rw [if_neg cy, if_neg (show ¬ ¬ (0 : Int32) = 0 by decide)]
      exact bad (by rw [e0, if_pos (Or.inr cy)]) _
  · rw [if_neg c, if_pos rfl]
    refine bad ?_ _
    unfold aPartOf
    rw [ix_nI hv6 (by decide)]
    cases ix z (S.ct 0) with
    | none => rfl
    | some w => exact if_pos (Or.inl c)
end MA
