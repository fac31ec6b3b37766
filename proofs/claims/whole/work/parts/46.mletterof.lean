/-! The model: what it answers of letters. -/
def IZ (S : St) : Prop := (∀ v, v < 6 → KZ (S.vk v)) ∧ ∀ M ∈ S.lt, KZ M.2.2.2.2
theorem lat_spec (l : List Lt) (x : Int32) (n : Nat) : ∀ d k, k + d = n → (lat l x d k = eF ∧ ∀ i, k ≤ i → i < n → ¬ nI (rk l i) = x) ∨ ∃ i, i < n ∧ lat l x d k = nI i ∧ nI (rk l i) = x := by
  intro d
  induction d with
  | zero => intro k hk; exact Or.inl ⟨rfl, fun i h1 h2 => by omega⟩
  | succ d ih =>
    intro k hk
    unfold lat
    by_cases c : nI (rk l k) = x
    · rw [if_pos c]
      exact Or.inr ⟨k, by omega, rfl, c⟩
    · rw [if_neg c]
      rcases ih (k + 1) (by omega) with ⟨h1, h2⟩ | h1
      · refine Or.inl ⟨h1, fun i q1 q2 => ?_⟩
        by_cases e : i = k
        · subst e; exact c
        · exact h2 i (by omega) q2
      · exact Or.inr h1
section LO
variable {h h' : AHp} {F s : Nat → Int32} {A : Ar} {S : St} {n : Nat} {td : Nat → Nat} {came posted : Nat} {P : List Pt}
theorem m_letterOf (hM : HM h F s A) (hX : MX s S td came posted P) (hz : IZ S) (ht : S.ct 1 < 1000000) (x y : Int32) : ∀ post, Call 130 [.ref 423, .int x, .int y] h post = post (some (.int (aLetterOf S x y))) h := by
  refine call_eq ?_
  simp only [s130_0, s130_1, s130_e]
  unfold aLetterOf
  by_cases c0 : x < 0
  · rw [if_pos c0, if_pos (Or.inl c0)]
    simp only [s130_13, s130_15]
    first | exact ⟨rfl, trivial⟩ | exact ⟨trivial, trivial⟩
  rw [if_neg c0]
  simp only [s130_4, s130_5, s130_6, s130_7, s130_10, m_in, Option.toList_some, List.cons_append, List.nil_append]
  by_cases cy : 0 ≤ y ∧ y ≤ 4
  · rw [if_pos cy, if_pos (show ¬ (1 : Int32) = 0 by decide), if_neg (show ¬ (x < 0 ∨ ¬ (0 ≤ y ∧ y ≤ 4)) from fun q => q.elim c0 (fun q => q cy))]
    have h8 := hX.2.2.2.2.2.2.1
    have hlt := hX.2.2.2.2.2.2.2.2.2.2
    have hlen : S.lt.length = P.length := by rw [hlt, srt_len, List.length_map]
    have hrk := rk_srt P.length (P.map (fun q => q.2.2)) (by rw [List.length_map])
    simp only [s130_16, s130_17, s130_18, s130_21, s130_22, s130_23, hM.f, m_letterAt hM hX ht, Option.toList_some, List.cons_append, List.nil_append]
    rcases lat_spec (P.map (fun q => q.2.2)) x P.length P.length 0 (Nat.zero_add _) with ⟨e1, e2⟩ | ⟨k, hk, e1, e2⟩
    · have hx : ix x S.lt.length = none := by
        rcases ix_cases x S.lt.length with q | ⟨j, hj, q⟩
        · exact q
        · obtain ⟨i, i1, i2⟩ := hrk.2 j (by omega)
          exact absurd (by rw [i2, q]) (e2 i (Nat.zero_le _) i1)
      rw [hx, e1, if_neg (show ¬ (0 : Int32) ≤ eF by decide)]
      simp only [s130_26, s130_28]
      first | exact ⟨rfl, trivial⟩ | exact ⟨trivial, trivial⟩
    · have hkl := List.getElem?_eq_getElem hk
      have hg := hrk.1 k hk
      rw [← hlt, List.getElem?_map, hkl] at hg
      have hg' : S.lt[rk (P.map (fun q => q.2.2)) k]? = some P[k].2.2 := hg
      have hj := (List.getElem?_eq_some_iff.mp hg').1
      rw [e1, ← e2, ix_nI hj (by omega)]
      dsimp only
      rw [hg', if_pos (show (0 : Int32) ≤ nI k from nI_pos' (by omega))]
      show Ev _ _ _ _ _ _ (fun r g => r = some (Value.int (lAns S P[k].2.2 y)) ∧ g = h)
      have mk := m_let hM hX hkl
      have hl := m_isLost hM hX hkl
      have hkn := (hX.2.2.2.2.2.2.2.1 k _ hkl).2.2.2.2.2
      have hz' := hz.2 _ (List.mem_of_getElem? hg')
      have l2 : ldi h 424 2 = some (nI (S.ct 1)) := by rw [← hX.1.2.2.1]; exact hM.ls (i := 2) (by decide)
      simp only [s130_29, s130_30, s130_31]
      by_cases y0 : y = 0
      · subst y0
        rw [if_neg (by decide)]
        simp only [s130_34, s130_35, s130_36, s130_37, s130_40, s130_94, hM.f, mk.1, Option.toList_some, List.cons_append, List.nil_append]
        first | exact ⟨rfl, trivial⟩ | exact ⟨trivial, trivial⟩
      by_cases y1 : y = 1
      · subst y1
        rw [if_neg (by decide)]
        simp only [s130_34, s130_35, s130_36, s130_37, s130_40, s130_94, hM.f, mk.2.1, Option.toList_some, List.cons_append, List.nil_append]
        first | exact ⟨rfl, trivial⟩ | exact ⟨trivial, trivial⟩
      have y2 : (2 : Int32) ≤ y := by
        have a1 := (i_le 0 y).mp cy.1
        rw [i_le]
        have e0 : (0 : Int32).toInt = 0 := rfl
        have e2' : (2 : Int32).toInt = 2 := rfl
        have n0 : ¬ y.toInt = 0 := fun q => y0 (Int32.toInt_inj.mp q)
        have n1 : ¬ y.toInt = 1 := fun q => y1 (Int32.toInt_inj.mp q)
        omega
      rw [if_pos y2]
      simp only [s130_43, s130_44, s130_45]
      by_cases y22 : y = 2
      · subst y22
        rw [if_neg (fun q => q rfl)]
        simp only [s130_48, s130_49, s130_50, s130_51, s130_54, s130_55, s130_58, s130_59, s130_60, s130_61, s130_94, hM.f, mk.2.2.2.1, l2, oB_some, Option.toList_some, List.cons_append, List.nil_append]
        first | exact ⟨rfl, trivial⟩ | exact ⟨trivial, trivial⟩
      rw [if_pos y22]
      simp only [s130_64, s130_65, s130_66]
      by_cases y3 : y = 3
      · subst y3
        rw [if_neg (fun q => q rfl)]
        simp only [s130_69, s130_70, s130_71, s130_74, s130_75, s130_78, s130_94, hM.f, m_knew, m_sum0 hM hkn hz' (show 185 + 30 * k + 25 ≤ 420 by omega), Option.toList_some, List.cons_append, List.nil_append]
        first | exact ⟨rfl, trivial⟩ | exact ⟨trivial, trivial⟩
      rw [if_pos y3]
      simp only [s130_81, s130_82, s130_83, s130_86, hM.f, hl, Option.toList_some, List.cons_append, List.nil_append]
      have ea : lAns S P[k].2.2 y = bI P[k].2.2.2.2.2.1 := by
        unfold lAns
        rw [if_neg y0, if_neg y1, if_neg y22, if_neg y3]
      rw [ea]
      unfold bI
      by_cases cl : P[k].2.2.2.2.2.1 = true
      · rw [if_pos cl, if_neg (show ¬ (1 : Int32) = 0 by decide)]
        simp only [s130_89, s130_90, s130_94]
        first | exact ⟨rfl, trivial⟩ | exact ⟨trivial, trivial⟩
      · rw [if_neg cl, if_pos rfl]
        simp only [s130_93, s130_94]
        first | exact ⟨rfl, trivial⟩ | exact ⟨trivial, trivial⟩
  · rw [if_neg cy, if_neg (show ¬ ¬ (0 : Int32) = 0 by decide), if_pos (Or.inr cy)]
    simp only [s130_13, s130_15]
    first | exact ⟨rfl, trivial⟩ | exact ⟨trivial, trivial⟩
end LO
