/-! The rank of a letter is its place in the order of coming. -/
theorem snoc_cases : ∀ l : List Lt, l = [] ∨ ∃ L b, l = L ++ [b] := by
  intro l
  induction l with
  | nil => exact Or.inl rfl
  | cons y l ih =>
    rcases ih with rfl | ⟨L, b, rfl⟩
    · exact Or.inr ⟨[], y, rfl⟩
    · exact Or.inr ⟨y :: L, b, rfl⟩
theorem noL_cn (a : Nat) : ∀ n (l : List Lt), l.length = n → cn (fun i => decide (ar l i ≤ a)) n = noL a l := by
  intro n
  induction n with
  | zero =>
    intro l hl
    have : l = [] := List.length_eq_zero_iff.mp hl
    subst this; rfl
  | succ m ih =>
    intro l hl
    rcases snoc_cases l with rfl | ⟨L, x, rfl⟩
    · cases hl
    · rw [List.length_append] at hl
      have hL : L.length = m := by simpa using hl
      rw [noL_app]
      show (if decide (ar (L ++ [x]) m ≤ a) = true then cn _ m + 1 else cn _ m) = _
      rw [cn_ext (q := fun i => decide (ar L i ≤ a)) m (fun i hi => by show decide (ar (L ++ [x]) i ≤ a) = decide (ar L i ≤ a); rw [ar_l (by omega)]), ih L hL]
      have e : ar (L ++ [x]) m = x.2.2.1 := by rw [← hL]; exact ar_r
      rw [e]
      by_cases c : x.2.2.1 ≤ a
      · rw [if_pos (decide_eq_true c), if_pos c]; omega
      · rw [if_neg (by simp [c]), if_neg c]; omega
theorem rk_srt : ∀ n (l : List Lt), l.length = n → (∀ k, k < n → (srt l)[rk l k]? = l[k]?) ∧ ∀ j, j < n → ∃ k, k < n ∧ rk l k = j := by
  intro n
  induction n with
  | zero => intro l hl; exact ⟨fun k hk => absurd hk (Nat.not_lt_zero k), fun k hk => absurd hk (Nat.not_lt_zero k)⟩
  | succ m ih =>
    intro l hl
    rcases snoc_cases l with rfl | ⟨L, x, rfl⟩
    · cases hl
    · rw [List.length_append] at hl
      have hL : L.length = m := by simpa using hl
      obtain ⟨i1, i2⟩ := ih L hL
      have hp : noL x.2.2.1 L ≤ m := by rw [← hL]; exact noL_le _ _
      have hsl : (srt L).length = m := by rw [srt_len, hL]
      have hat := noL_at x.2.2.1 (srt L) (srt_sorted L)
      rw [noL_srt] at hat
      have ins := insR_at x (srt L) (noL x.2.2.1 L) (by omega) (fun k M hk hM => (hat k M hM).mp hk) (fun k M hk hM => by
        apply Classical.byContradiction
        intro q
        have := (hat k M hM).mpr (by omega)
        omega)
      have am : ar (L ++ [x]) m = x.2.2.1 := by rw [← hL]; exact ar_r
      have last : rk (L ++ [x]) m = noL x.2.2.1 L := by
        unfold rk
        rw [List.length_append, hL]
        show (if bf (L ++ [x]) m m = true then _ else cn _ m) = _
        rw [if_neg (by unfold bf; simp), ← noL_cn x.2.2.1 m L hL]
        refine cn_ext m (fun i hi => ?_)
        unfold bf
        rw [am, ar_l (by omega)]
        apply decide_eq_decide.mpr
        omega
      have other : ∀ k, k < m → rk (L ++ [x]) k = if rk L k < noL x.2.2.1 L then rk L k else rk L k + 1 := by
        intro k hk
        have hkL : k < L.length := by omega
        have hg := i1 k hk
        rw [List.getElem?_eq_getElem hkL] at hg
        have hh := hat _ _ hg
        have ak : ar L k = L[k].2.2.1 := by unfold ar; rw [List.getElem?_eq_getElem hkL]
        unfold rk at hh ⊢
        rw [hL] at hh ⊢
        rw [List.length_append, hL]
        have e1 : cn (bf (L ++ [x]) k) m = cn (bf L k) m := cn_ext m (fun i hi => by unfold bf; rw [ar_l (by omega), ar_l (by omega)])
        show (if bf (L ++ [x]) k m = true then cn _ m + 1 else cn _ m) = _
        rw [e1]
        by_cases c : L[k].2.2.1 ≤ x.2.2.1
        · rw [if_pos (hh.mpr c), if_neg]
          unfold bf
          rw [am, ar_l (by omega), ak]
          simp
          omega
        · rw [if_neg (fun q => c (hh.mp q)), if_pos]
          unfold bf
          rw [am, ar_l (by omega), ak]
          simp
          omega
      refine ⟨fun k hk => ?_, fun j hj => ?_⟩
      · rw [srt_snoc, ins]
        by_cases c : k = m
        · subst c
          rw [last, if_neg (Nat.lt_irrefl _), if_pos rfl, ← hL, List.getElem?_append_right (Nat.le_refl _), Nat.sub_self]
          rfl
        · have hkm : k < m := by omega
          rw [other k hkm, List.getElem?_append_left (by omega)]
          by_cases c2 : rk L k < noL x.2.2.1 L
          · rw [if_pos c2, if_pos c2]; exact i1 k hkm
          · rw [if_neg c2, if_neg (by omega), if_neg (by omega), Nat.add_sub_cancel]; exact i1 k hkm
      · by_cases c : j = noL x.2.2.1 L
        · exact ⟨m, Nat.lt_succ_self m, by rw [last, c]⟩
        · by_cases c2 : j < noL x.2.2.1 L
          · obtain ⟨k, k1, k2⟩ := i2 j (by omega)
            exact ⟨k, by omega, by rw [other k k1, k2, if_pos c2]⟩
          · obtain ⟨k, k1, k2⟩ := i2 (j - 1) (by omega)
            exact ⟨k, by omega, by rw [other k k1, k2, if_neg (by omega)]; omega⟩
