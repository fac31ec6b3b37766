/-! The model: what all views have seen. -/
theorem lkv_none {S : St} {w : Nat} : ∀ {n : Nat}, lkv S w n = none → ∀ i, i < n → S.th i = false := by
  intro n
  induction n with
  | zero => intro _ i hi; omega
  | succ n ih =>
    intro h i hi
    unfold lkv at h
    split at h
    · rename_i q
      by_cases c : S.th n = true
      · rw [if_pos c] at h; cases h
      · by_cases e : i = n
        · subst e; simpa using c
        · exact ih q i (by omega)
    · split at h <;> cases h
theorem sm_up {f : Nat → Int32} {c : Nat} : ∀ d, (∀ w, c ≤ w → w < c + d → f w = 0) → sm f (c + d) = sm f c := by
  intro d
  induction d with
  | zero => intro _; rfl
  | succ d ih =>
    intro h
    show sm f (c + d) + f (c + d) = _
    rw [ih (fun w h1 h2 => h w h1 (by omega)), h (c + d) (by omega) (by omega), Int32.add_zero]
section MSE
variable {h h' : AHp} {F s : Nat → Int32} {A : Ar} {S : St} {n G : Nat} {td : Nat → Nat}
theorem m_seen (hM : HM h F s A) (hL : ML s S n td) (hi : IV G S) (hG : G ≤ 40000) (he : ∃ v, v < 6 ∧ S.th v = true) : ∀ post, Call 135 [.ref 423] h post = post (some (.int (sm (lk S) (S.ct 0)))) h := by
  refine call_eq ?_
  have h8 := hL.2.2.2.2.2.2.2.2
  have hz := (hi.iz hG).1
  have esm : sm (lk S) (S.ct 0) = sm (lk S) 8 := by
    have := sm_up (f := lk S) (c := S.ct 0) (8 - S.ct 0) (fun w h1 h2 => by
      unfold lk
      split
      · rfl
      · rename_i m hm
        have := hi.nw (v := m) (w := w) (lkv_lt hm) (by omega) h1
        rw [this.2.1, this.2.2]; rfl)
    rw [show S.ct 0 + (8 - S.ct 0) = 8 by omega] at this
    exact this.symm
  rw [esm]
  obtain ⟨f, hf⟩ : ∃ f, f = nxt S.th 5 := ⟨_, rfl⟩
  have hfs := nxt_spec (p := S.th) (v := 5) (by decide) he
  rw [← hf] at hfs
  have outer : ∀ d w (v3 v4 : Value), w + d = 8 → Ev none 135 4 [.ref 423, .int (sm (lk S) w), .int (nI w), v3, v4] [] h (fun r g => r = some (.int (sm (lk S) 8)) ∧ g = h) := by
    intro d
    induction d with
    | zero =>
      intro w v3 v4 hw
      obtain rfl : w = 8 := by omega
      simp only [s135_4, s135_5, s135_7, s135_123, s135_124, if_pos (show (8 : Int32) ≤ nI 8 by decide)]
      first | exact ⟨rfl, trivial⟩ | exact ⟨trivial, trivial⟩
    | succ d ih =>
      intro w v3 v4 hw
      have hw8 : w < 8 := by omega
      have cell : ∀ u, u < 6 → ldi h 424 (nI (9 + 26 * u + 1 + 3 * w)) = some ((S.vk u).1 w) ∧ ldi h 424 (nI (9 + 26 * u + 1 + 3 * w + 1)) = some ((S.vk u).2.1 w) ∧ ldi h 424 (nI (9 + 26 * u + 1 + 3 * w + 2)) = some ((S.vk u).2.2.1 w) := by
        intro u hu
        obtain ⟨q1, q2, q3⟩ := (hL.2.2.2.2.2.2.1 u hu).2.2.2.2 w hw8
        exact ⟨by rw [hM.ls (by omega), q1], by rw [hM.ls (by omega), q2], by rw [hM.ls (by omega), q3]⟩
      have inner : ∀ e u, u + e = 6 → Ev none 135 25 [.ref 423, .int (sm (lk S) w), .int (nI w), .int (nI (9 + 26 * ((lkv S w u).getD f) + 1 + 3 * w)), .int (nI u)] [] h (fun r g => r = some (.int (sm (lk S) 8)) ∧ g = h) := by
        intro e
        induction e with
        | zero =>
          intro u hu
          obtain rfl : u = 6 := by omega
          cases hl : lkv S w 6 with
          | none =>
            have := lkv_none hl f hfs.1
            rw [this] at hfs; cases hfs.2
          | some m =>
            have hm := lkv_lt hl
            obtain ⟨q1, q2, q3⟩ := cell m hm
            have z := fun v3 v4 => ih (w + 1) v3 v4 (by omega)
            have el : sm (lk S) (w + 1) = sm (lk S) w + ((S.vk m).2.1 w - (S.vk m).2.2.1 w) := by
              show sm (lk S) w + lk S w = _
              unfold lk; rw [hl]
            rw [el] at z
            simp only [s135_25, s135_27, s135_29, if_pos (show (6 : Int32) ≤ nI 6 by decide)]
            simp only [s135_84, s135_85, s135_86, s135_89, s135_90, s135_91, Option.getD_some, hM.f, oB_some, q1]
            by_cases c0 : (S.vk m).1 w = 0
            · rw [if_neg (fun q => q c0)]
              have e2 : (S.vk m).2.1 w - (S.vk m).2.2.1 w = 0 := by rw [(hz m hm w hw8 c0).1, (hz m hm w hw8 c0).2]; decide
              rw [e2] at z
              simp only [s135_94, s135_95, s135_115, s135_116, s135_117, s135_120, nI_1]
              exact z _ _
            · rw [if_pos c0]
              simp only [s135_98, s135_99, s135_102, s135_103, s135_104, s135_105, s135_106, s135_107, s135_110, s135_111, s135_112, s135_113, s135_114, s135_115, s135_116, s135_117, s135_120, hM.f, oB_some, (show (1 : Int32) = nI 1 from rfl), (show (2 : Int32) = nI 2 from rfl), nI_add, q2, q3]
              exact z _ _
        | succ e ihe =>
          intro u hu
          have hu6 : u < 6 := by omega
          have z := ihe (u + 1) (by omega)
          obtain ⟨q1, -, -⟩ := cell u hu6
          have hg6 : (lkv S w u).getD f < 6 := by
            cases hl : lkv S w u with
            | none => exact hfs.1
            | some m => have := lkv_lt hl; show m < 6; omega
          obtain ⟨p1, -, -⟩ := cell _ hg6
          simp only [s135_25, s135_27, s135_29, if_neg (le6 hu6)]
          simp only [s135_32, s135_33, s135_35, hM.f, m_isView hM hL, hv_nI hu6, Option.toList_some, List.cons_append, List.nil_append]
          by_cases c : S.th u = true
          · rw [if_pos c]
            simp only [s135_38, s135_41, s135_42, s135_45, s135_47, s135_50, s135_51, s135_54, s135_55, s135_56, s135_59, s135_60, s135_61, if_neg (show ¬ (1 : Int32) = 0 by decide), hM.f, oB_some, m_knows, m_part, Option.toList_some, List.cons_append, List.nil_append, q1, p1]
            by_cases cl : (S.vk ((lkv S w u).getD f)).1 w ≤ (S.vk u).1 w
            · rw [if_pos cl]
              have ed : (lkv S w (u + 1)).getD f = (lkv S w u).getD f := by
                cases hl : lkv S w u with
                | none =>
                  have hn := lkv_none hl
                  have e1 := first_eq hu6 c hn
                  show (match lkv S w u with | none => if S.th u = true then some u else none | some m => if S.th u = true ∧ (S.vk u).1 w < (S.vk m).1 w then some u else some m).getD f = f
                  rw [hl]
                  show (if S.th u = true then some u else none).getD f = f
                  rw [if_pos c, hf, e1]; rfl
                | some m =>
                  rw [hl] at cl
                  show (match lkv S w u with | none => if S.th u = true then some u else none | some m => if S.th u = true ∧ (S.vk u).1 w < (S.vk m).1 w then some u else some m).getD f = m
                  rw [hl]
                  show (if S.th u = true ∧ (S.vk u).1 w < (S.vk m).1 w then some u else some m).getD f = m
                  rw [if_neg (fun q => Int32.not_lt.mpr cl q.2)]; rfl
              rw [ed] at z
              simp only [s135_76, s135_77, s135_78, s135_81, nI_1]
              exact z
            · rw [if_neg cl]
              have ed : (lkv S w (u + 1)).getD f = u := by
                cases hl : lkv S w u with
                | none =>
                  have hn := lkv_none hl
                  have e1 := first_eq hu6 c hn
                  rw [hl] at cl
                  have : f = u := by rw [hf, e1]
                  exact absurd (show (S.vk f).1 w ≤ (S.vk u).1 w by rw [this]; exact Int32.le_refl _) cl
                | some m =>
                  rw [hl] at cl
                  show (match lkv S w u with | none => if S.th u = true then some u else none | some m => if S.th u = true ∧ (S.vk u).1 w < (S.vk m).1 w then some u else some m).getD f = u
                  rw [hl]
                  show (if S.th u = true ∧ (S.vk u).1 w < (S.vk m).1 w then some u else some m).getD f = u
                  rw [if_pos ⟨c, Int32.not_le.mp cl⟩]; rfl
              rw [ed] at z
              simp only [s135_64, s135_66, s135_69, s135_70, s135_73, s135_77, s135_78, s135_81, hM.f, m_knows, m_part, Option.toList_some, List.cons_append, List.nil_append, nI_1]
              exact z
          · rw [if_neg c]
            have ed : (lkv S w (u + 1)).getD f = (lkv S w u).getD f := by
              show (match lkv S w u with | none => if S.th u = true then some u else none | some m => if S.th u = true ∧ (S.vk u).1 w < (S.vk m).1 w then some u else some m).getD f = _
              cases lkv S w u with
              | none => show (if S.th u = true then some u else none).getD f = _; rw [if_neg c]
              | some m => show (if S.th u = true ∧ (S.vk u).1 w < (S.vk m).1 w then some u else some m).getD f = _; rw [if_neg (fun q => c q.1)]
            rw [ed] at z
            simp only [s135_38, if_pos trivial, s135_76, s135_77, s135_78, s135_81, nI_1]
            exact z
      simp only [s135_4, s135_5, s135_7, if_neg (le8 hw8)]
      simp only [s135_10, s135_11, s135_14, s135_17, s135_18, s135_21, s135_22, s135_23, hM.f, m_first hM hL he, m_knows, m_part, Option.toList_some, List.cons_append, List.nil_append]
      have := inner 6 0 rfl
      rw [show (lkv S w 0).getD f = nxt S.th 5 from hf] at this
      exact this
  simp only [s135_0, s135_1, s135_2, s135_3, s135_e]
  exact outer 8 0 _ _ rfl
end MSE
