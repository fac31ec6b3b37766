/-! The model: views with a writer's part as it is in its home, or with its grave. -/
section VW
variable {h h' : AHp} {F s : Nat → Int32} {A : Ar} {S : St} {n : Nat} {td : Nat → Nat}
theorem m_viewsWith (hM : HM h F s A) (hL : ML s S n td) {w : Nat} (hw : w < S.ct 0) (g : Bool) : ∀ post, Call 127 [.ref 423, .int (nI w), .int (bI g)] h post = post (some (.int (if g = true then grSet S w else upSet S w))) h := by
  refine call_eq ?_
  have h8 := hL.2.2.2.2.2.2.2.2
  have hw8 : w < 8 := by omega
  obtain ⟨p, hp⟩ : ∃ p : Nat → Bool, p = fun u => S.th u && (if g = true then gb (S.vk u).2.2.2 w else decide ((S.vk u).1 w = (S.vk (S.ho w)).1 w)) := ⟨_, rfl⟩
  have ep : (if g = true then grSet S w else upSet S w) = obits p 6 := by
    rw [hp]
    cases g <;> rfl
  rw [ep]
  have pu : ∀ u, p u = (S.th u && (if g = true then gb (S.vk u).2.2.2 w else decide ((S.vk u).1 w = (S.vk (S.ho w)).1 w))) := fun u => by rw [hp]
  have loop : ∀ d u (v5 : Value), u + d = 6 → Ev none 127 5 [.ref 423, .int (nI w), .int (bI g), .int (obits p u), .int (nI u), v5] [] h (fun r q => r = some (.int (obits p 6)) ∧ q = h) := by
    intro d
    induction d with
    | zero =>
      intro u v5 hu
      obtain rfl : u = 6 := by omega
      simp only [s127_5, s127_7, s127_9, s127_102, s127_103, if_pos (show (6 : Int32) ≤ nI 6 by decide)]
      first | exact ⟨rfl, trivial⟩ | exact ⟨trivial, trivial⟩
    | succ d ih =>
      intro u v5 hu
      have hu6 : u < 6 := by omega
      have z := fun v => ih (u + 1) v (by omega)
      have hk := (hL.2.2.2.2.2.2.1 u hu6).2.2.2
      have ho6 := (hL.2.2.2.2.2.2.2.1 w hw).2.2.1
      have hh := (hL.2.2.2.2.2.2.1 _ ho6).2.2.2
      have yes : p u = true → Ev none 127 73 [.ref 423, .int (nI w), .int (bI g), .int (obits p u), .int (nI u), v5] [] h (fun r q => r = some (.int (obits p 6)) ∧ q = h) := by
        intro c
        simp only [s127_73, s127_74, s127_78, s127_80, s127_81, s127_83, if_neg (show ¬ (1 : Int32) = 0 by decide)]
        simp only [s127_86, s127_87, s127_89, s127_90, s127_93, s127_94, s127_95, s127_96, s127_99, ob_s c, nI_1]
        exact z _
      have no : ¬ p u = true → Ev none 127 77 [.ref 423, .int (nI w), .int (bI g), .int (obits p u), .int (nI u), v5] [] h (fun r q => r = some (.int (obits p 6)) ∧ q = h) := by
        intro c
        simp only [s127_77, s127_78, s127_80, s127_81, s127_83]
        rw [if_pos trivial]
        simp only [s127_93, s127_94, s127_95, s127_96, s127_99, ob_n c, nI_1]
        exact z _
      simp only [s127_5, s127_7, s127_9, if_neg (le6 hu6)]
      simp only [s127_12, s127_13, s127_15, s127_18, hM.f, m_isView hM hL, hv_nI hu6, Option.toList_some, List.cons_append, List.nil_append]
      by_cases c : S.th u = true
      · rw [if_pos c, if_neg (show ¬ (1 : Int32) = 0 by decide)]
        simp only [s127_21, s127_22]
        cases g with
        | true =>
          rw [if_neg (show ¬ bI true = 0 by decide)]
          simp only [s127_25, s127_26, s127_29, s127_31, s127_34, s127_35, s127_36, s127_37, s127_38, s127_39, s127_40, hM.f, m_knows, Option.toList_some, List.cons_append, List.nil_append, oB_some, hM.ls (show 9 + 26 * u < 420 by omega), hk.1, shr_bit _ (show w < 32 by omega)]
          by_cases c2 : gb (S.vk u).2.2.2 w = true
          · rw [if_neg (fun q => q c2)]
            simp only [s127_43]
            exact yes (by rw [pu]; simp [c, c2])
          · rw [if_pos c2]
            exact no (by rw [pu]; simp [c2])
        | false =>
          rw [if_pos (show bI false = 0 from rfl)]
          simp only [s127_46, s127_47, s127_50, s127_52, s127_55, s127_56, s127_59, s127_60, s127_61, s127_64, s127_65, s127_66, s127_69, s127_70, hM.f, m_knows, m_part, m_ownPart hM hL hw, Option.toList_some, List.cons_append, List.nil_append, oB_some, hM.ls (show 9 + 26 * u + 1 + 3 * w < 420 by omega), hM.ls (show 9 + 26 * S.ho w + 1 + 3 * w < 420 by omega), (hk.2 w hw8).1, (hh.2 w hw8).1]
          by_cases c2 : (S.vk u).1 w = (S.vk (S.ho w)).1 w
          · rw [if_neg (fun q => q c2)]
            exact yes (by rw [pu]; simp [c, c2])
          · rw [if_pos c2]
            exact no (by rw [pu]; simp [c2])
      · rw [if_neg c, if_pos rfl]
        exact no (by rw [pu]; simp [c])
  simp only [s127_0, s127_1, s127_2, s127_3, s127_e]
  exact loop 6 0 _ rfl
end VW
