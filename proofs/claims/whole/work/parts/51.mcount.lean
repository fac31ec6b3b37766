/-! The model: its counts. -/
section MCN
variable {h h' : AHp} {F s : Nat → Int32} {A : Ar} {S : St} {H : List St} {n tn : Nat} {td : Nat → Nat}
theorem m_count (hM : HM h F s A) (hL : ML s S S.lt.length td) (h4 : F 4 = nI H.length) (h7 : F 7 = nI tn) (y : Int32) : ∀ post, Call 140 [.ref 423, .int y] h post = post (some (.int (aCount S H tn y))) h := by
  refine call_eq ?_
  have k6 := obits_8 (fun i => decide (i < 6) && S.th i)
  rw [← obits_68] at k6
  have on1 := m_ones h k6
  rw [bc_6] at on1
  have l0 : ldi h 424 0 = some (s 0) := hM.ls (i := 0) (by decide)
  have l1 : ldi h 424 1 = some (s 1) := hM.ls (i := 1) (by decide)
  have l2 : ldi h 424 2 = some (s 2) := hM.ls (i := 2) (by decide)
  have l3 : ldi h 424 3 = some (s 3) := hM.ls (i := 3) (by decide)
  have l4 : ldi h 424 4 = some (s 4) := hM.ls (i := 4) (by decide)
  have l5 : ldi h 424 5 = some (s 5) := hM.ls (i := 5) (by decide)
  have a5 : (3 : Int32) + 5 - 5 = 3 := by decide
  have a6 : (3 : Int32) + 6 - 5 = 4 := by decide
  have a7 : (3 : Int32) + 7 - 5 = 5 := by decide
  obtain ⟨z0, z1, z2, z3, z4, z5, -⟩ := id hL
  rw [z0] at l0
  rw [z1] at l1
  rw [z2] at l2
  rw [z3] at l3
  rw [z4] at l4
  rw [z5] at l5
  rcases ix_cases y 11 with hy | ⟨j, hj, rfl⟩
  · have ne : ∀ k, k < 11 → ¬ y = nI k := fun k hk q => by rw [q, ix_nI hk (by decide)] at hy; cases hy
    simp only [s140_0, s140_e, s140_1_d (sw_11 (ne 0 (by decide)) (ne 1 (by decide)) (ne 2 (by decide)) (ne 3 (by decide)) (ne 4 (by decide)) (ne 5 (by decide)) (ne 6 (by decide)) (ne 7 (by decide)) (ne 8 (by decide)) (ne 9 (by decide)) (ne 10 (by decide))), s140_120, s140_122]
    unfold aCount
    rw [if_neg (show ¬ y = 0 from ne 0 (by decide)), if_neg (show ¬ y = 1 from ne 1 (by decide)), if_neg (show ¬ y = 2 from ne 2 (by decide)), if_neg (show ¬ y = 3 from ne 3 (by decide)), if_neg (show ¬ y = 4 from ne 4 (by decide)), if_neg (show ¬ y = 5 from ne 5 (by decide)), if_neg (show ¬ y = 6 from ne 6 (by decide)), if_neg (show ¬ y = 7 from ne 7 (by decide)), if_neg (show ¬ y = 8 from ne 8 (by decide)), if_neg (show ¬ y = 9 from ne 9 (by decide)), if_neg (show ¬ y = 10 from ne 10 (by decide))]
    first | exact ⟨rfl, trivial⟩ | exact ⟨trivial, trivial⟩
  · have : j = 0 ∨ j = 1 ∨ j = 2 ∨ j = 3 ∨ j = 4 ∨ j = 5 ∨ j = 6 ∨ j = 7 ∨ j = 8 ∨ j = 9 ∨ j = 10 := by omega
    rcases this with rfl | rfl | rfl | rfl | rfl | rfl | rfl | rfl | rfl | rfl | rfl <;>
    simp [s140_0, s140_1_0, s140_1_1, s140_1_2, s140_1_3, s140_1_4, s140_1_5, s140_1_6, s140_1_7, s140_1_8, s140_1_9, s140_1_10, s140_60, s140_61, s140_64, s140_67, s140_68, s140_69, s140_72, s140_73, s140_74, s140_75, s140_76, s140_79, s140_80, s140_81, s140_84, s140_85, s140_86, s140_87, s140_88, s140_91, s140_92, s140_93, s140_94, s140_95, s140_98, s140_99, s140_100, s140_101, s140_102, s140_103, s140_104, s140_105, s140_106, s140_109, s140_110, s140_111, s140_114, s140_115, s140_116, s140_119, s140_e, hM.f, m_views hM hL, m_active hM hL, on1, l0, l1, l2, l3, l4, l5, a5, a6, a7, h4, h7, aCount, (show nI 0 = (0 : Int32) from rfl), (show nI 1 = (1 : Int32) from rfl), (show nI 2 = (2 : Int32) from rfl), (show nI 3 = (3 : Int32) from rfl), (show nI 4 = (4 : Int32) from rfl), (show nI 5 = (5 : Int32) from rfl), (show nI 6 = (6 : Int32) from rfl), (show nI 7 = (7 : Int32) from rfl), (show nI 8 = (8 : Int32) from rfl), (show nI 9 = (9 : Int32) from rfl), (show nI 10 = (10 : Int32) from rfl), Option.toList_some, List.cons_append, List.nil_append, oB_some]
end MCN
