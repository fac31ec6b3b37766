/-! The model: what it answers of views. -/
section MVO
variable {h h' : AHp} {F s : Nat → Int32} {A : Ar} {S : St} {n : Nat} {td : Nat → Nat}
theorem m_viewOf (hM : HM h F s A) (hL : ML s S n td) (hg : GZ S) (hi : IZ S) (x y : Int32) : ∀ post, Call 125 [.ref 423, .int x, .int y] h post = post (some (.int (aViewOf S x y))) h := by
  refine call_eq ?_
  have bad : aViewOf S x y = eI → Ev none 125 18 [.ref 423, .int x, .int y] [] h (fun r g => r = some (.int (aViewOf S x y)) ∧ g = h) := by
    intro e
    rw [e]
    simp only [s125_18, s125_20]
    first | exact ⟨rfl, trivial⟩ | exact ⟨trivial, trivial⟩
  simp only [s125_0, s125_1, s125_2, s125_5, s125_e, hM.f, m_isView hM hL x, Option.toList_some, List.cons_append, List.nil_append]
  rcases ix_cases x 6 with hx | ⟨v, hv6, rfl⟩
  · have e : hv S x = false := by unfold hv; rw [hx]
    rw [e, if_neg (show ¬ false = true by decide), if_pos rfl]
    exact bad (by unfold aViewOf; rw [hx])
  rw [hv_nI hv6]
  have e0 : aViewOf S (nI v) y = if ¬ S.th v = true then eI else vAns S v y := by unfold aViewOf; rw [ix_nI hv6 (by decide)]
  by_cases c : S.th v = true
  · rw [if_pos c, if_neg (show ¬ (1 : Int32) = 0 by decide)]
    rw [if_neg (fun q => q c)] at e0
    simp only [s125_8, s125_9, s125_10, s125_12, s125_15, m_in, Option.toList_some, List.cons_append, List.nil_append]
    rcases ix_cases y 8 with hy | ⟨j, hj8, rfl⟩
    · have hn : ¬ ((0 : Int32) ≤ y ∧ y ≤ 7) := fun q => by
        have := (ix_iff (x := y) (n := 8) (by decide)).mpr q
        rw [hy] at this; cases this
      rw [if_neg hn, if_neg (show ¬ ¬ (0 : Int32) = 0 by decide)]
      refine bad ?_
      have ne : ∀ k, k < 8 → ¬ y = nI k := fun k hk q => by rw [q, ix_nI hk (by decide)] at hy; cases hy
      rw [e0]
      unfold vAns
      rw [if_neg (show ¬ y = 0 from ne 0 (by decide)), if_neg (show ¬ y = 1 from ne 1 (by decide)), if_neg (show ¬ y = 2 from ne 2 (by decide)), if_neg (show ¬ y = 3 from ne 3 (by decide)), if_neg (show ¬ y = 4 from ne 4 (by decide)), if_neg (show ¬ y = 5 from ne 5 (by decide)), if_neg (show ¬ y = 6 from ne 6 (by decide)), if_neg (show ¬ y = 7 from ne 7 (by decide))]
    · have hp' : (0 : Int32) ≤ nI j ∧ nI j ≤ 7 := (ix_iff (x := nI j) (n := 8) (by decide)).mp (by rw [ix_nI hj8 (by decide)]; rfl)
      rw [if_pos hp', if_pos (show ¬ (1 : Int32) = 0 by decide), e0]
      have hk := (hL.2.2.2.2.2.2.1 v hv6).2.2.2
      have hz := hi.1 v hv6
      have hb : 9 + 26 * v + 25 ≤ 420 := by omega
      obtain ⟨gk, g1, g2⟩ := (hg v hv6).1
      have on1 := m_ones h (obits_8 (fun w => decide (0 < (S.vk v).1 w)))
      have on2 := m_ones h (kern_ok gk g1)
      rw [← g2] at on2
      have lg := hM.ls (show 9 + 26 * v < 420 by omega)
      rw [hk.1] at lg
      have : j = 0 ∨ j = 1 ∨ j = 2 ∨ j = 3 ∨ j = 4 ∨ j = 5 ∨ j = 6 ∨ j = 7 := by omega
      have e7 : ∀ post, Ev none 125 22 [.ref 423, .int (nI v), .int 7] [.int 7] h post = Ev none 125 108 [.ref 423, .int (nI v), .int 7] [] h post := fun post => s125_22_d (by decide)
      rcases this with rfl | rfl | rfl | rfl | rfl | rfl | rfl | rfl <;>
      simp [s125_21, s125_22_0, s125_22_1, s125_22_2, s125_22_3, s125_22_4, s125_22_5, s125_22_6, s125_64, s125_65, s125_66, s125_69, s125_70, s125_73, s125_74, s125_75, s125_76, s125_79, s125_82, s125_83, s125_84, s125_87, s125_88, s125_91, s125_92, s125_95, s125_96, s125_97, s125_98, s125_101, s125_102, s125_103, s125_104, s125_107, s125_108, s125_109, s125_110, s125_113, e7, hM.f, m_knows, m_sum0 hM hk hz hb, m_sum1 hM hk hz hb, m_sum2 hM hk hz hb, m_known hM hL hv6, on1, on2, bc_8, lg, m_homers hM hL hv6, m_alike hM hL hv6, vAns, (show nI 0 = (0 : Int32) from rfl), (show nI 1 = (1 : Int32) from rfl), (show nI 2 = (2 : Int32) from rfl), (show nI 3 = (3 : Int32) from rfl), (show nI 4 = (4 : Int32) from rfl), (show nI 5 = (5 : Int32) from rfl), (show nI 6 = (6 : Int32) from rfl), (show nI 7 = (7 : Int32) from rfl), Option.toList_some, List.cons_append, List.nil_append, oB_some]
  · rw [if_neg c, if_pos rfl]
    exact bad (by rw [e0, if_pos c])
end MVO
