/-! The model: what it answers of writers. -/
section MWO
variable {h h' : AHp} {F s : Nat → Int32} {A : Ar} {S : St} {n : Nat} {td : Nat → Nat}
theorem m_writerOf (hM : HM h F s A) (hL : ML s S n td) (x y : Int32) : ∀ post, Call 128 [.ref 423, .int x, .int y] h post = post (some (.int (aWriterOf S x y))) h := by
  refine call_eq ?_
  have h8 := hL.2.2.2.2.2.2.2.2
  have bad : aWriterOf S x y = eI → Ev none 128 17 [.ref 423, .int x, .int y] [] h (fun r g => r = some (.int (aWriterOf S x y)) ∧ g = h) := by
    intro e
    rw [e]
    simp only [s128_17, s128_19]
    first | exact ⟨rfl, trivial⟩ | exact ⟨trivial, trivial⟩
  simp only [s128_0, s128_1, s128_2, s128_5, s128_e, hM.f, m_isWriter hM hL x, Option.toList_some, List.cons_append, List.nil_append]
  rcases ix_cases x (S.ct 0) with hz | ⟨w, hw0, rfl⟩
  · have e : hw S x = false := by unfold hw; rw [hz]; rfl
    rw [e, if_neg (show ¬ false = true by decide), if_pos rfl]
    exact bad (by unfold aWriterOf; rw [hz])
  have e : hw S (nI w) = true := by unfold hw; rw [ix_nI hw0 (by omega)]; rfl
  have e0 : aWriterOf S (nI w) y = wAns S w y := by unfold aWriterOf; rw [ix_nI hw0 (by omega)]
  rw [e, if_pos (show true = true from rfl), if_neg (show ¬ (1 : Int32) = 0 by decide)]
  simp only [s128_8, s128_9, s128_10, s128_11, s128_14, m_in, Option.toList_some, List.cons_append, List.nil_append]
  rcases ix_cases y 5 with hy | ⟨j, hj5, rfl⟩
  · have hn : ¬ ((0 : Int32) ≤ y ∧ y ≤ 4) := fun q => by
      have := (ix_iff (x := y) (n := 5) (by decide)).mpr q
      rw [hy] at this; cases this
    rw [if_neg hn, if_neg (show ¬ ¬ (0 : Int32) = 0 by decide)]
    refine bad ?_
    rw [e0]
    have ne : ∀ k, k < 5 → ¬ y = nI k := fun k hk q => by rw [q, ix_nI hk (by decide)] at hy; cases hy
    unfold wAns
    rw [if_neg (show ¬ y = 0 from ne 0 (by decide)), if_neg (show ¬ y = 1 from ne 1 (by decide)), if_neg (show ¬ y = 2 from ne 2 (by decide)), if_neg (show ¬ y = 3 from ne 3 (by decide)), if_neg (show ¬ y = 4 from ne 4 (by decide))]
  · have hp := (ix_iff (x := nI j) (n := 5) (by decide)).mp (by rw [ix_nI hj5 (by decide)]; rfl)
    have hp' : (0 : Int32) ≤ nI j ∧ nI j ≤ 4 := hp
    rw [if_pos hp', if_pos (show ¬ (1 : Int32) = 0 by decide), e0]
    have hr := m_isRetired hM hL hw0
    obtain ⟨q1, -, -⟩ := (hL.2.2.2.2.2.2.1 _ (hL.2.2.2.2.2.2.2.1 w hw0).2.2.1).2.2.2.2 w (by omega)
    have ho6 := (hL.2.2.2.2.2.2.2.1 w hw0).2.2.1
    have vw1 := m_viewsWith hM hL hw0 true
    have vw0 := m_viewsWith hM hL hw0 false
    have vw1' : ∀ post, Call 127 [.ref 423, .int (nI w), .int 1] h post = post (some (.int (grSet S w))) h := vw1
    have vw0' : ∀ post, Call 127 [.ref 423, .int (nI w), .int 0] h post = post (some (.int (upSet S w))) h := vw0
    have : j = 0 ∨ j = 1 ∨ j = 2 ∨ j = 3 ∨ j = 4 := by omega
    by_cases c : rt S w = true
    · rcases this with rfl | rfl | rfl | rfl | rfl <;>
      simp [s128_20, s128_21, s128_22, s128_25, s128_26, s128_27, s128_28, s128_31, s128_32, s128_33, s128_34, s128_37, s128_38, s128_39, s128_42, s128_43, s128_46, s128_47, s128_50, s128_52, s128_53, s128_54, s128_57, s128_58, s128_59, s128_60, s128_63, s128_66, s128_67, s128_68, s128_71, s128_72, s128_75, s128_76, s128_77, s128_80, s128_81, s128_84, s128_85, s128_86, s128_89, s128_90, s128_91, s128_92, s128_95, s128_98, s128_99, s128_100, s128_101, s128_104, hM.f, hr, c, vw1', vw0', m_heir hM hL hw0, wAns, eF, (show nI 0 = (0 : Int32) from rfl), (show nI 1 = (1 : Int32) from rfl), (show nI 2 = (2 : Int32) from rfl), (show nI 3 = (3 : Int32) from rfl), (show nI 4 = (4 : Int32) from rfl), Option.toList_some, List.cons_append, List.nil_append, oB_some]
    · rcases this with rfl | rfl | rfl | rfl | rfl <;>
      simp [s128_20, s128_21, s128_22, s128_25, s128_26, s128_27, s128_28, s128_31, s128_32, s128_33, s128_34, s128_37, s128_38, s128_39, s128_42, s128_43, s128_46, s128_47, s128_50, s128_52, s128_53, s128_54, s128_57, s128_58, s128_59, s128_60, s128_63, s128_66, s128_67, s128_68, s128_71, s128_72, s128_75, s128_76, s128_77, s128_80, s128_81, s128_84, s128_85, s128_86, s128_89, s128_90, s128_91, s128_92, s128_95, s128_98, s128_99, s128_100, s128_101, s128_104, hM.f, hr, c, vw1', vw0', m_home hM hL hw0, m_ownPart hM hL hw0, hM.ls (show 9 + 26 * S.ho w + 1 + 3 * w < 420 by omega), q1, wAns, eF, (show nI 0 = (0 : Int32) from rfl), (show nI 1 = (1 : Int32) from rfl), (show nI 2 = (2 : Int32) from rfl), (show nI 3 = (3 : Int32) from rfl), (show nI 4 = (4 : Int32) from rfl), Option.toList_some, List.cons_append, List.nil_append, oB_some]
end MWO
