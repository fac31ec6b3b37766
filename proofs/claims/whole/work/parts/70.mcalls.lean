/-! The model's text: an order is done; the answers are no less than the codes. -/
section ORD
variable {G : Nat} {S : St}
theorem eI_nI {n : Nat} (h : n < 2147483648) : eI < nI n := by
  rw [i_lt, nI_toInt h]
  have e : (eI).toInt = -2000000001 := by decide
  omega
theorem eI_cn (p : Nat → Bool) {n : Nat} (h : n ≤ 8) : eI < cntI p n := by
  rw [cntI_cn]
  exact eI_nI (by have := cn_le p n; omega)
theorem gt_sum {c : Nat} {R : Nat → Bool} {a : Nat → Nat} {K : Kn} (h : KV G c R a K) (ha : ∀ w, w < 8 → a w ≤ 999 * G) (hG : G ≤ 40000) : eI < kSum K := by
  obtain ⟨y, h1, h2⟩ := sm_nI (f := K.2.1) (B := 999 * G) 8 (fun w hw => by
    obtain ⟨x, y, z, e1, e2, e3, b1, b2, b3, -⟩ := h.2 w hw
    exact ⟨y, e2, Nat.le_trans b2 (ha w hw)⟩)
  obtain ⟨z, h3, h4⟩ := sm_nI (f := K.2.2.1) (B := 999 * G) 8 (fun w hw => by
    obtain ⟨x, y, z, e1, e2, e3, b1, b2, b3, -⟩ := h.2 w hw
    exact ⟨z, e3, Nat.le_trans b3 (ha w hw)⟩)
  rw [i_lt]
  have e : (eI).toInt = -2000000001 := by decide
  unfold kSum
  rw [e, h1, h3, Int32.toInt_sub, nI_toInt (by omega), nI_toInt (by omega), Int.bmod_eq_of_le (by omega) (by omega)]
  omega
theorem hi_raise (h : IV G S) (hG : G + 1 ≤ 40000) {w i j : Nat} (hw : w < S.ct 0) (hR : rt S w = false) (hi : i ≤ 999) (hj : j ≤ 999) (ho : S.ho w < 6) : eI < kSum (kRaise (S.vk (S.ho w)) w (nI i) (nI j)) := by
  obtain ⟨a, y1, y2, y3, y4, y5⟩ := iv_raise h hw hR hi hj
  have y := y1 (S.ho w) ho
  have e : (sVK S (va_up S.vk (S.ho w) (kRaise (S.vk (S.ho w)) w (nI i) (nI j)))).vk (S.ho w) = kRaise (S.vk (S.ho w)) w (nI i) (nI j) := up_eq _ _ _
  rw [e] at y
  exact gt_sum y y3 hG
theorem hi_ord (h : IV G S) (hG : G + 1 ≤ 40000) (h8 : S.ct 0 ≤ 8) (hho : ∀ w, w < S.ct 0 → S.ho w < 6) (ht : S.ct 1 < 2000) (hl : ∀ M ∈ S.lt, S.ct 1 < M.2.2.1) (hln : S.lt.length ≤ 8) (k : Int32) (g : Nat → Int32) : isE (aOrd S k g).1 = true ∨ eI < (aOrd S k g).1 := by
  unfold aOrd
  split
  · unfold aWriter
    split
    · exact Or.inl isE_I
    · split
      · exact Or.inl isE_I
      · split
        · exact Or.inl isE_L
        · exact Or.inr (eI_nI (by omega))
  · split
    · unfold aAdd
      split
      · exact Or.inl isE_I
      · rename_i w hx
        split
        · exact Or.inl isE_I
        · split
          · exact Or.inl isE_N
          · rename_i c1 c2
            obtain ⟨i, hi, -, e⟩ := nI_9 (Classical.not_not.mp c1)
            rw [e]
            exact Or.inr (hi_raise h hG (j := 0) (ix_lt hx) (by simpa using c2) hi (by omega) (hho w (ix_lt hx)))
    · split
      · unfold aTake
        split
        · exact Or.inl isE_I
        · rename_i w hx
          split
          · exact Or.inl isE_I
          · split
            · exact Or.inl isE_N
            · rename_i c1 c2
              obtain ⟨i, hi, -, e⟩ := nI_9 (Classical.not_not.mp c1)
              rw [e]
              exact Or.inr (hi_raise h hG (i := 0) (ix_lt hx) (by simpa using fun q => c2 (Or.inl q)) (by omega) hi (hho w (ix_lt hx)))
      · split
        · unfold aRetire
          split
          · split
            · exact Or.inl isE_I
            · split
              · exact Or.inl isE_N
              · exact Or.inr (eI_cn _ h8)
          · exact Or.inl isE_I
        · split
          · unfold aPost
            split
            · split
              · exact Or.inl isE_I
              · split
                · exact Or.inl isE_L
                · rename_i c1 c2
                  have cy : (1 : Int32) ≤ g 2 ∧ g 2 ≤ 99 := Classical.not_not.mp (fun z => c1 (Or.inr (Or.inr (Or.inr z))))
                  obtain ⟨q, q1, q2, e⟩ := nI_99 (n := 99) rfl cy
                  rw [e, nI_cl (by omega)]
                  exact Or.inr (eI_nI (by omega))
            · exact Or.inl isE_I
          · by_cases c1 : (1 : Int32) ≤ g 0 ∧ g 0 ≤ 99
            · obtain ⟨q, q1, q2, e⟩ := nI_99 (n := 99) rfl c1
              by_cases c2 : 1999 < S.ct 1 + q
              · left
                rw [e]
                unfold aTick
                rw [← e, if_neg (fun z => z c1), e, nI_cl (by omega), if_pos c2]
                exact isE_L
              · right
                rw [e, aTick_eq hl q2 q1 c2]
                have key : ∀ n, n ≤ 99 → ∃ j, (tkN n S).ct 2 = S.ct 2 + j ∧ j + (tkN n S).lt.length ≤ S.lt.length := by
                  intro n hn
                  rw [tkN_T hl]
                  have cnt : ∀ (D : List Lt) (X : St), ∃ j, (D.foldl recv X).ct 2 = X.ct 2 + j ∧ j ≤ D.length := by
                    intro D
                    induction D with
                    | nil => intro X; exact ⟨0, rfl, Nat.le_refl _⟩
                    | cons M D ih =>
                      intro X
                      obtain ⟨j, j1, j2⟩ := ih (recv X M)
                      rw [List.foldl_cons, j1, List.length_cons]
                      unfold recv
                      by_cases cm : M.2.2.2.1 = true
                      · rw [if_pos cm]
                        exact ⟨j, by show va_up X.ct 3 (X.ct 3 + 1) 2 + j = _; rw [up_ne X.ct (i := 3) (j := 2) (by decide)], by omega⟩
                      · rw [if_neg cm]
                        exact ⟨j + 1, by show va_up X.ct 2 (X.ct 2 + 1) 2 + j = _; rw [up_eq]; omega, by omega⟩
                  obtain ⟨j, j1, j2⟩ := cnt (due (S.ct 1 + n) S.lt) S
                  refine ⟨j, ?_, ?_⟩
                  · show va_up ((due (S.ct 1 + n) S.lt).foldl recv S).ct 1 (S.ct 1 + n) 2 = _
                    rw [up_ne _ (by decide), j1]
                  · show j + (S.lt.drop (due (S.ct 1 + n) S.lt).length).length ≤ _
                    rw [List.length_drop]
                    have : (due (S.ct 1 + n) S.lt).length ≤ S.lt.length := (List.takeWhile_sublist _).length_le
                    omega
                obtain ⟨j, j1, j2⟩ := key q q1
                show eI < nI ((tkN q S).ct 2) - nI (S.ct 2)
                rw [j1, ← nI_add, Int32.add_comm, Int32.add_sub_cancel]
                exact eI_nI (by omega)
            · left
              unfold aTick
              rw [if_pos c1]
              exact isE_I
theorem iv_ord (h : IV G S) (k : Int32) (g : Nat → Int32) : IV (G + 1) (aOrd S k g).2 := by
  unfold aOrd
  split
  · exact iv_writer h _
  · split
    · exact iv_add h _ _
    · split
      · exact iv_take h _ _
      · split
        · exact iv_retire h _ _
        · split
          · exact iv_post h _ _ _
          · exact iv_tick h _
end ORD
section MCL
variable {h h' : AHp} {F s : Nat → Int32} {A : Ar} {S : St} {c : Nat → Int32} {n p G m : Nat}
theorem m_calls (hM : HM h F s A) (hX : MXG G s S) (hi : IV G S) (hG : G + 1 ≤ 40000) (hm : m ≤ 4) (hF : F 4 = nI m) : Call 149 [.ref 423] h (MO G m F s A (aOrd S (F 13) A.2.2.2.2) h) := by
  have l0 : ldi h 429 0 = some (A.2.2.2.2 0) := hM.lt (i := 0) (by decide)
  have l1 : ldi h 429 1 = some (A.2.2.2.2 1) := hM.lt (i := 1) (by decide)
  have l2 : ldi h 429 2 = some (A.2.2.2.2 2) := hM.lt (i := 2) (by decide)
  have tail : ∀ pc r, pc = 66 ∨ pc = 83 ∨ pc = 100 ∨ pc = 117 ∨ pc = 140 ∨ pc = 151 → ∀ rv h1, MO G m F s A r h rv h1 → Ev none 149 pc [.ref 423] (rv.toList ++ []) h1 (MO G m F s A r h) := by
    intro pc r hpc rv h1 q
    have q0 := q
    obtain ⟨rfl, q2⟩ := q
    rcases hpc with rfl | rfl | rfl | rfl | rfl | rfl <;>
    simp only [Option.toList_some, List.cons_append, List.nil_append, s149_66, s149_83, s149_100, s149_117, s149_140, s149_151] <;> exact q0
  simp only [s149_0, s149_1, s149_e, hM.f, oB_some]
  obtain ⟨k, hk⟩ : ∃ k, k = F 13 := ⟨_, rfl⟩
  obtain ⟨g, hg⟩ : ∃ g, g = A.2.2.2.2 := ⟨_, rfl⟩
  rw [← hg] at l0 l1 l2
  rw [← hk, ← hg]
  by_cases c110 : k = 110
  · subst c110
    have ea : aOrd S 110 g = aWriter S (g 0) := by unfold aOrd; rw [if_pos rfl]
    rw [ea]
    simp only [s149_4_110, s149_56, s149_57, s149_58, s149_61, s149_62, s149_63, hM.f, oB_some, l0, l1, l2]
    exact Call.mono (m_writer hM hX hi hm hF (g 0)) (tail 66 _ (by decide))
  by_cases c97 : k = 97
  · subst c97
    have ea : aOrd S 97 g = aAdd S (g 0) (g 1) := by unfold aOrd; rw [if_neg (by decide), if_pos rfl]
    rw [ea]
    simp only [s149_4_97, s149_67, s149_68, s149_69, s149_72, s149_73, s149_74, s149_75, s149_78, s149_79, s149_80, hM.f, oB_some, l0, l1, l2]
    exact Call.mono (m_add hM hX hi hG hm hF (g 0) (g 1)) (tail 83 _ (by decide))
  by_cases c116 : k = 116
  · subst c116
    have ea : aOrd S 116 g = aTake S (g 0) (g 1) := by unfold aOrd; rw [if_neg (by decide), if_neg (by decide), if_pos rfl]
    rw [ea]
    simp only [s149_4_116, s149_84, s149_85, s149_86, s149_89, s149_90, s149_91, s149_92, s149_95, s149_96, s149_97, hM.f, oB_some, l0, l1, l2]
    exact Call.mono (m_take hM hX hi hG hm hF (g 0) (g 1)) (tail 100 _ (by decide))
  by_cases c114 : k = 114
  · subst c114
    have ea : aOrd S 114 g = aRetire S (g 0) (g 1) := by unfold aOrd; rw [if_neg (by decide), if_neg (by decide), if_neg (by decide), if_pos rfl]
    rw [ea]
    simp only [s149_4_114, s149_101, s149_102, s149_103, s149_106, s149_107, s149_108, s149_109, s149_112, s149_113, s149_114, hM.f, oB_some, l0, l1, l2]
    exact Call.mono (m_retire hM hX hm hF (g 0) (g 1)) (tail 117 _ (by decide))
  by_cases c112 : k = 112
  · subst c112
    have ea : aOrd S 112 g = aPost S (g 0) (g 1) (g 2) := by unfold aOrd; rw [if_neg (by decide), if_neg (by decide), if_neg (by decide), if_neg (by decide), if_pos rfl]
    rw [ea]
    simp only [s149_4_112, s149_118, s149_119, s149_120, s149_123, s149_124, s149_125, s149_126, s149_129, s149_130, s149_131, s149_132, s149_135, s149_136, s149_137, hM.f, oB_some, l0, l1, l2]
    exact Call.mono (m_post hM hX (by omega) hm hF (g 0) (g 1) (g 2)) (tail 140 _ (by decide))
  have ea : aOrd S k g = aTick S (g 0) := by unfold aOrd; rw [if_neg c110, if_neg c97, if_neg c116, if_neg c114, if_neg c112]
  rw [ea]
  simp only [s149_4_d c97 c110 c112 c114 c116, s149_141, s149_142, s149_143, s149_146, s149_147, s149_148, hM.f, oB_some, l0]
  exact Call.mono (m_tick hM hX hm hF (g 0)) (tail 151 _ (by decide))
end MCL
