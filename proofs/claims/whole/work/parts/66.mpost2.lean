/-! The model's changes: a letter is posted. -/
section MP2
variable {h h' : AHp} {F s : Nat → Int32} {A : Ar} {S : St} {G m : Nat}
theorem m_post (hM : HM h F s A) (hX : MXG G s S) (hG : G ≤ 40000) (hm : m ≤ 4) (hF : F 4 = nI m) (x z y : Int32) : Call 118 [.ref 423, .int x, .int z, .int y] h (MO G m F s A (aPost S x z y) h) := by
  obtain ⟨td, came, posted, P, hX, hc1, hp1, ht⟩ := hX
  have hL := hX.1
  have bad : aPost S x z y = (eI, S) → ∀ v4 v5, Ev none 118 31 [.ref 423, .int x, .int z, .int y, v4, v5] [] h (MO G m F s A (aPost S x z y) h) := by
    intro e v4 v5
    rw [e]
    simp only [s118_31, s118_33]
    exact MO.err (r := (eI, S)) hM isE_I
  simp only [s118_0, s118_1, s118_2, s118_5, s118_e, hM.f, m_isView hM hL x, Option.toList_some, List.cons_append, List.nil_append]
  rcases ix_cases x 6 with hx | ⟨v, hv6, rfl⟩
  · have e : hv S x = false := by unfold hv; rw [hx]
    rw [e, if_neg (show ¬ false = true by decide), if_pos rfl]
    exact bad (by unfold aPost; rw [hx]) _ _
  rw [hv_nI hv6]
  by_cases c : S.th v = true
  · rw [if_pos c, if_neg (show ¬ (1 : Int32) = 0 by decide)]
    simp only [s118_8, s118_9, s118_10, s118_13, hM.f, m_isView hM hL z, Option.toList_some, List.cons_append, List.nil_append]
    rcases ix_cases z 6 with hz | ⟨u, hu6, rfl⟩
    · have e : hv S z = false := by unfold hv; rw [hz]
      rw [e, if_neg (show ¬ false = true by decide), if_pos rfl]
      exact bad (by unfold aPost; rw [hz, ix_nI hv6 (by decide)]) _ _
    rw [hv_nI hu6]
    have e0 : aPost S (nI v) (nI u) y = if ¬ S.th v = true ∨ ¬ S.th u = true ∨ v = u ∨ ¬ (1 ≤ y ∧ y ≤ 99) then (eI, S) else if ¬ S.lt.length < 8 then (eL, S) else
      (nI (S.ct 1 + y.toNatClampNeg), sLT S (insR (v, u, S.ct 1 + y.toNatClampNeg, false, S.vk v) S.lt)) := by
      unfold aPost; rw [ix_nI hv6 (by decide), ix_nI hu6 (by decide)]
    by_cases c2 : S.th u = true
    · rw [if_pos c2, if_neg (show ¬ (1 : Int32) = 0 by decide)]
      simp only [s118_16, s118_17, s118_18, nI_eq (show v < 2147483648 by omega) (show u < 2147483648 by omega)]
      by_cases c3 : v = u
      · rw [if_pos c3]
        exact bad (by rw [e0, if_pos (Or.inr (Or.inr (Or.inl c3)))]) _ _
      rw [if_neg c3]
      simp only [s118_21, s118_22, s118_23, s118_25, s118_28, m_in, Option.toList_some, List.cons_append, List.nil_append]
      by_cases cy : (1 : Int32) ≤ y ∧ y ≤ 99
      · rw [if_pos cy, if_pos (show ¬ (1 : Int32) = 0 by decide)]
        rw [if_neg (fun q => q.elim (fun q => q c) (fun q => q.elim (fun q => q c2) (fun q => q.elim c3 (fun q => q cy))))] at e0
        obtain ⟨q, q1, q2, rfl⟩ := nI_99 (n := 99) rfl cy
        rw [nI_cl (by omega)] at e0
        have hlt := hX.2.2.2.2.2.2.2.2.2.2
        have hlen : S.lt.length = P.length := by rw [hlt, srt_len, List.length_map]
        rw [hlen] at e0
        have h8 := hX.2.2.2.2.2.2.1
        have l1 : ldi h 424 1 = some (nI P.length) := by rw [← hL.2.1]; exact hM.ls (i := 1) (by decide)
        simp only [s118_34, s118_35, s118_38, s118_39, s118_40, s118_42, s118_44, s118_46, hM.f, oB_some, l1, (show (8 : Int32) = nI 8 from rfl), nI_eq (show P.length < 2147483648 by omega) (show 8 < 2147483648 by decide)]
        by_cases c8 : P.length = 8
        · rw [if_neg (fun q => q c8)]
          rw [if_pos (by omega)] at e0
          rw [e0]
          simp only [s118_49, s118_51]
          exact MO.err (r := (eL, S)) hM isE_L
        · rw [if_pos c8]
          rw [if_neg (by omega)] at e0
          rw [e0]
          obtain ⟨T, hT⟩ : ∃ T, T = sLT S (insR (v, u, S.ct 1 + q, false, S.vk v) S.lt) := ⟨_, rfl⟩
          rw [← hT]
          obtain ⟨k, hk⟩ : ∃ k, k = P.length := ⟨_, rfl⟩
          rw [← hk] at l1 c8 h8 ⊢
          have hk8 : k < 8 := by omega
          obtain ⟨a, ha⟩ : ∃ a, a = 180 + 30 * k := ⟨_, rfl⟩
          have ha2 : a + 30 ≤ 420 := by omega
          obtain ⟨x1, x2, x3, x4, x5, x6, x7, x8, x9, x10, x11⟩ := id hX
          obtain ⟨z0, zn, zt, z3, z4, z5, z6, z7, z8⟩ := id x1
          simp only [s118_52, s118_53, hM.f]
          refine Call.mono (m_changes hM hm hF) ?_
          rintro rv h1 ⟨rfl, ⟨F1, A1, k1, cg⟩, r1⟩
          obtain ⟨h2, e2, k2, r2⟩ := k1.ss (show a < 420 by omega) (nI v)
          obtain ⟨h3, e3, k3, r3⟩ := k2.ss (show a + 1 < 420 by omega) (nI u)
          obtain ⟨h4, e4, k4, r4⟩ := k3.ss (show a + 2 < 420 by omega) (nI (td u))
          obtain ⟨h5, e5, k5, r5⟩ := k4.ss (show a + 3 < 420 by omega) (nI (S.ct 1 + q))
          obtain ⟨h6, e6, k6, r6⟩ := k5.ss (show a + 4 < 420 by omega) (nI posted)
          have ltd : ldi h3 424 (nI (8 + 26 * u)) = some (nI (td u)) := by rw [k3.ls (by omega), u_ne (by omega), u_ne (by omega), (z6 u hu6).1]
          have lti : ldi h4 424 2 = some (nI (S.ct 1)) := by
            have := k4.ls (i := 2) (by decide)
            rw [u_ne (by omega), u_ne (by omega), u_ne (by omega), zt] at this; exact this
          have lpo : ldi h5 424 7 = some (nI posted) := by
            have := k5.ls (i := 7) (by decide)
            rw [u_ne (by omega), u_ne (by omega), u_ne (by omega), u_ne (by omega), x3] at this; exact this
          have lti' : ldi h4 424 (nI 2) = some (nI (S.ct 1)) := lti
          obtain ⟨s6, hs6⟩ : ∃ s6, s6 = upd (upd (upd (upd (upd s a (nI v)) (a + 1) (nI u)) (a + 2) (nI (td u))) (a + 3) (nI (S.ct 1 + q))) (a + 4) (nI posted) := ⟨_, rfl⟩
          have lo6 : ∀ i, (i < a ∨ a + 5 ≤ i) → s6 i = s i := fun i hi => by
            rw [hs6, u_ne (by omega), u_ne (by omega), u_ne (by omega), u_ne (by omega), u_ne (by omega)]
          have v6 : s6 a = nI v ∧ s6 (a + 1) = nI u ∧ s6 (a + 2) = nI (td u) ∧ s6 (a + 3) = nI (S.ct 1 + q) ∧ s6 (a + 4) = nI posted := by
            rw [hs6]
            refine ⟨?_, ?_, ?_, ?_, ?_⟩
            · rw [u_ne (by omega), u_ne (by omega), u_ne (by omega), u_ne (by omega), u_eq]
            · rw [u_ne (by omega), u_ne (by omega), u_ne (by omega), u_eq]
            · rw [u_ne (by omega), u_ne (by omega), u_eq]
            · rw [u_ne (by omega), u_eq]
            · rw [u_eq]
          rw [← hs6] at k6
          simp only [Option.toList_none, List.nil_append, s118_56, s118_59, s118_61, s118_63, s118_64, s118_65, s118_67, s118_68, k1.f, (show (180 : Int32) = nI 180 from rfl), (show (30 : Int32) = nI 30 from rfl), nI_mul, nI_add, ← ha]
          simp only [s118_71, s118_73, s118_74, s118_75, s118_76, s118_77, s118_78, s118_81, s118_83, s118_84, s118_85, s118_86, s118_87, s118_88, s118_91, s118_93, s118_94, s118_95, s118_96, s118_99, s118_101, s118_103, s118_104, s118_105, s118_106, s118_107, s118_108, s118_109, s118_110, s118_111, s118_114, s118_116, s118_117, s118_118, s118_119, s118_122, s118_123, s118_124, s118_125, s118_126, s118_127, s118_128, s118_131, s118_133, s118_134, s118_135, s118_136, s118_139, s118_141, s118_142, k1.f, k2.f, k3.f, k4.f, k5.f, oB_some, Int32.add_zero, e2, (show (1 : Int32) = nI 1 from rfl), (show (2 : Int32) = nI 2 from rfl), (show (3 : Int32) = nI 3 from rfl), (show (4 : Int32) = nI 4 from rfl), (show (8 : Int32) = nI 8 from rfl), (show (26 : Int32) = nI 26 from rfl), nI_mul, nI_add, e3, ltd, e4, lti', e5, lpo, e6]
          have hkv : MK s6 (9 + 26 * v) (S.vk v) := (z6 v hv6).2.2.2.eq (fun i a1 a2 => lo6 i (by omega))
          simp only [s118_143, s118_144, s118_145, s118_148, s118_150, s118_153, k6.f, m_knows, m_knew, Option.toList_some, List.cons_append, List.nil_append]
          refine Call.mono (m_lays k6 hkv (c := 185 + 30 * k) (by omega) (by omega) (by omega)) ?_
          rintro rv h7 ⟨rfl, ⟨s7, k7, m7, e7⟩, r7⟩
          obtain ⟨h8', e8, k8, r8⟩ := k7.ss (show 1 < 420 by decide) (nI (k + 1))
          obtain ⟨h9, e9, k9, r9⟩ := k8.ss (show 7 < 420 by decide) (nI (posted + 1))
          have l71 : ldi h7 424 1 = some (nI k) := by
            have := k7.ls (i := 1) (by decide)
            rw [e7 _ (by omega), lo6 _ (by omega), zn, ← hk] at this; exact this
          have l87 : ldi h8' 424 7 = some (nI posted) := by
            have := k8.ls (i := 7) (by decide)
            rw [u_ne (by omega), e7 _ (by omega), lo6 _ (by omega), x3] at this; exact this
          have e8' : sti h7 424 1 (nI (k + 1)) = some h8' := e8
          have e9' : sti h8' 424 7 (nI (posted + 1)) = some h9 := e9
          obtain ⟨s9, hs9⟩ : ∃ s9, s9 = upd (upd s7 1 (nI (k + 1))) 7 (nI (posted + 1)) := ⟨_, rfl⟩
          rw [← hs9] at k9
          have lo9 : ∀ i, i ≠ 1 → i ≠ 7 → s9 i = s7 i := fun i h1 h2 => by rw [hs9, u_ne h2, u_ne h1]
          have l93 : ldi h9 424 (nI (a + 3)) = some (nI (S.ct 1 + q)) := by
            rw [k9.ls (by omega), lo9 _ (by omega) (by omega), e7 _ (by omega), v6.2.2.2.1]
          have l93' : ldi h9 424 (nI a + 3) = some (nI (S.ct 1 + q)) := by
            rw [show nI a + 3 = nI (a + 3) from nI_add a 3]; exact l93
          simp only [Option.toList_none, List.nil_append, s118_156, s118_157, s118_160, s118_161, s118_162, s118_163, s118_164, s118_165, s118_166, s118_167, s118_170, s118_172, s118_173, s118_174, s118_175, s118_176, s118_177, s118_178, s118_181, s118_183, s118_184, s118_185, s118_186, k7.f, k8.f, k9.f, oB_some, l71, nI_1, e8', l87, e9', l93']
          have lo : ∀ i, i ≠ 1 → i ≠ 7 → (i < a ∨ a + 30 ≤ i) → s9 i = s i := fun i h1 h2 h3 => by
            rw [lo9 i h1 h2, e7 i (by omega), lo6 i (by omega)]
          have hPl : (P ++ [((td u, posted, (v, u, S.ct 1 + q, false, S.vk v)) : Pt)]).length = k + 1 := by rw [List.length_append, ← hk]; rfl
          have htd : 0 < td u := by
            have := (z6 u hu6).2.2.1
            rw [c2] at this
            exact of_decide_eq_true this.symm
          refine MO.ok (G := G) (r := (nI (S.ct 1 + q), T)) k9 (isE_nI (by omega)) ((((((((r1.tr r2).tr r3).tr r4).tr r5).tr r6).tr r7).tr r8).tr r9) cg ⟨td, came, posted + 1, P ++ [(td u, posted, (v, u, S.ct 1 + q, false, S.vk v))], ?_, by omega, by omega, by rw [hT]; exact ht⟩
          rw [hT]
          refine ⟨?_, by rw [lo _ (by omega) (by omega) (by omega)]; exact x2, by rw [hs9, u_eq], x4, by omega, x6, by rw [hPl]; omega, fun j p hp => ?_, fun p hp => ?_, ?_, ?_⟩
          · rw [hPl]
            refine ⟨by rw [lo _ (by omega) (by omega) (by omega)]; exact z0, by rw [hs9, u_ne (by omega), u_eq], by rw [lo _ (by omega) (by omega) (by omega)]; exact zt, by rw [lo _ (by omega) (by omega) (by omega)]; exact z3, by rw [lo _ (by omega) (by omega) (by omega)]; exact z4, by rw [lo _ (by omega) (by omega) (by omega)]; exact z5, fun w hw => ?_, fun w hw => ?_, z8⟩
            · obtain ⟨b1, b2, b3, b4⟩ := z6 w hw
              exact ⟨by rw [lo _ (by omega) (by omega) (by omega)]; exact b1, b2, b3, b4.eq (fun i a1 a2 => lo i (by omega) (by omega) (by omega))⟩
            · obtain ⟨b1, b2, b3⟩ := z7 w hw
              have : w < 8 := Nat.lt_of_lt_of_le hw z8
              exact ⟨by rw [lo _ (by omega) (by omega) (by omega)]; exact b1, by rw [lo _ (by omega) (by omega) (by omega)]; exact b2, b3⟩
          · have hj : j < k + 1 := by rw [← hPl]; exact (List.getElem?_eq_some_iff.mp hp).1
            by_cases ej : j = k
            · subst ej
              rw [List.getElem?_append_right (by omega), ← hk, Nat.sub_self] at hp
              cases hp
              refine ⟨?_, ?_, ?_, ?_, ?_, ?_⟩
              · rw [← ha, lo9 _ (by omega) (by omega), e7 _ (by omega)]; exact v6.1
              · rw [show 181 + 30 * j = a + 1 by omega, lo9 _ (by omega) (by omega), e7 _ (by omega)]; exact v6.2.1
              · rw [show 182 + 30 * j = a + 2 by omega, lo9 _ (by omega) (by omega), e7 _ (by omega)]; exact v6.2.2.1
              · rw [show 183 + 30 * j = a + 3 by omega, lo9 _ (by omega) (by omega), e7 _ (by omega)]; exact v6.2.2.2.1
              · rw [show 184 + 30 * j = a + 4 by omega, lo9 _ (by omega) (by omega), e7 _ (by omega)]; exact v6.2.2.2.2
              · exact m7.eq (fun i a1 a2 => lo9 i (by omega) (by omega))
            · rw [List.getElem?_append_left (by omega)] at hp
              obtain ⟨b0, b1, b2, b3, b4, b5⟩ := x8 j p hp
              exact ⟨by rw [lo _ (by omega) (by omega) (by omega)]; exact b0, by rw [lo _ (by omega) (by omega) (by omega)]; exact b1, by rw [lo _ (by omega) (by omega) (by omega)]; exact b2, by rw [lo _ (by omega) (by omega) (by omega)]; exact b3, by rw [lo _ (by omega) (by omega) (by omega)]; exact b4, b5.eq (fun i a1 a2 => lo i (by omega) (by omega) (by omega))⟩
          · rcases List.mem_append.mp hp with w | w
            · obtain ⟨b1, b2, b3, b4, b5, b6, b7, b8⟩ := x9 p w
              exact ⟨b1, b2, b3, b4, b5, b6, b7, by omega⟩
            · rw [List.mem_singleton.mp w]
              refine ⟨hv6, hu6, htd, x6 u hu6, ?_, ?_, ?_, Nat.lt_succ_self _⟩
              · show false = decide (¬ td u = td u)
                simp
              · show S.ct 1 < S.ct 1 + q
                omega
              · show S.ct 1 + q ≤ S.ct 1 + 99
                omega
          · rw [List.pairwise_append]
            refine ⟨x10, List.pairwise_singleton _ _, fun p hp p' hp' => ?_⟩
            rw [List.mem_singleton.mp hp']
            exact (x9 p hp).2.2.2.2.2.2.2
          · show insR (v, u, S.ct 1 + q, false, S.vk v) S.lt = _
            rw [List.map_append, List.map_singleton, srt_snoc, x11]
      · rw [if_neg cy, if_neg (show ¬ ¬ (0 : Int32) = 0 by decide)]
        exact bad (by rw [e0, if_pos (Or.inr (Or.inr (Or.inr cy)))]) _ _
    · rw [if_neg c2, if_pos rfl]
      exact bad (by rw [e0, if_pos (Or.inr (Or.inl c2))]) _ _
  · rw [if_neg c, if_pos rfl]
    refine bad ?_ _ _
    unfold aPost
    rw [ix_nI hv6 (by decide)]
    cases ix z 6 with
    | none => rfl
    | some w => exact if_pos (Or.inl c)
end MP2
