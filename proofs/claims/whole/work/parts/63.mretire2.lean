/-! The model's changes: retiring, merging. -/
section MRR
variable {h h' : AHp} {F s : Nat → Int32} {A : Ar} {S : St} {G m : Nat}
theorem m_retire (hM : HM h F s A) (hX : MXG G s S) (hm : m ≤ 4) (hF : F 4 = nI m) (x z : Int32) : Call 110 [.ref 423, .int x, .int z] h (MO G m F s A (aRetire S x z) h) := by
  obtain ⟨td, came, posted, P, hX, hc1, hp1, ht⟩ := hX
  have hL := hX.1
  have h8 := hL.2.2.2.2.2.2.2.2
  have bad : aRetire S x z = (eI, S) → ∀ v3 v4, Ev none 110 21 [.ref 423, .int x, .int z, v3, v4] [] h (MO G m F s A (aRetire S x z) h) := by
    intro e v3 v4
    rw [e]
    simp only [s110_21, s110_23]
    exact MO.err (r := (eI, S)) hM isE_I
  have bad2 : aRetire S x z = (eN, S) → ∀ v3 v4, Ev none 110 55 [.ref 423, .int x, .int z, v3, v4] [] h (MO G m F s A (aRetire S x z) h) := by
    intro e v3 v4
    rw [e]
    simp only [s110_55, s110_57]
    exact MO.err (r := (eN, S)) hM isE_N
  simp only [s110_0, s110_1, s110_2, s110_5, s110_e, hM.f, m_isWriter hM hL x, Option.toList_some, List.cons_append, List.nil_append]
  rcases ix_cases x (S.ct 0) with hx | ⟨w, hw, rfl⟩
  · have e : hw S x = false := by unfold hw; rw [hx]; rfl
    rw [e, if_neg (show ¬ false = true by decide), if_pos rfl]
    exact bad (by unfold aRetire; rw [hx]) _ _
  rw [hw_yes h8 hw, if_pos (show true = true from rfl), if_neg (show ¬ (1 : Int32) = 0 by decide)]
  simp only [s110_8, s110_9, s110_10, s110_13, hM.f, m_isWriter hM hL z, Option.toList_some, List.cons_append, List.nil_append]
  rcases ix_cases z (S.ct 0) with hz | ⟨e, he, rfl⟩
  · rw [hw_no hz, if_neg (show ¬ false = true by decide), if_pos rfl]
    exact bad (by unfold aRetire; rw [hz, ix_nI hw (by omega)]) _ _
  rw [hw_yes h8 he, if_pos (show true = true from rfl), if_neg (show ¬ (1 : Int32) = 0 by decide)]
  have e0 : aRetire S (nI w) (nI e) = if w = e then (eI, S) else if rt S w = true ∨ rt S e = true ∨ ¬ S.ho w = S.ho e then (eN, S) else
    (cntI (fun u => !rt (sHE S (va_up S.he w (nI e))) u) (S.ct 0), sVK (sHE S (va_up S.he w (nI e))) (va_up S.vk (S.ho w) (kBeq (S.vk (S.ho w)) w e))) := by
    unfold aRetire; rw [ix_nI hw (by omega), ix_nI he (by omega)]
  have hw8 : w < 8 := by omega
  have he8 : e < 8 := by omega
  simp only [s110_16, s110_17, s110_18, nI_eq (show w < 2147483648 by omega) (show e < 2147483648 by omega)]
  by_cases cwe : w = e
  · rw [if_neg (fun q => q cwe)]
    exact bad (by rw [e0, if_pos cwe]) _ _
  rw [if_pos cwe]
  rw [if_neg cwe] at e0
  simp only [s110_24, s110_25, s110_26, s110_29, hM.f, m_isRetired hM hL hw, Option.toList_some, List.cons_append, List.nil_append]
  by_cases cr : rt S w = true
  · rw [if_pos cr, if_pos (show ¬ (1 : Int32) = 0 by decide)]
    exact bad2 (by rw [e0, if_pos (Or.inl cr)]) _ _
  rw [if_neg cr, if_neg (show ¬ ¬ (0 : Int32) = 0 by decide)]
  simp only [s110_32, s110_33, s110_34, s110_37, hM.f, m_isRetired hM hL he, Option.toList_some, List.cons_append, List.nil_append]
  by_cases cr2 : rt S e = true
  · rw [if_pos cr2, if_pos (show ¬ (1 : Int32) = 0 by decide)]
    exact bad2 (by rw [e0, if_pos (Or.inr (Or.inl cr2))]) _ _
  rw [if_neg cr2, if_neg (show ¬ ¬ (0 : Int32) = 0 by decide)]
  have ho6 := (hL.2.2.2.2.2.2.2.1 w hw).2.2.1
  have hoe6 := (hL.2.2.2.2.2.2.2.1 e he).2.2.1
  simp only [s110_40, s110_41, s110_42, s110_43, s110_46, s110_47, s110_48, s110_49, s110_52, hM.f, m_home hM hL hw, m_home hM hL he, nI_eq (show S.ho w < 2147483648 by omega) (show S.ho e < 2147483648 by omega), Option.toList_some, List.cons_append, List.nil_append]
  by_cases cho : S.ho w = S.ho e
  · rw [if_pos cho]
    rw [if_neg (fun q => q.elim cr (fun q => q.elim cr2 (fun q => q cho)))] at e0
    rw [e0]
    simp only [s110_58, s110_59, hM.f]
    refine Call.mono (m_changes hM hm hF) ?_
    rintro rv h1 ⟨rfl, ⟨F1, A1, k1, cg⟩, r1⟩
    obtain ⟨T, hT⟩ : ∃ T, T = sVK (sHE S (va_up S.he w (nI e))) (va_up S.vk (S.ho w) (kBeq (S.vk (S.ho w)) w e)) := ⟨_, rfl⟩
    obtain ⟨c, hc⟩ : ∃ c, c = cntI (fun u => !rt (sHE S (va_up S.he w (nI e))) u) (S.ct 0) := ⟨_, rfl⟩
    obtain ⟨v, hv⟩ : ∃ v, v = S.ho w := ⟨_, rfl⟩
    obtain ⟨K, hK⟩ : ∃ K, K = S.vk v := ⟨_, rfl⟩
    have hk := (hL.2.2.2.2.2.2.1 _ ho6).2.2.2
    rw [← hv, ← hK] at hk
    obtain ⟨a, ha⟩ : ∃ a, a = 9 + 26 * v + 1 + 3 * w := ⟨_, rfl⟩
    obtain ⟨b, hb⟩ : ∃ b, b = 9 + 26 * v + 1 + 3 * e := ⟨_, rfl⟩
    rw [← hv] at ho6
    obtain ⟨w1, w2, w3⟩ := hk.2 w hw8
    obtain ⟨d1, d2, d3⟩ := hk.2 e he8
    rw [← ha] at w1 w2 w3
    rw [← hb] at d1 d2 d3
    have dis : a + 3 ≤ b ∨ b + 3 ≤ a := by omega
    have ha420 : a + 2 < 420 := by omega
    have hb420 : b + 2 < 420 := by omega
    obtain ⟨h2, e2, k2, r2⟩ := k1.ss (show b < 420 by omega) (K.1 e + 1)
    obtain ⟨h3, e3, k3, r3⟩ := k2.ss (show b + 1 < 420 by omega) (K.2.1 e + K.2.1 w)
    obtain ⟨h4, e4, k4, r4⟩ := k3.ss (show b + 2 < 420 by omega) (K.2.2.1 e + K.2.2.1 w)
    have l1 : ldi h1 424 (nI b) = some (K.1 e) := by rw [← d1]; exact k1.ls (by omega)
    have l2 : ldi h2 424 (nI (b + 1)) = some (K.2.1 e) := by rw [k2.ls (by omega), u_ne (by omega), d2]
    have l2' : ldi h2 424 (nI (a + 1)) = some (K.2.1 w) := by rw [k2.ls (by omega), u_ne (by omega), w2]
    have l3 : ldi h3 424 (nI (b + 2)) = some (K.2.2.1 e) := by rw [k3.ls (by omega), u_ne (by omega), u_ne (by omega), d3]
    have l3' : ldi h3 424 (nI (a + 2)) = some (K.2.2.1 w) := by rw [k3.ls (by omega), u_ne (by omega), u_ne (by omega), w3]
    have e2' : sti h1 424 (nI b) (K.1 e + nI 1) = some h2 := e2
    have opw : ∀ post, Call 106 [.ref 423, .int (nI w)] h1 post = post (some (.int (nI a))) h1 := by rw [ha, hv]; exact m_ownPart k1 hL hw
    have ope : ∀ post, Call 106 [.ref 423, .int (nI e)] h1 post = post (some (.int (nI b))) h1 := by rw [hb, hv, cho]; exact m_ownPart k1 hL he
    rw [← hT, ← hc]
    simp only [Option.toList_none, List.nil_append, s110_62, s110_63, s110_64, s110_67, s110_68, s110_69, s110_70, s110_73, s110_75, s110_76, s110_79, s110_81, s110_82, s110_83, s110_84, s110_85, s110_86, s110_87, s110_90, s110_92, s110_93, s110_94, s110_95, s110_96, s110_97, s110_100, s110_101, s110_102, s110_103, s110_104, s110_105, s110_106, s110_107, s110_110, s110_112, s110_113, s110_114, s110_115, s110_116, s110_117, s110_120, s110_121, s110_122, s110_123, s110_124, s110_125, s110_126, s110_127, s110_128, k1.f, k2.f, k3.f, k4.f, oB_some, opw, ope, l1, e2', (show (1 : Int32) = nI 1 from rfl), (show (2 : Int32) = nI 2 from rfl), nI_add, l2, l2', e3, l3, l3', e4, Option.toList_some, List.cons_append]
    refine Call.mono (m_forgets k4 (show a + 2 < 420 by omega)) ?_
    rintro rv h5 ⟨rfl, k5, r5⟩
    have lo5 : ∀ i, (i < b ∨ b + 3 ≤ i) → (i < a ∨ a + 3 ≤ i) → upd (upd (upd (upd (upd (upd s b (K.1 e + 1)) (b + 1) (K.2.1 e + K.2.1 w)) (b + 2) (K.2.2.1 e + K.2.2.1 w)) a 0) (a + 1) 0) (a + 2) 0 i = s i := fun i q1 q2 => by
      rw [u_ne (by omega), u_ne (by omega), u_ne (by omega), u_ne (by omega), u_ne (by omega), u_ne (by omega)]
    obtain ⟨s5, hs5⟩ : ∃ s5, s5 = upd (upd (upd (upd (upd (upd s b (K.1 e + 1)) (b + 1) (K.2.1 e + K.2.1 w)) (b + 2) (K.2.2.1 e + K.2.2.1 w)) a 0) (a + 1) 0) (a + 2) 0 := ⟨_, rfl⟩
    have vb : s5 b = K.1 e + 1 ∧ s5 (b + 1) = K.2.1 e + K.2.1 w ∧ s5 (b + 2) = K.2.2.1 e + K.2.2.1 w ∧ s5 a = 0 ∧ s5 (a + 1) = 0 ∧ s5 (a + 2) = 0 := by
      rw [hs5]
      refine ⟨?_, ?_, ?_, ?_, ?_, ?_⟩
      · rw [u_ne (by omega), u_ne (by omega), u_ne (by omega), u_ne (by omega), u_ne (by omega), u_eq]
      · rw [u_ne (by omega), u_ne (by omega), u_ne (by omega), u_ne (by omega), u_eq]
      · rw [u_ne (by omega), u_ne (by omega), u_ne (by omega), u_eq]
      · rw [u_ne (by omega), u_ne (by omega), u_eq]
      · rw [u_ne (by omega), u_eq]
      · rw [u_eq]
    rw [← hs5] at k5 lo5
    have hL5 : ML s5 (sVK S (va_up S.vk v (kForget (kRaise K e (K.2.1 w) (K.2.2.1 w)) w))) P.length td := by
      refine hL.setK ho6 ⟨by rw [lo5 _ (by omega) (by omega)]; exact hk.1, fun y hy => ?_⟩ (fun i hi => lo5 i (by omega) (by omega))
      obtain ⟨p1, p2, p3⟩ := hk.2 y hy
      show _ = upd (upd K.1 e (K.1 e + 1)) w 0 y ∧ _ = upd (upd K.2.1 e (K.2.1 e + K.2.1 w)) w 0 y ∧ _ = upd (upd K.2.2.1 e (K.2.2.1 e + K.2.2.1 w)) w 0 y
      by_cases q1 : y = w
      · subst q1
        rw [u_eq, u_eq, u_eq, ← ha]
        exact ⟨vb.2.2.2.1, vb.2.2.2.2.1, vb.2.2.2.2.2⟩
      · rw [u_ne q1, u_ne q1, u_ne q1]
        by_cases q2 : y = e
        · subst q2
          rw [u_eq, u_eq, u_eq, ← hb]
          exact ⟨vb.1, vb.2.1, vb.2.2.1⟩
        · rw [u_ne q2, u_ne q2, u_ne q2, lo5 _ (by omega) (by omega), lo5 _ (by omega) (by omega), lo5 _ (by omega) (by omega)]
          exact ⟨p1, p2, p3⟩
    have ho5 : ∀ post, Call 96 [.ref 423, .int (nI w), .int 0] h5 post = post (some (.int (nI v))) h5 := by rw [hv]; exact m_home k5 hL5 hw
    have lg : ldi h5 424 (nI (9 + 26 * v)) = some K.2.2.2 := by rw [k5.ls (by omega), lo5 _ (by omega) (by omega), hk.1]
    obtain ⟨h6, e6, k6, r6⟩ := k5.ss (show 9 + 26 * v < 420 by omega) (K.2.2.2 ||| ((1 : Int32) <<< (nI w &&& 31)))
    obtain ⟨h7, e7, k7, r7⟩ := k6.ss (show 164 + 2 * w + 1 < 420 by omega) (nI e)
    simp only [Option.toList_none, List.nil_append, s110_131, s110_132, s110_135, s110_136, s110_137, s110_138, s110_141, s110_144, s110_145, s110_146, s110_147, s110_148, s110_149, s110_150, k5.f, oB_some, ho5, m_knows, lg, e6, Option.toList_some, List.cons_append]
    have e7' : sti h6 424 (nI (164 + 2 * w + 1)) (nI e) = some h7 := e7
    simp only [s110_151, s110_152, s110_155, s110_158, s110_159, s110_160, s110_161, s110_162, s110_163, s110_164, s110_165, k6.f, oB_some, (show (164 : Int32) = nI 164 from rfl), (show (1 : Int32) = nI 1 from rfl), (show (2 : Int32) = nI 2 from rfl), nI_mul, nI_add, e7']
    have lo7 : ∀ i, i ≠ 9 + 26 * v → i ≠ 164 + 2 * w + 1 → upd (upd s5 (9 + 26 * v) (K.2.2.2 ||| ((1 : Int32) <<< (nI w &&& 31)))) (164 + 2 * w + 1) (nI e) i = s5 i := fun i q1 q2 => by rw [u_ne q2, u_ne q1]
    obtain ⟨s7, hs7⟩ : ∃ s7, s7 = upd (upd s5 (9 + 26 * v) (K.2.2.2 ||| ((1 : Int32) <<< (nI w &&& 31)))) (164 + 2 * w + 1) (nI e) := ⟨_, rfl⟩
    have v7 : s7 (9 + 26 * v) = K.2.2.2 ||| ((1 : Int32) <<< (nI w &&& 31)) ∧ s7 (164 + 2 * w + 1) = nI e := by
      rw [hs7]
      exact ⟨by rw [u_ne (by omega), u_eq], by rw [u_eq]⟩
    rw [← hs7] at k7 lo7
    have hL7 : ML s7 T P.length td := by
      rw [hT, ← hv, ← hK]
      obtain ⟨z0, zn, zt, z3, z4, z5, z6, z7, z8⟩ := id hL5
      refine ⟨by rw [lo7 _ (by omega) (by omega)]; exact z0, by rw [lo7 _ (by omega) (by omega)]; exact zn, by rw [lo7 _ (by omega) (by omega)]; exact zt, by rw [lo7 _ (by omega) (by omega)]; exact z3, by rw [lo7 _ (by omega) (by omega)]; exact z4, by rw [lo7 _ (by omega) (by omega)]; exact z5, fun u hu => ?_, fun y hy => ?_, z8⟩
      · obtain ⟨q1, q2, q3, q4⟩ := z6 u hu
        refine ⟨by rw [lo7 _ (by omega) (by omega)]; exact q1, q2, q3, ?_⟩
        have q4 : MK s5 (9 + 26 * u) (va_up S.vk v (kForget (kRaise K e (K.2.1 w) (K.2.2.1 w)) w) u) := q4
        show MK s7 (9 + 26 * u) (va_up S.vk v (kBeq K w e) u)
        by_cases eu : u = v
        · subst eu
          rw [up_eq] at q4 ⊢
          refine ⟨v7.1, fun y hy => ?_⟩
          obtain ⟨p1, p2, p3⟩ := q4.2 y hy
          exact ⟨by rw [lo7 _ (by omega) (by omega)]; exact p1, by rw [lo7 _ (by omega) (by omega)]; exact p2, by rw [lo7 _ (by omega) (by omega)]; exact p3⟩
        · rw [up_ne _ eu] at q4 ⊢
          exact q4.eq (fun i a1 a2 => lo7 i (by omega) (by omega))
      · obtain ⟨p1, p2, p3, p4⟩ := z7 y hy
        have hy8 : y < 8 := Nat.lt_of_lt_of_le hy z8
        show _ ∧ _ = va_up S.he w (nI e) y ∧ _ ∧ (va_up S.he w (nI e) y = -1 ∨ 0 ≤ va_up S.he w (nI e) y)
        refine ⟨by rw [lo7 _ (by omega) (by omega)]; exact p1, ?_, p3, ?_⟩
        · by_cases ey : y = w
          · subst ey
            rw [up_eq, show 165 + 2 * y = 164 + 2 * y + 1 by omega]; exact v7.2
          · rw [up_ne _ ey, lo7 _ (by omega) (by omega)]; exact p2
        · by_cases ey : y = w
          · subst ey; rw [up_eq]; exact Or.inr (nI_pos' (by omega))
          · rw [up_ne _ ey]; exact p4
    have hac : ∀ post, Call 101 [.ref 423] h7 post = post (some (.int c)) h7 := by
      have := m_active k7 hL7
      have ec : cntI (fun w => !rt T w) (T.ct 0) = c := by rw [hT, hc]; rfl
      rwa [ec] at this
    simp only [s110_166, s110_167, s110_170, k7.f, hac, Option.toList_some, List.cons_append, List.nil_append]
    refine MO.ok (G := G) (r := (c, T)) k7 (by show isE c = false; rw [hc, cntI_cn]; exact isE_nI (by have := cn_le (fun u => !rt (sHE S (va_up S.he w (nI e))) u) (S.ct 0); omega)) ((((((r1.tr r2).tr r3).tr r4).tr r5).tr r6).tr r7) cg ⟨td, came, posted, P, hX.keep rfl hL7 (fun i hi => by rw [lo7 _ (by omega) (by omega), lo5 _ (by omega) (by omega)]) (by rw [hT]) (by rw [hT]), by omega, by omega, by rw [hT]; exact ht⟩
  · rw [if_neg cho]
    exact bad2 (by rw [e0, if_pos (Or.inr (Or.inr cho))]) _ _
theorem m_merge (hM : HM h F s A) (hX : MXG G s S) (hm : m ≤ 4) (hF : F 4 = nI m) (x z : Int32) : Call 116 [.ref 423, .int x, .int z] h (MO G m F s A (aMerge S x z) h) := by
  obtain ⟨td, came, posted, P, hX, hc1, hp1, ht⟩ := hX
  have hL := hX.1
  have bad : aMerge S x z = (eI, S) → ∀ v3, Ev none 116 21 [.ref 423, .int x, .int z, v3] [] h (MO G m F s A (aMerge S x z) h) := by
    intro e v3
    rw [e]
    simp only [s116_21, s116_23]
    exact MO.err (r := (eI, S)) hM isE_I
  simp only [s116_0, s116_1, s116_2, s116_5, s116_e, hM.f, m_isView hM hL x, Option.toList_some, List.cons_append, List.nil_append]
  rcases ix_cases x 6 with hx | ⟨v, hv6, rfl⟩
  · have e : hv S x = false := by unfold hv; rw [hx]
    rw [e, if_neg (show ¬ false = true by decide), if_pos rfl]
    exact bad (by unfold aMerge; rw [hx]) _
  rw [hv_nI hv6]
  by_cases c : S.th v = true
  · rw [if_pos c, if_neg (show ¬ (1 : Int32) = 0 by decide)]
    simp only [s116_8, s116_9, s116_10, s116_13, hM.f, m_isView hM hL z, Option.toList_some, List.cons_append, List.nil_append]
    rcases ix_cases z 6 with hz | ⟨u, hu6, rfl⟩
    · have e : hv S z = false := by unfold hv; rw [hz]
      rw [e, if_neg (show ¬ false = true by decide), if_pos rfl]
      exact bad (by unfold aMerge; rw [hz, ix_nI hv6 (by decide)]) _
    rw [hv_nI hu6]
    have e0 : aMerge S (nI v) (nI u) = if ¬ S.th v = true ∨ ¬ S.th u = true ∨ v = u then (eI, S) else
      (kCt (S.vk v) (S.vk u), sOT (sVK S (va_up S.vk v (kTk (S.vk v) (S.vk u)))) (S.ot + kCt (S.vk v) (S.vk u))) := by
      unfold aMerge; rw [ix_nI hv6 (by decide), ix_nI hu6 (by decide)]
    by_cases c2 : S.th u = true
    · rw [if_pos c2, if_neg (show ¬ (1 : Int32) = 0 by decide)]
      simp only [s116_16, s116_17, s116_18, nI_eq (show v < 2147483648 by omega) (show u < 2147483648 by omega)]
      by_cases c3 : v = u
      · rw [if_neg (fun q => q c3)]
        exact bad (by rw [e0, if_pos (Or.inr (Or.inr c3))]) _
      · rw [if_pos c3]
        rw [if_neg (fun q => q.elim (fun q => q c) (fun q => q.elim (fun q => q c2) c3))] at e0
        rw [e0]
        simp only [s116_24, s116_25, hM.f]
        refine Call.mono (m_changes hM hm hF) ?_
        rintro rv h1 ⟨rfl, ⟨F1, A1, k1, cg⟩, r1⟩
        have hkv := (hL.2.2.2.2.2.2.1 v hv6).2.2.2
        have hku := (hL.2.2.2.2.2.2.1 u hu6).2.2.2
        simp only [Option.toList_none, List.nil_append, s116_28, s116_29, s116_30, s116_33, s116_34, s116_37, k1.f, m_knows, Option.toList_some, List.cons_append]
        refine Call.mono (m_takesIn k1 hkv hku (by omega) (by omega) (by omega)) ?_
        rintro rv h2 ⟨rfl, ⟨s2, k2, m2, e2⟩, r2⟩
        have hL2 := hL.setK hv6 m2 e2
        obtain ⟨h3, e3, k3, r3⟩ := k2.ss (show 5 < 420 by decide) (S.ot + kCt (S.vk v) (S.vk u))
        have e3' : sti h2 424 5 (S.ot + kCt (S.vk v) (S.vk u)) = some h3 := e3
        have l5 : ldi h2 424 5 = some S.ot := by
          have := k2.ls (i := 5) (by decide)
          rw [e2 _ (by omega), hL.2.2.2.2.2.1] at this
          exact this
        simp only [Option.toList_some, List.cons_append, List.nil_append, s116_40, s116_41, s116_42, s116_45, s116_46, s116_47, s116_48, s116_49, s116_50, s116_51, s116_52, k2.f, oB_some, l5, e3']
        obtain ⟨j, hj, ej⟩ := kCt_nI (S.vk v) (S.vk u)
        refine MO.ok (G := G) (r := (kCt (S.vk v) (S.vk u), _)) k3 (by show isE (kCt (S.vk v) (S.vk u)) = false; rw [ej]; exact isE_nI (by omega)) ((r1.tr r2).tr r3) cg ⟨td, came, posted, P, hX.keep rfl ?_ (fun i hi => ?_) rfl rfl, by omega, by omega, ht⟩
        · have lo : ∀ i, i ≠ 5 → upd s2 5 (S.ot + kCt (S.vk v) (S.vk u)) i = s2 i := fun i q => u_ne q
          obtain ⟨z0, zn, zt, z3, z4, z5, z6, z7, z8⟩ := id hL2
          refine ⟨by rw [lo _ (by omega)]; exact z0, by rw [lo _ (by omega)]; exact zn, by rw [lo _ (by omega)]; exact zt, by rw [lo _ (by omega)]; exact z3, by rw [lo _ (by omega)]; exact z4, by rw [u_eq], fun u hu => ?_, fun y hy => ?_, z8⟩
          · obtain ⟨q1, q2, q3, q4⟩ := z6 u hu
            exact ⟨by rw [lo _ (by omega)]; exact q1, q2, q3, q4.eq (fun i a1 a2 => lo i (by omega))⟩
          · obtain ⟨p1, p2, p3⟩ := z7 y hy
            exact ⟨by rw [lo _ (by omega)]; exact p1, by rw [lo _ (by omega)]; exact p2, p3⟩
        · rw [u_ne (by omega), e2 _ (by omega)]
    · rw [if_neg c2, if_pos rfl]
      exact bad (by rw [e0, if_pos (Or.inr (Or.inl c2))]) _
  · rw [if_neg c, if_pos rfl]
    refine bad ?_ _
    unfold aMerge
    rw [ix_nI hv6 (by decide)]
    cases ix z 6 with
    | none => rfl
    | some w => exact if_pos (Or.inl c)
end MRR
