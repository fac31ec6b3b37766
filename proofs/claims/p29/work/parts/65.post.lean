/-! The law's letters: posting. -/
theorem dv36 {a : Nat} (h : a < 2147483648) : nI a / 36 = nI (a / 36) := pk_div (d := 36) (by omega) (by decide) (by decide)
theorem i1l (a : Nat) : (1 : Int32) + nI a = nI (1 + a) := nI_add 1 a
section PO
variable {G : Nat} {h h' : AHp} {S : St} {H H' : List St} {tc : Nat → Int32} {A A' : WA} {u : Nat → Nat} {st po : Nat} {P : List Pt}
theorem tk_ok {n : Nat} (h1 : 1 ≤ n) (h2 : n ≤ 99) : (1 : Int32) ≤ nI n ∧ nI n ≤ 99 := ⟨nI_le (a := 1) h1 (by omega), nI_le (b := 99) h2 (by decide)⟩
theorem aPost_i (S : St) {v i t : Nat} (hv : v < 6) (hi : i < 6) (c : S.th v = false ∨ S.th i = false ∨ v = i) : aPost S (nI v) (nI i) (nI t) = (eI, S) := by
  unfold aPost
  rw [ix_nI hv (by decide), ix_nI hi (by decide)]
  dsimp only
  rw [if_pos]
  rcases c with c | c | c
  · exact Or.inl (by rw [c]; exact Bool.false_ne_true)
  · exact Or.inr (Or.inl (by rw [c]; exact Bool.false_ne_true))
  · exact Or.inr (Or.inr (Or.inl c))
theorem aPost_l (S : St) {v i t : Nat} (hv : v < 6) (hi : i < 6) (c1 : S.th v = true) (c2 : S.th i = true) (c3 : ¬ v = i) (ht1 : 1 ≤ t) (ht2 : t ≤ 99) (d : ¬ S.lt.length < 8) : aPost S (nI v) (nI i) (nI t) = (eL, S) := by
  unfold aPost
  rw [ix_nI hv (by decide), ix_nI hi (by decide)]
  dsimp only
  rw [if_neg, if_pos d]
  rintro (q | q | q | q)
  · exact q c1
  · exact q c2
  · exact c3 q
  · exact q (tk_ok ht1 ht2)
theorem aPost_k (S : St) {v i t : Nat} (hv : v < 6) (hi : i < 6) (c1 : S.th v = true) (c2 : S.th i = true) (c3 : ¬ v = i) (ht1 : 1 ≤ t) (ht2 : t ≤ 99) (d : S.lt.length < 8) : aPost S (nI v) (nI i) (nI t) = (nI (S.ct 1 + t), sLT S (insR (v, i, S.ct 1 + t, false, S.vk v) S.lt)) := by
  have e : (nI t).toNatClampNeg = t := nI_cl (by omega)
  unfold aPost
  rw [ix_nI hv (by decide), ix_nI hi (by decide)]
  dsimp only
  rw [if_neg, if_neg (fun q => q d), e]
  rintro (q | q | q | q)
  · exact q c1
  · exact q c2
  · exact c3 q
  · exact q (tk_ok ht1 ht2)
set_option maxHeartbeats 4000000 in
theorem c_poTail (hG : G + 1 ≤ 100) (hl : h.length = 435) (hP : HP h S H 0 tc) (hI : IV G S) (hW : HW h A) (hR : RX G A S u st po P) {v i t : Nat} {y : Int32} {v15 v16 : Value} (hv : v < 6) (hi : i < 6) (ht1 : 1 ≤ t) (ht2 : t ≤ 99) : Ev none 76 41 [.ref 0, .ref 423, .ref 424, .ref 425, .ref 426, .ref 427, .ref 428, .ref 431, .ref 432, .ref 433, .ref 434, .int y, .int (nI v), .int (nI i), .int (nI t), v15, v16] [] h (fun rv h' => rv = some (.int 1) ∧ LI (G + 1) h') := by
  have hio := hP.is
  have hw := hP.wf
  have hst := hR.2.2.2.2.2.2.2.1
  have hpo := hR.2.2.2.2.2.2.2.2
  have hL := hR.2.2.2.2.2.1
  have hPX := hR.2.2.2.2.2.2.1
  have hlen : S.lt.length = P.length := by rw [hPX.2.2, srt_len, List.length_map]
  have l1 := hW.l1 hv
  have l1i := hW.l1 hi
  have sz := u_z hR.2.1 (by omega) hv
  have szi := u_z hR.2.1 (by omega) hi
  have tu := th_u hR.2.2.1 hv
  have tui := th_u hR.2.2.1 hi
  have g1 : ldi h 423 1 = some (nI P.length) := by rw [hW.g.2.1, hL.2.1]
  -- the answer of a call that is refused
  have bad : ∀ (r : Int32), (aPost S (nI v) (nI i) (nI t)) = (r, S) → ((P.length = 8 ∧ 0 < u v ∧ 0 < u i ∧ ¬ v = i) ∧ r = -2000000003 ∨ ¬ (P.length = 8 ∧ 0 < u v ∧ 0 < u i ∧ ¬ v = i) ∧ r = -2000000001) → Ev none 76 70 [.ref 0, .ref 423, .ref 424, .ref 425, .ref 426, .ref 427, .ref 428, .ref 431, .ref 432, .ref 433, .ref 434, .int y, .int (nI v), .int (nI i), .int (nI t), v15, v16] [] h (fun rv h' => rv = some (.int 1) ∧ LI (G + 1) h') := by
    intro r e d
    simp only [s76_70, s76_71, s76_73, s76_75, s76_77, hio]
    refine Call.mono (p_post hP (nI v) (nI i) (nI t)) ?_
    rintro rv h1 ⟨rfl, hP', fr⟩
    have W1 := hW.fr fr (Or.inr (Nat.le_refl _))
    have g1' : ldi h1 423 1 = some (nI P.length) := by rw [W1.g.2.1, hL.2.1]
    have k1 := W1.l1 hv
    have k1i := W1.l1 hi
    have fin : LI (G + 1) h1 := li_ref hl hI hW ⟨u, st, po, P, hR⟩ (by rw [e]) hP' fr
    have e1 : (aPost S (nI v) (nI i) (nI t)).1 = r := by rw [e]
    rw [e1]
    have n1 : ¬ (P.length = 8 ∧ 0 < u v ∧ 0 < u i ∧ ¬ v = i) → Ev none 76 114 [.ref 0, .ref 423, .ref 424, .ref 425, .ref 426, .ref 427, .ref 428, .ref 431, .ref 432, .ref 433, .ref 434, .int y, .int (nI v), .int (nI i), .int (nI t), v15, v16] [.int r] h1 (fun rv h' => rv = some (.int 1) ∧ LI (G + 1) h') := by
      intro q
      rcases d with ⟨d1, d2⟩ | ⟨d1, d2⟩
      · exact absurd d1 q
      · subst d2
        simp only [s76_114, s76_116, eq_self, not_true, if_false]
        simp only [s76_119, s76_120, s76_123, s76_124]
        exact ⟨Or.inr (by first | trivial | rfl), by first | trivial | rfl, fin⟩
    simp only [Option.toList_some, List.cons_append, List.nil_append, s76_80, s76_81, s76_82, s76_83, s76_85, g1', oB_some]
    by_cases c1 : P.length = 8
    · rw [if_neg (show ¬ ¬ nI P.length = 8 from fun q => q (by rw [c1]; rfl))]
      simp only [s76_88, s76_89, s76_91, s76_92, k1, oB_some]
      by_cases c2 : A 1 v ≤ 0
      · rw [if_pos c2]
        exact n1 (fun q => by have := sz.2.1.mp c2; omega)
      · rw [if_neg c2]
        simp only [s76_95, s76_96, s76_98, s76_99, k1i, oB_some]
        by_cases c3 : A 1 i ≤ 0
        · rw [if_pos c3]
          exact n1 (fun q => by have := szi.2.1.mp c3; omega)
        · rw [if_neg c3]
          simp only [s76_102, s76_104, s76_106]
          by_cases c4 : v = i
          · rw [if_pos (by rw [c4])]
            exact n1 (fun q => q.2.2.2 c4)
          · rw [if_neg (fun q => c4 ((nI_eq (by omega) (by omega)).mp q))]
            have u1 : ¬ u v = 0 := fun q => c2 (sz.2.1.mpr q)
            have u2 : ¬ u i = 0 := fun q => c3 (szi.2.1.mpr q)
            rcases d with ⟨d1, d2⟩ | ⟨d1, d2⟩
            · subst d2
              simp only [s76_109, s76_111, s76_116, eq_self, not_true, if_false]
              simp only [s76_119, s76_120, s76_123, s76_124]
              exact ⟨Or.inr (by first | trivial | rfl), by first | trivial | rfl, fin⟩
            · exact absurd ⟨c1, by omega, by omega, c4⟩ d1
    · rw [if_pos (show ¬ nI P.length = 8 from fun q => c1 ((nI_eq (b := 8) (by have := hL.1; omega) (by decide)).mp q))]
      exact n1 (fun q => c1 q.1)
  simp only [s76_41, s76_42, s76_44, s76_45, l1, oB_some]
  by_cases c1 : A 1 v = 0
  · rw [if_pos c1]
    have uz := sz.1.mp c1
    exact bad _ (aPost_i S hv hi (Or.inl (tu.2.mpr uz))) (Or.inr ⟨by omega, rfl⟩)
  rw [if_neg c1]
  have uv : ¬ u v = 0 := fun q => c1 (sz.1.mpr q)
  simp only [s76_48, s76_49, s76_51, s76_52, l1i, oB_some]
  by_cases c2 : A 1 i = 0
  · rw [if_pos c2]
    have uz := szi.1.mp c2
    exact bad _ (aPost_i S hv hi (Or.inr (Or.inl (tui.2.mpr uz)))) (Or.inr ⟨by omega, rfl⟩)
  rw [if_neg c2]
  have ui : ¬ u i = 0 := fun q => c2 (szi.1.mpr q)
  simp only [s76_55, s76_57, s76_59]
  by_cases c3 : v = i
  · rw [if_pos (by rw [c3])]
    exact bad _ (aPost_i S hv hi (Or.inr (Or.inr c3))) (Or.inr ⟨by omega, rfl⟩)
  rw [if_neg (fun q => c3 ((nI_eq (by omega) (by omega)).mp q))]
  have tv : S.th v = true := tu.1.mpr (by omega)
  have ti : S.th i = true := tui.1.mpr (by omega)
  simp only [s76_62, s76_63, s76_64, s76_65, s76_67, g1, oB_some]
  by_cases c4 : P.length = 8
  · rw [if_neg (show ¬ ¬ nI P.length = 8 from fun q => q (by rw [c4]; rfl))]
    exact bad _ (aPost_l S hv hi tv ti c3 ht1 ht2 (by omega)) (Or.inl ⟨⟨c4, by omega, by omega, c3⟩, rfl⟩)
  rw [if_pos (show ¬ nI P.length = 8 from fun q => c4 ((nI_eq (b := 8) (by have := hL.1; omega) (by decide)).mp q))]
  have h8 : P.length < 8 := by have := hL.1; omega
  have e := aPost_k S hv hi tv ti c3 ht1 ht2 (by omega)
  have R2 := rx_post hR hv hi h8 (by omega) ht1 ht2
  obtain ⟨n, hn⟩ : ∃ n, n = P.length := ⟨_, rfl⟩
  rw [← hn] at R2 g1 h8
  have VXs := hR.2.2.2.1
  have UXs := hR.2.1
  obtain ⟨h0, e0, W0, r0⟩ := hW.s8 (show 6 * n < 48 by omega) (nI v)
  obtain ⟨h1, e1, W1, r1⟩ := W0.s8 (show 6 * n + 1 < 48 by omega) (nI i)
  obtain ⟨h2, e2, W2, r2⟩ := W1.s8 (show 6 * n + 2 < 48 by omega) (nI (u i))
  obtain ⟨h3, e3, W3, r3⟩ := W2.s8 (show 6 * n + 3 < 48 by omega) (nI (S.ct 1 + t))
  obtain ⟨h4, e4, W4, r4⟩ := W3.s8 (show 6 * n + 4 < 48 by omega) (nI po)
  obtain ⟨h5, e5, W5, r5⟩ := W4.s8 (show 6 * n + 5 < 48 by omega) ((S.vk v).2.2.2)
  have k1i := W1.l1 hi
  rw [ua_k (by decide), ua_k (by decide), (UXs i hi).1] at k1i
  have k2 := W2.g.2.2.1
  rw [ua_k (by decide), ua_k (by decide), ua_k (by decide), hR.1.2.1] at k2
  have k3 := W3.g.2.2.2.2.2.2.2
  rw [ua_k (by decide), ua_k (by decide), ua_k (by decide), ua_k (by decide), hR.1.2.2.2.2.2.2] at k3
  have k4 := W4.l2 hv
  rw [ua_k (by decide), ua_k (by decide), ua_k (by decide), ua_k (by decide), ua_k (by decide), (VXs v hv).1] at k4
  have rr := ((((r0.tr r1).tr r2).tr r3).tr r4).tr r5
  have k3' : ldi h3 423 7 = some (nI po) := k3
  simp only [s76_125, s76_127, s76_128, s76_129, s76_130, s76_131, s76_133, s76_135, s76_137, s76_139, s76_140, s76_142, s76_144, s76_145, s76_146, s76_148, g1, i6, i1, e0, e1, oB_some]
  simp only [s76_149, s76_151, s76_153, s76_154, s76_155, s76_156, s76_158, s76_159, s76_160, s76_162, s76_164, s76_165, s76_166, s76_167, s76_168, s76_169, s76_171, s76_172, i2, i3, k1i, e2, k2, nI_add, e3, oB_some]
  simp only [s76_173, s76_175, s76_177, s76_178, s76_179, s76_180, s76_182, s76_183, s76_184, s76_186, s76_188, s76_189, s76_190, s76_191, s76_193, s76_194, s76_195, s76_196, i4, i5, k3', e4, k4, e5, oB_some]
  obtain ⟨B, hB⟩ : ∃ B, B = psA A n (nI v) (nI i) (nI (u i)) (nI (S.ct 1 + t)) (nI po) (S.vk v).2.2.2 := ⟨_, rfl⟩
  have W6 : HW h5 B := by rw [hB]; exact W5
  clear W0 W1 W2 W3 W4 W5
  have lowB : ∀ m k a, k < 8 → ltA B (8 * n) m (S.vk v) k a = A k a := by
    intro m k a hk
    rw [ltA_k (by omega), hB, psA_k (by omega)]
  have loop : ∀ dd k (hh : AHp), k + dd = 8 → HW hh (ltA B (8 * n) k (S.vk v)) → Fr 423 435 h hh → Ev none 76 198 [.ref 0, .ref 423, .ref 424, .ref 425, .ref 426, .ref 427, .ref 428, .ref 431, .ref 432, .ref 433, .ref 434, .int y, .int (nI v), .int (nI i), .int (nI t), .int (nI (6 * n)), .int (nI k)] [] hh (fun rv h' => rv = some (.int 1) ∧ LI (G + 1) h') := by
    intro dd
    induction dd with
    | zero =>
      intro k hh hk Wk r
      obtain rfl : k = 8 := by omega
      have m1 := Wk.g.2.1
      rw [lowB 8 0 1 (by decide), hL.2.1, ← hn] at m1
      obtain ⟨x1, q1, X1, s1⟩ := Wk.s0 (j := 1) (by decide) (nI (n + 1))
      have q1' : sti hh 423 1 (nI (n + 1)) = some x1 := q1
      have m7 := X1.g.2.2.2.2.2.2.2
      rw [ua_j (by decide), lowB 8 0 7 (by decide), hR.1.2.2.2.2.2.2] at m7
      obtain ⟨x2, q2, X2, s2⟩ := X1.s0 (j := 7) (by decide) (nI (po + 1))
      have q2' : sti x1 423 7 (nI (po + 1)) = some x2 := q2
      have r9 := (r.tr s1).tr s2
      have hP9 := hP.fr9 r9
      have hio9 := hP9.is
      have X3 : HW x2 (ptA A n v (nI v) (nI i) (nI (u i)) (nI (S.ct 1 + t)) (nI po) (S.vk v).2.2.2 (S.vk v) po) := by
        unfold ptA
        rw [← hB]; exact X2
      simp only [s76_198, s76_200, s76_202, if_pos (show (8 : Int32) ≤ nI 8 by decide)]
      simp only [s76_280, s76_281, s76_282, s76_283, s76_284, s76_285, s76_286, s76_287, s76_288, s76_290, s76_291, s76_292, s76_293, s76_294, s76_295, s76_296, s76_298, s76_300, s76_302, m1, i1, q1', m7, q2', oB_some, hio9]
      refine Call.mono (p_post hP9 (nI v) (nI i) (nI t)) ?_
      rintro rv h9 ⟨rfl, hP', fr⟩
      have W9 := X3.fr fr (Or.inr (Nat.le_refl _))
      have m2 := W9.g.2.2.1
      rw [R2.1.2.1] at m2
      have m2' : ldi h9 423 2 = some (nI (S.ct 1)) := m2
      have e1 : (aPost S (nI v) (nI i) (nI t)).1 = nI (S.ct 1 + t) := by rw [e]
      simp only [Option.toList_some, List.cons_append, List.nil_append, s76_305, s76_306, s76_307, s76_308, s76_310, s76_311, m2', oB_some, nI_add, e1]
      simp only [eq_self, not_true, if_false]
      simp only [s76_314, s76_315, s76_318, s76_319]
      exact ⟨Or.inr (by first | trivial | rfl), by first | trivial | rfl, li_ok (r9.1.trans hl) (by rw [e]; exact isE_nI (by have := hw.2.2.2.1; omega)) (iv_post hI _ _ _) X3 ⟨_, _, _, _, by rw [e]; exact R2⟩ hP' fr⟩
    | succ dd ih =>
      intro k hh hk Wk r
      have hk8 : k < 8 := by omega
      obtain ⟨q3, q4, q5⟩ := (VXs v hv).2 k hk8
      have m1 := Wk.g.2.1
      rw [lowB k 0 1 (by decide), hL.2.1, ← hn] at m1
      have l3 := Wk.l3 (show 8 * v + k < 48 by omega)
      rw [lowB k 3 _ (by decide), q3] at l3
      obtain ⟨x1, u1, X1, s1⟩ := Wk.s9 (show 8 * n + k < 64 by omega) ((S.vk v).1 k)
      have m1' := X1.g.2.1
      rw [ua_k (by decide), lowB k 0 1 (by decide), hL.2.1, ← hn] at m1'
      have l4 := X1.l4 (show 8 * v + k < 48 by omega)
      rw [ua_k (by decide), lowB k 4 _ (by decide), q4] at l4
      obtain ⟨x2, u2, X2, s2⟩ := X1.s10 (show 8 * n + k < 64 by omega) ((S.vk v).2.1 k)
      have m1'' := X2.g.2.1
      rw [ua_k (by decide), ua_k (by decide), lowB k 0 1 (by decide), hL.2.1, ← hn] at m1''
      have l5 := X2.l5 (show 8 * v + k < 48 by omega)
      rw [ua_k (by decide), ua_k (by decide), lowB k 5 _ (by decide), q5] at l5
      obtain ⟨x3, u3, X3, s3⟩ := X2.s11 (show 8 * n + k < 64 by omega) ((S.vk v).2.2.1 k)
      have X4 : HW x3 (ltA B (8 * n) (k + 1) (S.vk v)) := X3.to (fun a _ j _ => ltA_s a j)
      simp only [s76_198, s76_200, s76_202, if_neg (le8 hk8)]
      simp only [s76_205, s76_207, s76_209, s76_210, s76_211, s76_212, s76_213, s76_215, s76_216, s76_218, s76_220, s76_222, s76_223, s76_225, s76_226, s76_227, m1, i8, nI_add, l3, u1, oB_some]
      simp only [s76_228, s76_230, s76_232, s76_233, s76_234, s76_235, s76_236, s76_238, s76_239, s76_241, s76_243, s76_245, s76_246, s76_248, s76_249, s76_250, m1', i8, nI_add, l4, u2, oB_some]
      simp only [s76_251, s76_253, s76_255, s76_256, s76_257, s76_258, s76_259, s76_261, s76_262, s76_264, s76_266, s76_268, s76_269, s76_271, s76_272, s76_273, s76_274, s76_277, m1'', i8, nI_add, l5, u3, oB_some, nI_1]
      exact ih (k + 1) x3 (by omega) X4 (((r.tr s1).tr s2).tr s3)
  exact loop 8 0 h5 rfl (W6.to (fun a _ j _ => (ltA_out (by omega)).symm)) rr
/-- the law's letters -/
theorem c_lettersT (hG : G + 1 ≤ 100) (hl : h.length = 435) (hP : HP h S H 0 tc) (hI : IV G S) (hW : HW h A) (hR : RX G A S u st po P) {yy : Nat} (hy : yy < 10000000) : Call 76 [.ref 0, .ref 423, .ref 424, .ref 425, .ref 426, .ref 427, .ref 428, .ref 431, .ref 432, .ref 433, .ref 434, .int (nI yy)] h (fun rv h' => rv = some (.int 1) ∧ LI (G + 1) h') := by
  have n6 : ¬ (6 : Int32) = 0 := by decide
  have e1 : nI yy - nI yy / 6 * 6 = nI (yy % 6) := rm6 (by omega)
  have e2 : nI (yy / 6) - nI (yy / 6) / 6 * 6 = nI (yy / 6 % 6) := rm6 (by omega)
  have e3 : nI yy / 6 = nI (yy / 6) := dv6 (by omega)
  have e4 : nI yy / 36 = nI (yy / 36) := dv36 (by omega)
  have e5 : nI yy - nI yy / 4 * 4 = nI (yy % 4) := rmN (d := 4) (by omega) (by decide) (by decide)
  have hv := Nat.mod_lt yy (show 0 < 6 by decide)
  have hi := Nat.mod_lt (yy / 6) (show 0 < 6 by decide)
  simp only [s76_0, s76_2, s76_e, s76_4 n6, e1, s76_5, s76_7, s76_9]
  simp only [s76_11 n6, e3, s76_12, s76_14 n6, e2, s76_15, s76_17, s76_18, s76_20]
  simp only [s76_22 (show ¬ (36 : Int32) = 0 by decide), e4, s76_23, s76_25]
  simp only [s76_26 (show ¬ (4 : Int32) = 0 by decide), e5, s76_27]
  by_cases c : nI (yy % 4) = 0
  · rw [if_neg (fun q => q c)]
    have em : nI (yy / 36) - nI (yy / 36) / 99 * 99 = nI (yy / 36 % 99) := rmN (d := 99) (by omega) (by decide) (by decide)
    simp only [s76_30, s76_32, s76_37 (show ¬ (99 : Int32) = 0 by decide), em, s76_38, s76_39, i1l]
    have := Nat.mod_lt (yy / 36) (show 0 < 99 by decide)
    exact c_poTail hG hl hP hI hW hR hv hi (by omega) (by omega)
  · rw [if_pos c]
    have em : nI (yy / 36) - nI (yy / 36) / 6 * 6 = nI (yy / 36 % 6) := rm6 (by omega)
    simp only [s76_35, s76_37 n6, em, s76_38, s76_39, i1l]
    have := Nat.mod_lt (yy / 36) (show 0 < 6 by decide)
    exact c_poTail hG hl hP hI hW hR hv hi (by omega) (by omega)
end PO
