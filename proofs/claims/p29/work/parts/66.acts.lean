/-! The law's acts: one change. -/
section AC
variable {G : Nat} {h h' : AHp} {S : St} {H H' : List St} {tc : Nat → Int32} {A A' : WA} {u : Nat → Nat} {st po : Nat} {P : List Pt}
theorem aWriter_i (S : St) {v : Nat} (hv : v < 6) (c : S.th v = false) : aWriter S (nI v) = (eI, S) := by
  unfold aWriter
  rw [ix_nI hv (by decide)]
  dsimp only
  rw [if_pos (by rw [c]; exact Bool.false_ne_true)]
theorem aWriter_l (S : St) {v : Nat} (hv : v < 6) (c : S.th v = true) (d : ¬ S.ct 0 < 8) : aWriter S (nI v) = (eL, S) := by
  unfold aWriter
  rw [ix_nI hv (by decide)]
  dsimp only
  rw [if_neg (fun q => q c), if_pos d]
theorem aWriter_k (S : St) {v : Nat} (hv : v < 6) (c : S.th v = true) (d : S.ct 0 < 8) : aWriter S (nI v) = (nI (S.ct 0), sVK (sHE (sHO (sCT S (va_up S.ct 0 (S.ct 0 + 1))) (va_up S.ho (S.ct 0) v)) (va_up S.he (S.ct 0) (-1))) (va_up S.vk v (kRaise (S.vk v) (S.ct 0) 0 0))) := by
  unfold aWriter
  rw [ix_nI hv (by decide)]
  dsimp only
  rw [if_neg (fun q => q c), if_neg (fun q => q d)]
set_option maxHeartbeats 4000000 in
theorem c_acWriter (hG : G + 1 ≤ 100) (hl : h.length = 435) (hP : HP h S H 0 tc) (hI : IV G S) (hW : HW h A) (hR : RX G A S u st po P) {yy : Nat} {z way : Int32} {v16 : Value} (hy : yy < 10000000) : Ev none 77 39 [.ref 0, .ref 423, .ref 424, .ref 425, .ref 426, .ref 427, .ref 428, .ref 429, .ref 430, .ref 431, .ref 432, .ref 433, .ref 434, .int z, .int (nI yy), .int way, v16] [] h (fun rv h' => rv = some (.int 1) ∧ LI (G + 1) h') := by
  have hio := hP.is
  have h8 : S.ct 0 ≤ 8 := hP.wf.1
  have hst := hR.2.2.2.2.2.2.2.1
  obtain ⟨v, hvd⟩ : ∃ v, v = yy % 6 := ⟨_, rfl⟩
  have hv : v < 6 := by rw [hvd]; exact Nat.mod_lt _ (by decide)
  have e1 : nI yy - nI yy / 6 * 6 = nI v := by rw [hvd]; exact rm6 (by omega)
  have l1 := hW.l1 hv
  have sz := u_z hR.2.1 (by omega) hv
  have tu := th_u hR.2.2.1 hv
  have g0 : ldi h 423 0 = some (nI (S.ct 0)) := by rw [hW.g.1, hR.1.1]
  simp only [s77_39, s77_41, s77_43 (show ¬ (6 : Int32) = 0 by decide), e1, s77_44, s77_46, s77_47, s77_49, s77_50, l1, oB_some]
  have bad : ∀ r : Int32, aWriter S (nI v) = (r, S) → (A 1 v = 0 ∧ r = -2000000001 ∨ ¬ A 1 v = 0 ∧ r = -2000000003) → Ev none 77 61 [.ref 0, .ref 423, .ref 424, .ref 425, .ref 426, .ref 427, .ref 428, .ref 429, .ref 430, .ref 431, .ref 432, .ref 433, .ref 434, .int z, .int (nI yy), .int way, .int (nI v)] [] h (fun rv h' => rv = some (.int 1) ∧ LI (G + 1) h') := by
    intro r e d
    simp only [s77_61, s77_62, s77_64, hio]
    refine Call.mono (p_writer hP (nI v)) ?_
    rintro rv h1 ⟨rfl, hP', fr⟩
    have W1 := hW.fr fr (Or.inr (Nat.le_refl _))
    have k1 := W1.l1 hv
    have e1 : (aWriter S (nI v)).1 = r := by rw [e]
    simp only [Option.toList_some, List.cons_append, List.nil_append, s77_67, s77_68, s77_70, s77_71, k1, oB_some, e1]
    rcases d with ⟨d1, d2⟩ | ⟨d1, d2⟩
    · subst d2
      rw [if_neg (fun q => q d1)]
      simp only [s77_74, s77_76, s77_81, eq_self, not_true, if_false]
      simp only [s77_84, s77_85, s77_88, s77_89]
      exact ⟨Or.inr (by first | trivial | rfl), by first | trivial | rfl, li_ref hl hI hW ⟨u, st, po, P, hR⟩ (by rw [e]) hP' fr⟩
    · subst d2
      rw [if_pos d1]
      simp only [s77_79, s77_81, eq_self, not_true, if_false]
      simp only [s77_84, s77_85, s77_88, s77_89]
      exact ⟨Or.inr (by first | trivial | rfl), by first | trivial | rfl, li_ref hl hI hW ⟨u, st, po, P, hR⟩ (by rw [e]) hP' fr⟩
  by_cases c1 : A 1 v = 0
  · rw [if_pos c1]
    exact bad _ (aWriter_i S hv (tu.2.mpr (sz.1.mp c1))) (Or.inl ⟨c1, rfl⟩)
  rw [if_neg c1]
  have tv : S.th v = true := tu.1.mpr (by
    have : ¬ u v = 0 := fun q => c1 (sz.1.mpr q)
    omega)
  simp only [s77_53, s77_54, s77_55, s77_56, s77_58, g0, oB_some]
  by_cases c2 : S.ct 0 = 8
  · rw [if_neg (show ¬ ¬ nI (S.ct 0) = 8 from fun q => q (by rw [c2]; rfl))]
    exact bad _ (aWriter_l S hv tv (by omega)) (Or.inr ⟨c1, rfl⟩)
  rw [if_pos (show ¬ nI (S.ct 0) = 8 from fun q => c2 ((nI_eq (b := 8) (by omega) (by decide)).mp q))]
  have c8 : S.ct 0 < 8 := by omega
  have e := aWriter_k S hv tv c8
  have R2 := rx_writer hR hv c8 (hI.nw hv c8 (Nat.le_refl _)).1
  obtain ⟨c, hc⟩ : ∃ c, c = S.ct 0 := ⟨_, rfl⟩
  rw [← hc] at g0 c8
  obtain ⟨h1, q1, W1, r1⟩ := hW.s6 c8 (nI v)
  obtain ⟨h2, q2, W2, r2⟩ := W1.s7 c8 (-1)
  obtain ⟨h3, q3, W3, r3⟩ := W2.s3 (show 8 * v + c < 48 by omega) 1
  obtain ⟨h4, q4, W4, r4⟩ := W3.s0 (j := 0) (by decide) (nI (c + 1))
  have q4' : sti h3 423 0 (nI (c + 1)) = some h4 := q4
  have g1 : ldi h1 423 0 = some (nI c) := by rw [W1.g.1, ua_k (by decide), hR.1.1, hc]
  have g2 : ldi h2 423 0 = some (nI c) := by rw [W2.g.1, ua_k (by decide), ua_k (by decide), hR.1.1, hc]
  have g3 : ldi h3 423 0 = some (nI c) := by rw [W3.g.1, ua_k (by decide), ua_k (by decide), ua_k (by decide), hR.1.1, hc]
  have rr := ((r1.tr r2).tr r3).tr r4
  have hP4 := hP.fr9 rr
  have hio4 := hP4.is
  simp only [s77_90, s77_92, s77_93, s77_94, s77_95, s77_97, s77_98, s77_100, s77_101, s77_102, s77_103, s77_104, s77_105, s77_107, s77_109, s77_111, s77_112, s77_113, s77_114, s77_115, s77_116, s77_117, g0, q1, g1, q2, g2, i8, nI_add, q3, oB_some]
  simp only [s77_118, s77_119, s77_120, s77_121, s77_122, s77_123, s77_124, s77_125, s77_126, s77_128, g3, i1, q4', oB_some, hio4]
  refine Call.mono (p_writer hP4 (nI v)) ?_
  rintro rv h9 ⟨rfl, hP', fr⟩
  have W9 := W4.fr fr (Or.inr (Nat.le_refl _))
  have g9 : ldi h9 423 0 = some (nI (c + 1)) := by rw [W9.g.1, ua_s]
  have e1 : (aWriter S (nI v)).1 = nI c := by rw [e, hc]
  simp only [Option.toList_some, List.cons_append, List.nil_append, s77_131, s77_132, s77_133, s77_134, s77_135, s77_136, g9, oB_some, nI_pred, e1]
  simp only [eq_self, not_true, if_false]
  simp only [s77_139, s77_140, s77_143, s77_144]
  rw [← hc] at R2
  exact ⟨Or.inr (by first | trivial | rfl), by first | trivial | rfl, li_ok (rr.1.trans hl) (by rw [e1]; exact isE_nI (by omega)) (iv_writer hI _) W4 ⟨_, _, _, _, by rw [e, ← hc]; exact R2⟩ hP' fr⟩
theorem aTick_l (S : St) {t : Nat} (h1 : 1 ≤ t) (h2 : t ≤ 99) (c : 1999 < S.ct 1 + t) : aTick S (nI t) = (eL, S) := by
  have e : (nI t).toNatClampNeg = t := nI_cl (by omega)
  unfold aTick
  rw [if_neg (fun q => q (tk_ok h1 h2)), e, if_pos c]
theorem aTick_k (S : St) {t : Nat} (h1 : 1 ≤ t) (h2 : t ≤ 99) (c : ¬ 1999 < S.ct 1 + t) : aTick S (nI t) = (nI (((due (S.ct 1 + t) S.lt).foldl recv (sCT S (va_up S.ct 1 (S.ct 1 + t)))).ct 2) - nI (S.ct 2), sLT ((due (S.ct 1 + t) S.lt).foldl recv (sCT S (va_up S.ct 1 (S.ct 1 + t)))) (S.lt.drop (due (S.ct 1 + t) S.lt).length)) := by
  have e : (nI t).toNatClampNeg = t := nI_cl (by omega)
  unfold aTick
  rw [if_neg (fun q => q (tk_ok h1 h2)), e, if_neg c]
set_option maxHeartbeats 4000000 in
theorem c_acTick (hG : G + 1 ≤ 100) (hl : h.length = 435) (hP : HP h S H 0 tc) (hI : IV G S) (hW : HW h A) (hR : RX G A S u st po P) {t : Nat} {z y way : Int32} (ht1 : 1 ≤ t) (ht2 : t ≤ 99) : Ev none 77 307 [.ref 0, .ref 423, .ref 424, .ref 425, .ref 426, .ref 427, .ref 428, .ref 429, .ref 430, .ref 431, .ref 432, .ref 433, .ref 434, .int z, .int y, .int way, .int (nI t)] [] h (fun rv h' => rv = some (.int 1) ∧ LI (G + 1) h') := by
  have hio := hP.is
  have hct : S.ct 1 < 2000 := hP.wf.2.2.2.1
  have hst := hR.2.2.2.2.2.2.2.1
  have hpo := hR.2.2.2.2.2.2.2.2
  have g2 : ldi h 423 2 = some (nI (S.ct 1)) := by rw [hW.g.2.2.1, hR.1.2.1]
  simp only [s77_307, s77_308, s77_309, s77_310, s77_312, s77_313, s77_316, g2, oB_some, nI_add]
  by_cases c : S.ct 1 + t ≤ 1999
  · rw [if_pos (show nI (S.ct 1 + t) ≤ 1999 from (nI_leI (b := 1999) (by omega) (by decide)).mpr c)]
    have e := aTick_k S ht1 ht2 (by omega)
    simp only [s77_336, s77_337, s77_339, hio]
    refine Call.mono (p_tick hP (nI t)) ?_
    rintro rv h1 ⟨rfl, hP', fr⟩
    have W1 := hW.fr fr (Or.inr (Nat.le_refl _))
    have hPX := hR.2.2.2.2.2.2.1
    have hF : PF u st P := fun q hq => by
      obtain ⟨p1, p2, p3, p4, p5, p6, p7, p8⟩ := hPX.1 q hq
      exact ⟨p1, p2, p3, p4, p5, by omega, by omega⟩
    simp only [Option.toList_some, List.cons_append, List.nil_append, s77_342, s77_343, s77_344, s77_345, s77_347, s77_349, s77_351, s77_353, s77_355, s77_357, s77_359, s77_361]
    refine Call.mono (c_tickT (S := sCT S (va_up S.ct 1 (S.ct 1 + t))) (g1 := S.ct 1) (tk := t) W1 hR.2.2.2.2.2.1 hR.2.2.2.1 hR.2.1 hF hPX.2.1 (by omega) (by omega) hR.1.2.1 hR.1.2.2.1 hR.1.2.2.2.1 hR.1.2.2.2.2.1) ?_
    intro rv h2 q
    obtain ⟨j, rfl, r2, hj, ej, A', W2, RG2⟩ := rx_tick hR c q
    have hP2 := hP'.fr9 r2
    have e1 : (aTick S (nI t)).1 = nI j := by rw [e]; exact ej
    simp only [Option.toList_some, List.cons_append, List.nil_append, s77_364, e1]
    simp only [eq_self, not_true, if_false]
    simp only [s77_367, s77_368, s77_371, s77_372]
    refine ⟨Or.inr (by first | trivial | rfl), by first | trivial | rfl, ?_⟩
    rw [sS_no (by rw [e1]; exact isE_nI (by omega))] at hP2
    refine ⟨(r2.1.trans fr.1).trans hl, _, _, tc, hP2, iv_tick hI _, A', W2, ?_⟩
    rw [e]; exact RG2
  · rw [if_neg (show ¬ nI (S.ct 1 + t) ≤ 1999 from fun q => c ((nI_leI (b := 1999) (by omega) (by decide)).mp q))]
    have e := aTick_l S ht1 ht2 (by omega)
    simp only [s77_319, s77_320, s77_322, hio]
    refine Call.mono (p_tick hP (nI t)) ?_
    rintro rv h1 ⟨rfl, hP', fr⟩
    rw [e]
    simp only [Option.toList_some, List.cons_append, List.nil_append, s77_325, s77_327]
    rw [if_neg (fun q => q rfl)]
    simp only [s77_330, s77_331, s77_334, s77_335]
    exact ⟨Or.inr (by first | trivial | rfl), by first | trivial | rfl, li_ref hl hI hW ⟨u, st, po, P, hR⟩ (by rw [e]) hP' fr⟩
set_option maxHeartbeats 4000000 in
/-- one change: it is as the law says, and what goes together still does -/
theorem c_acts (hG : G + 1 ≤ 100) (hi : LI G h) (z : Int32) : Call 77 [.ref 0, .ref 423, .ref 424, .ref 425, .ref 426, .ref 427, .ref 428, .ref 429, .ref 430, .ref 431, .ref 432, .ref 433, .ref 434, .int z] h (fun rv h' => rv = some (.int 1) ∧ LI (G + 1) h') := by
  obtain ⟨hl, S, H, tc, hP, hI, A, hW, u, st, po, P, hR⟩ := hi
  have h8 : S.ct 0 ≤ 8 := hP.wf.1
  have g0 : ldi h 423 0 = some (nI (S.ct 0)) := by rw [hW.g.1, hR.1.1]
  have cy := c_low (z >>> ((5 : Int32) &&& 31)) (n := 10000000) (by decide) (by decide) h
  have cw := c_low z (n := 32) (by decide) (by decide) h
  obtain ⟨yy, hyd⟩ : ∃ y, y = lowN (z >>> ((5 : Int32) &&& 31)) 10000000 := ⟨_, rfl⟩
  obtain ⟨k, hkd⟩ : ∃ k, k = lowN z 32 := ⟨_, rfl⟩
  have hy : yy < 10000000 := by rw [hyd]; exact lowN_lt _ (by decide)
  have hk : k < 32 := by rw [hkd]; exact lowN_lt _ (by decide)
  rw [← hyd] at cy
  rw [← hkd] at cw
  have cy' : ∀ post, Call 64 [.int (z >>> ((5 : Int32) &&& 31)), .int 10000000] h post = post (some (.int (nI yy))) h := cy
  have cw' : ∀ post, Call 64 [.int z, .int 32] h post = post (some (.int (nI k))) h := cw
  simp only [s77_0, s77_2, s77_3, s77_4, s77_6, s77_e, cy', Option.toList_some, List.cons_append, List.nil_append, s77_9, s77_11, s77_13, s77_15, cw', s77_18, s77_20, s77_22, s77_23]
  have L : ∀ n : Nat, n < 100 → (nI n ≤ nI k ↔ n ≤ k) := fun n hn => nI_leI (by omega) (by omega)
  have rest : (19 ≤ k ∨ 0 < S.ct 0) → Ev none 77 145 [.ref 0, .ref 423, .ref 424, .ref 425, .ref 426, .ref 427, .ref 428, .ref 429, .ref 430, .ref 431, .ref 432, .ref 433, .ref 434, .int z, .int (nI yy), .int (nI k), .long 0] [] h (fun rv h' => rv = some (.int 1) ∧ LI (G + 1) h') := by
    intro hc
    simp only [s77_145, s77_147, s77_149]
    by_cases c19 : 19 ≤ k
    · rw [if_pos (show (19 : Int32) ≤ nI k from (L 19 (by decide)).mpr c19)]
      simp only [s77_206, s77_208, s77_210]
      by_cases c25 : 25 ≤ k
      · rw [if_pos (show (25 : Int32) ≤ nI k from (L 25 (by decide)).mpr c25)]
        simp only [s77_256, s77_258, s77_260]
        by_cases c29 : 29 ≤ k
        · rw [if_pos (show (29 : Int32) ≤ nI k from (L 29 (by decide)).mpr c29)]
          have e5 : nI yy - nI yy / 5 * 5 = nI (yy % 5) := rmN (d := 5) (by omega) (by decide) (by decide)
          simp only [s77_287, s77_288, s77_290, s77_292, s77_293 (show ¬ (5 : Int32) = 0 by decide), e5, s77_294]
          by_cases c5 : nI (yy % 5) = 0
          · rw [if_neg (fun q => q c5)]
            have em : nI yy - nI yy / 99 * 99 = nI (yy % 99) := rmN (d := 99) (by omega) (by decide) (by decide)
            simp only [s77_297, s77_299, s77_303 (show ¬ (99 : Int32) = 0 by decide), em, s77_304, s77_305, i1l]
            have := Nat.mod_lt yy (show 0 < 99 by decide)
            exact c_acTick hG hl hP hI hW hR (by omega) (by omega)
          · rw [if_pos c5]
            simp only [s77_302, s77_303 (show ¬ (5 : Int32) = 0 by decide), e5, s77_304, s77_305, i1l]
            have := Nat.mod_lt yy (show 0 < 5 by decide)
            exact c_acTick hG hl hP hI hW hR (by omega) (by omega)
        · rw [if_neg (show ¬ (29 : Int32) ≤ nI k from fun q => c29 ((L 29 (by decide)).mp q))]
          simp only [s77_263, s77_264, s77_265, s77_266, s77_267, s77_269, s77_271, s77_273, s77_275, s77_277, s77_279, s77_281, s77_283]
          refine Call.mono (c_lettersT hG hl hP hI hW hR hy) ?_
          rintro rv h1 ⟨rfl, q⟩
          simp only [Option.toList_some, List.cons_append, List.nil_append, s77_286]
          exact ⟨Or.inr (by first | trivial | rfl), by first | trivial | rfl, q⟩
      · rw [if_neg (show ¬ (25 : Int32) ≤ nI k from fun q => c25 ((L 25 (by decide)).mp q))]
        simp only [s77_213, s77_214, s77_215, s77_216, s77_217, s77_219, s77_221, s77_223, s77_225, s77_227, s77_229, s77_231]
        have go : ∀ m, m < 3 → Ev none 77 250 [.ref 0, .ref 423, .ref 424, .ref 425, .ref 426, .ref 427, .ref 428, .ref 429, .ref 430, .ref 431, .ref 432, .ref 433, .ref 434, .int z, .int (nI yy), .int (nI k), .long 0] [.int (nI m), .ref 430, .ref 429, .ref 428, .ref 427, .ref 426, .ref 425, .ref 424, .ref 423, .ref 0] h (fun rv h' => rv = some (.int 1) ∧ LI (G + 1) h') := by
          intro m hm
          simp only [s77_250, s77_252]
          refine Call.mono (c_roomsT hG hl hP hI hW hR hy hm) ?_
          rintro rv h1 ⟨rfl, q⟩
          simp only [Option.toList_some, List.cons_append, List.nil_append, s77_255]
          exact ⟨Or.inr (by first | trivial | rfl), by first | trivial | rfl, q⟩
        by_cases c21 : 21 ≤ k
        · rw [if_pos (show (21 : Int32) ≤ nI k from (L 21 (by decide)).mpr c21)]
          simp only [s77_238, s77_240, s77_242]
          by_cases c21' : k = 21
          · rw [if_neg (show ¬ ¬ nI k = 21 from fun q => q (by rw [c21']; rfl))]
            simp only [s77_245, s77_246]
            exact go 1 (by decide)
          · rw [if_pos (show ¬ nI k = 21 from fun q => c21' ((nI_eq (b := 21) (by omega) (by decide)).mp q))]
            simp only [s77_249]
            exact go 2 (by decide)
        · rw [if_neg (show ¬ (21 : Int32) ≤ nI k from fun q => c21 ((L 21 (by decide)).mp q))]
          simp only [s77_234, s77_235]
          exact go 0 (by decide)
    · rw [if_neg (show ¬ (19 : Int32) ≤ nI k from fun q => c19 ((L 19 (by decide)).mp q))]
      have hc0 : 0 < S.ct 0 := hc.resolve_left c19
      have go : ∀ m, m < 4 → Ev none 77 200 [.ref 0, .ref 423, .ref 424, .ref 425, .ref 426, .ref 427, .ref 428, .ref 429, .ref 430, .ref 431, .ref 432, .ref 433, .ref 434, .int z, .int (nI yy), .int (nI k), .long 0] [.int (nI m), .ref 430, .ref 429, .ref 428, .ref 427, .ref 426, .ref 425, .ref 424, .ref 423, .ref 0] h (fun rv h' => rv = some (.int 1) ∧ LI (G + 1) h') := by
        intro m hm
        simp only [s77_200, s77_202]
        refine Call.mono (c_writersT hG hl hP hI hW hR hc0 hy hm) ?_
        rintro rv h1 ⟨rfl, q⟩
        simp only [Option.toList_some, List.cons_append, List.nil_append, s77_205]
        exact ⟨Or.inr (by first | trivial | rfl), by first | trivial | rfl, q⟩
      simp only [s77_152, s77_153, s77_154, s77_155, s77_156, s77_158, s77_160, s77_162, s77_164, s77_166, s77_168, s77_170]
      by_cases c10 : 10 ≤ k
      · rw [if_pos (show (10 : Int32) ≤ nI k from (L 10 (by decide)).mpr c10)]
        simp only [s77_177, s77_179, s77_181]
        by_cases c14 : 14 ≤ k
        · rw [if_pos (show (14 : Int32) ≤ nI k from (L 14 (by decide)).mpr c14)]
          simp only [s77_188, s77_190, s77_192]
          by_cases c16 : 16 ≤ k
          · rw [if_pos (show (16 : Int32) ≤ nI k from (L 16 (by decide)).mpr c16)]
            simp only [s77_199]
            exact go 3 (by decide)
          · rw [if_neg (show ¬ (16 : Int32) ≤ nI k from fun q => c16 ((L 16 (by decide)).mp q))]
            simp only [s77_195, s77_196]
            exact go 2 (by decide)
        · rw [if_neg (show ¬ (14 : Int32) ≤ nI k from fun q => c14 ((L 14 (by decide)).mp q))]
          simp only [s77_184, s77_185]
          exact go 1 (by decide)
      · rw [if_neg (show ¬ (10 : Int32) ≤ nI k from fun q => c10 ((L 10 (by decide)).mp q))]
        simp only [s77_173, s77_174]
        exact go 0 (by decide)
  by_cases c3 : k < 3
  · rw [if_pos (show nI k < 3 from nI_lt (b := 3) c3 (by decide))]
    exact c_acWriter hG hl hP hI hW hR hy
  · rw [if_neg (show ¬ nI k < 3 from nI_nlt (b := 3) (by omega) (by omega))]
    simp only [s77_26, s77_28, s77_30]
    by_cases c19 : 19 ≤ k
    · rw [if_pos (show (19 : Int32) ≤ nI k from (L 19 (by decide)).mpr c19)]
      exact rest (Or.inl c19)
    · rw [if_neg (show ¬ (19 : Int32) ≤ nI k from fun q => c19 ((L 19 (by decide)).mp q))]
      simp only [s77_33, s77_34, s77_35, s77_36, g0, oB_some]
      by_cases c0 : S.ct 0 = 0
      · rw [if_neg (show ¬ ¬ nI (S.ct 0) = 0 from fun q => q (by rw [c0]; rfl))]
        exact c_acWriter hG hl hP hI hW hR hy
      · rw [if_pos (nI_ne0 (by omega) (by omega))]
        exact rest (Or.inr (by omega))
end AC
