/-! What the law asks of writers. -/
theorem ix_at {n : Nat} (hn : n < 2147483648) : ix (nI n) n = none := by
  unfold ix
  rw [nI_toInt (by omega), if_neg (by omega)]
theorem ix_m1 (n : Nat) : ix (-1) n = none := by
  unfold ix
  rw [if_neg]
  have e : (-1 : Int32).toInt = -1 := by decide
  rw [e]
  omega
section AWR
variable {G : Nat} {h h' : AHp} {S : St} {H H' : List St} {tc : Nat → Int32} {A A' : WA} {u : Nat → Nat} {st po : Nat} {P : List Pt}
theorem wA (S : St) (w : Nat) : wAns S w 0 = (if rt S w = true then eF else nI (S.ho w)) ∧ wAns S w 1 = (if rt S w = true then eF else (S.vk (S.ho w)).1 w) ∧ wAns S w 2 = (if rt S w = true then S.he w else eF) ∧ wAns S w 3 = (if rt S w = true then eF else upSet S w) ∧ wAns S w 4 = grSet S w ∧ wAns S w 5 = -2000000001 := by
  refine ⟨?_, ?_, ?_, ?_, ?_, ?_⟩
  · unfold wAns; rw [if_pos rfl]
  · unfold wAns; rw [if_neg (show ¬ (1 : Int32) = 0 by decide), if_pos rfl]
  · unfold wAns; rw [if_neg (show ¬ (2 : Int32) = 0 by decide), if_neg (show ¬ (2 : Int32) = 1 by decide), if_pos rfl]
  · unfold wAns; rw [if_neg (show ¬ (3 : Int32) = 0 by decide), if_neg (show ¬ (3 : Int32) = 1 by decide), if_neg (show ¬ (3 : Int32) = 2 by decide), if_pos rfl]
  · unfold wAns; rw [if_neg (show ¬ (4 : Int32) = 0 by decide), if_neg (show ¬ (4 : Int32) = 1 by decide), if_neg (show ¬ (4 : Int32) = 2 by decide), if_neg (show ¬ (4 : Int32) = 3 by decide), if_pos rfl]
  · unfold wAns; rw [if_neg (show ¬ (5 : Int32) = 0 by decide), if_neg (show ¬ (5 : Int32) = 1 by decide), if_neg (show ¬ (5 : Int32) = 2 by decide), if_neg (show ¬ (5 : Int32) = 3 by decide), if_neg (show ¬ (5 : Int32) = 4 by decide)]; rfl
theorem aw_yes (S : St) {w : Nat} (hw : w < S.ct 0) (h8 : S.ct 0 ≤ 8) (y : Int32) : aWriterOf S (nI w) y = wAns S w y := by
  unfold aWriterOf
  rw [ix_nI hw (by omega)]
theorem aw_no (S : St) (h8 : S.ct 0 ≤ 8) : aWriterOf S (nI (S.ct 0)) 0 = -2000000001 ∧ aWriterOf S (-1) 0 = -2000000001 := by
  unfold aWriterOf
  rw [ix_at (by omega), ix_m1]
  exact ⟨rfl, rfl⟩
set_option maxHeartbeats 4000000 in
theorem c_areWriters (hP : HP h S H 0 tc) (hW : HW h A) (hG : G ≤ 100) (hR : RX G A S u st po P) : ∀ post, Call 79 [.ref 0, .ref 423, .ref 424, .ref 425, .ref 426, .ref 429, .ref 430] h post = post (some (.int 1)) h := by
  refine call_eq ?_
  have hio := hP.is
  have h8 : S.ct 0 ≤ 8 := hP.wf.1
  have hst := hR.2.2.2.2.2.2.2.1
  have g0 : ldi h 423 0 = some (nI (S.ct 0)) := by rw [hW.g.1, hR.1.1]
  have loop : ∀ d w (a9 a10 a11 : Value), w + d = S.ct 0 → Ev none 79 34 [.ref 0, .ref 423, .ref 424, .ref 425, .ref 426, .ref 429, .ref 430, .int 1, .int (nI w), a9, a10, a11] [] h (fun r g => r = some (.int 1) ∧ g = h) := by
    intro d
    induction d with
    | zero =>
      intro w a9 a10 a11 hw
      obtain rfl : w = S.ct 0 := by omega
      simp only [s79_34, s79_36, s79_37, s79_38, s79_39, g0, oB_some, if_pos (Int32.le_refl _)]
      simp only [s79_308, s79_310]
      exact ⟨Or.inr (by first | trivial | rfl), by first | trivial | rfl, by first | trivial | rfl⟩
    | succ d ih =>
      intro w a9 a10 a11 hw
      have hwc : w < S.ct 0 := by omega
      have w8 : w < 8 := by omega
      have z := fun a b c => ih (w + 1) a b c (by omega)
      have hv : S.ho w < 6 := hP.wf.2.1 w hwc
      obtain ⟨x6, x7, x8⟩ := hR.2.2.2.2.1 w hwc
      have l6 := hW.l6 w8
      have l7 := hW.l7 w8
      rw [x6] at l6
      have kh := hW.l3 (show 8 * S.ho w + w < 48 by omega)
      rw [((hR.2.2.2.1 _ hv).2 w w8).1] at kh
      have hge := he_ge hR.2.2.2.2.1 hwc
      have hlt := he_lt hR.2.2.2.2.1 hwc
      simp only [s79_34, s79_36, s79_37, s79_38, s79_39, g0, oB_some, if_neg (nI_ge hwc (by omega))]
      simp only [s79_42, s79_44, s79_47, s79_48, s79_50, s79_51, s79_53, s79_54, n10', if_false]
      have fin : ∀ a11 : Value, Ev none 79 150 [.ref 0, .ref 423, .ref 424, .ref 425, .ref 426, .ref 429, .ref 430, .int 1, .int (nI w), .int (grSet S w), .int (upSet S w), a11] [] h (fun r g => r = some (.int 1) ∧ g = h) := by
        intro a11
        obtain ⟨y0, y1, y2, y3, y4, y5⟩ := wA S w
        have yy0 := (aw_yes S hwc h8 0).trans y0
        have yy1 := (aw_yes S hwc h8 1).trans y1
        have yy2 := (aw_yes S hwc h8 2).trans y2
        have yy3 := (aw_yes S hwc h8 3).trans y3
        have yy4 := (aw_yes S hwc h8 4).trans y4
        have yy5 := (aw_yes S hwc h8 5).trans y5
        have ef : eF = -2000000004 := rfl
        simp only [s79_150, s79_152, s79_154, s79_155, l7, oB_some]
        cases hr : rt S w with
        | true =>
          rw [hr] at yy0 yy1 yy2 yy3 hlt
          rw [if_pos rfl] at yy0 yy1 yy2 yy3
          have c : ¬ A 7 w < 0 := by rw [hlt]; exact fun q => by cases q
          rw [if_neg c]
          simp only [s79_158, s79_159, s79_162, s79_163, s79_165, s79_166, s79_168, s79_169, hio, p_writerOf hP, yy0, Option.toList_some, List.cons_append, List.nil_append, s79_172, s79_174, n10', if_false]
          simp only [s79_177, s79_179, s79_187, ef, eq_self, not_true, if_false]
          simp only [s79_190, s79_191, s79_193, s79_194, hio, p_writerOf hP, yy1, Option.toList_some, List.cons_append, List.nil_append, s79_197, s79_199, n10', if_false]
          simp only [s79_202, s79_204, s79_221, ef, eq_self, not_true, if_false]
          simp only [s79_224, s79_225, s79_227, s79_228, hio, p_writerOf hP, yy2, Option.toList_some, List.cons_append, List.nil_append, s79_231, s79_233, n10', if_false]
          simp only [s79_236, s79_238, s79_240, s79_241, l7, x7, oB_some, s79_246, eq_self, not_true, if_false]
          simp only [s79_249, s79_250, s79_252, s79_253, hio, p_writerOf hP, yy3, Option.toList_some, List.cons_append, List.nil_append, s79_256, s79_258, n10', if_false]
          simp only [s79_261, s79_263, s79_268, ef, eq_self, not_true, if_false]
          simp only [s79_271, s79_272, s79_274, s79_275, hio, p_writerOf hP, yy4, Option.toList_some, List.cons_append, List.nil_append, s79_278, s79_280, eq_self, not_true, if_false]
          simp only [s79_283, s79_284, s79_286, s79_287, hio, p_writerOf hP, yy5, Option.toList_some, List.cons_append, List.nil_append, s79_290, s79_292, eq_self, not_true, if_false]
          simp only [s79_295, s79_296, s79_299, s79_300, s79_302, s79_305, nI_1]
          exact z _ _ _
        | false =>
          rw [hr] at yy0 yy1 yy2 yy3 hlt
          rw [if_neg Bool.false_ne_true] at yy0 yy1 yy2 yy3
          have c : A 7 w < 0 := by rw [hlt]
          rw [if_pos c]
          simp only [s79_162, s79_163, s79_165, s79_166, s79_168, s79_169, hio, p_writerOf hP, yy0, Option.toList_some, List.cons_append, List.nil_append, s79_172, s79_174, if_true]
          simp only [s79_182, s79_184, s79_186, s79_187, l6, oB_some, eq_self, not_true, if_false]
          simp only [s79_190, s79_191, s79_193, s79_194, hio, p_writerOf hP, yy1, Option.toList_some, List.cons_append, List.nil_append, s79_197, s79_199, eq_self, if_true]
          simp only [s79_207, s79_209, s79_211, s79_213, s79_215, s79_216, s79_217, s79_219, s79_220, s79_221, l6, i8, nI_add, kh, oB_some, eq_self, not_true, if_false]
          simp only [s79_224, s79_225, s79_227, s79_228, hio, p_writerOf hP, yy2, Option.toList_some, List.cons_append, List.nil_append, s79_231, s79_233, eq_self, if_true]
          simp only [s79_244, s79_246, ef, eq_self, not_true, if_false]
          simp only [s79_249, s79_250, s79_252, s79_253, hio, p_writerOf hP, yy3, Option.toList_some, List.cons_append, List.nil_append, s79_256, s79_258, eq_self, if_true]
          simp only [s79_266, s79_268, eq_self, not_true, if_false]
          simp only [s79_271, s79_272, s79_274, s79_275, hio, p_writerOf hP, yy4, Option.toList_some, List.cons_append, List.nil_append, s79_278, s79_280, eq_self, not_true, if_false]
          simp only [s79_283, s79_284, s79_286, s79_287, hio, p_writerOf hP, yy5, Option.toList_some, List.cons_append, List.nil_append, s79_290, s79_292, eq_self, not_true, if_false]
          simp only [s79_295, s79_296, s79_299, s79_300, s79_302, s79_305, nI_1]
          exact z _ _ _
      have sets : ∀ d v, v + d = 6 → Ev none 79 56 [.ref 0, .ref 423, .ref 424, .ref 425, .ref 426, .ref 429, .ref 430, .int 1, .int (nI w), .int (obits (fun u => S.th u && gb (S.vk u).2.2.2 w) v), .int (obits (fun u => S.th u && decide ((S.vk u).1 w = (S.vk (S.ho w)).1 w)) v), .int (nI v)] [] h (fun r g => r = some (.int 1) ∧ g = h) := by
        intro d
        induction d with
        | zero =>
          intro v hv
          obtain rfl : v = 6 := by omega
          simp only [s79_56, s79_58, s79_60, if_pos (show (6 : Int32) ≤ nI 6 by decide)]
          exact fin _
        | succ d ih2 =>
          intro v hv
          have hv6 : v < 6 := by omega
          have zz := ih2 (v + 1) (by omega)
          have eo1 : obits (fun u => S.th u && gb (S.vk u).2.2.2 w) (v + 1) = if (S.th v && gb (S.vk v).2.2.2 w) = true then obits (fun u => S.th u && gb (S.vk u).2.2.2 w) v ||| ((1 : Int32) <<< (nI v &&& 31)) else obits (fun u => S.th u && gb (S.vk u).2.2.2 w) v := rfl
          have eo2 : obits (fun u => S.th u && decide ((S.vk u).1 w = (S.vk (S.ho w)).1 w)) (v + 1) = if (S.th v && decide ((S.vk v).1 w = (S.vk (S.ho w)).1 w)) = true then obits (fun u => S.th u && decide ((S.vk u).1 w = (S.vk (S.ho w)).1 w)) v ||| ((1 : Int32) <<< (nI v &&& 31)) else obits (fun u => S.th u && decide ((S.vk u).1 w = (S.vk (S.ho w)).1 w)) v := rfl
          rw [eo1, eo2] at zz
          have k1 := hW.l1 hv6
          have k2 := hW.l2 hv6
          obtain ⟨vx1, vx2⟩ := hR.2.2.2.1 v hv6
          rw [vx1] at k2
          have k3 := hW.l3 (show 8 * v + w < 48 by omega)
          rw [(vx2 w w8).1] at k3
          have szi := u_z hR.2.1 (by omega) hv6
          have tui := th_u hR.2.2.1 hv6
          have sb := shr_bit (S.vk v).2.2.2 (show w < 32 by omega)
          simp only [s79_56, s79_58, s79_60, if_neg (le6 hv6)]
          simp only [s79_63, s79_65, s79_66, s79_68, s79_69, k1, oB_some]
          by_cases ci : A 1 v ≤ 0
          · rw [if_pos ci]
            have ti : S.th v = false := tui.2.mpr (szi.2.1.mp ci)
            rw [ti, Bool.false_and, Bool.false_and, if_neg Bool.false_ne_true, if_neg Bool.false_ne_true] at zz
            simp only [s79_92, s79_93, s79_94, s79_96, s79_98, s79_99, s79_101, s79_102, or0, k1, oB_some, if_pos ci]
            simp only [s79_140, s79_141, s79_142, s79_144, s79_147, or0, nI_1]
            exact zz
          · rw [if_neg ci]
            have ti : S.th v = true := tui.1.mpr (by
              have : ¬ u v = 0 := fun q => ci (szi.2.1.mpr q)
              omega)
            rw [ti, Bool.true_and, Bool.true_and] at zz
            have second : ∀ gr : Int32, Ev none 79 56 [.ref 0, .ref 423, .ref 424, .ref 425, .ref 426, .ref 429, .ref 430, .int 1, .int (nI w), .int gr, .int (if decide ((S.vk v).1 w = (S.vk (S.ho w)).1 w) = true then obits (fun u => S.th u && decide ((S.vk u).1 w = (S.vk (S.ho w)).1 w)) v ||| ((1 : Int32) <<< (nI v &&& 31)) else obits (fun u => S.th u && decide ((S.vk u).1 w = (S.vk (S.ho w)).1 w)) v), .int (nI (v + 1))] [] h (fun r g => r = some (.int 1) ∧ g = h) →
                Ev none 79 96 [.ref 0, .ref 423, .ref 424, .ref 425, .ref 426, .ref 429, .ref 430, .int 1, .int (nI w), .int gr, .int (obits (fun u => S.th u && decide ((S.vk u).1 w = (S.vk (S.ho w)).1 w)) v), .int (nI v)] [] h (fun r g => r = some (.int 1) ∧ g = h) := by
              intro gr q
              simp only [s79_96, s79_98, s79_99, s79_101, s79_102, k1, oB_some, if_neg ci]
              simp only [s79_105, s79_107, s79_109, s79_111, s79_112, s79_114, s79_115, s79_116, s79_118, s79_120, s79_122, s79_124, s79_125, s79_126, s79_128, s79_129, s79_130, l6, i8, nI_add, k3, kh, oB_some]
              by_cases ce : (S.vk v).1 w = (S.vk (S.ho w)).1 w
              · rw [if_pos (decide_eq_true ce)] at q
                rw [if_neg (fun q => q ce)]
                simp only [s79_133, s79_134, s79_136, s79_137, s79_140, s79_141, s79_142, s79_144, s79_147, nI_1]
                exact q
              · rw [if_neg (by simp [ce])] at q
                rw [if_pos ce]
                simp only [s79_140, s79_141, s79_142, s79_144, s79_147, or0, nI_1]
                exact q
            simp only [s79_72, s79_73, s79_75, s79_76, s79_78, s79_79, s79_80, s79_81, s79_82, k2, oB_some]
            by_cases cg : (S.vk v).2.2.2 >>> (nI w &&& 31) &&& 1 = 1
            · rw [if_neg (fun q => q cg)]
              rw [if_pos (sb.mp cg)] at zz
              simp only [s79_85, s79_86, s79_88, s79_89, s79_92, s79_93, s79_94]
              exact second _ zz
            · rw [if_pos cg]
              rw [if_neg (fun q => cg (sb.mpr q))] at zz
              simp only [s79_92, s79_93, s79_94, or0]
              exact second _ zz
      exact sets 6 0 rfl
  obtain ⟨w1, w2⟩ := aw_no S h8
  simp only [s79_0, s79_1, s79_2, s79_3, s79_4, s79_5, s79_e, g0, oB_some, hio, p_writerOf hP, w1, Option.toList_some, List.cons_append, List.nil_append, s79_8, s79_10, eq_self, not_true, if_false]
  simp only [s79_13, s79_14, s79_15, s79_16, hio, p_writerOf hP, w2, Option.toList_some, List.cons_append, List.nil_append, s79_19, s79_21, eq_self, not_true, if_false]
  simp only [s79_24, s79_25, s79_28, s79_29, s79_31, s79_32]
  exact loop (S.ct 0) 0 _ _ _ (Nat.zero_add _)
end AWR
