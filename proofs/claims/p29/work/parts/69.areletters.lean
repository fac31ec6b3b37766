/-! What the law asks of letters. -/
section ALT
variable {G : Nat} {h h' : AHp} {S : St} {H H' : List St} {tc : Nat → Int32} {A A' : WA} {u : Nat → Nat} {st po : Nat} {P : List Pt}
theorem lA (S : St) (M : Lt) : lAns S M 0 = nI M.1 ∧ lAns S M 1 = nI M.2.1 ∧ lAns S M 2 = nI M.2.2.1 - nI (S.ct 1) ∧ lAns S M 3 = kSum M.2.2.2.2 ∧ lAns S M 4 = bI M.2.2.2.1 := by
  refine ⟨?_, ?_, ?_, ?_, ?_⟩
  · unfold lAns; rw [if_pos rfl]
  · unfold lAns; rw [if_neg (show ¬ (1 : Int32) = 0 by decide), if_pos rfl]
  · unfold lAns; rw [if_neg (show ¬ (2 : Int32) = 0 by decide), if_neg (show ¬ (2 : Int32) = 1 by decide), if_pos rfl]
  · unfold lAns; rw [if_neg (show ¬ (3 : Int32) = 0 by decide), if_neg (show ¬ (3 : Int32) = 1 by decide), if_neg (show ¬ (3 : Int32) = 2 by decide), if_pos rfl]
  · unfold lAns; rw [if_neg (show ¬ (4 : Int32) = 0 by decide), if_neg (show ¬ (4 : Int32) = 1 by decide), if_neg (show ¬ (4 : Int32) = 2 by decide), if_neg (show ¬ (4 : Int32) = 3 by decide)]
theorem al_yes (S : St) {k : Nat} {M : Lt} (hk : S.lt[k]? = some M) (h8 : S.lt.length ≤ 8) {y : Int32} (hy : 0 ≤ y ∧ y ≤ 4) : aLetterOf S (nI k) y = lAns S M y := by
  have hl := (List.getElem?_eq_some_iff.mp hk).1
  unfold aLetterOf
  rw [if_neg (fun q => q.elim (fun q => nI_pos (by omega) q) (fun q => q hy)), ix_nI hl (by omega)]
  dsimp only
  rw [hk]
theorem al_no (S : St) (h8 : S.lt.length ≤ 8) : aLetterOf S (-1) 0 = -2000000001 ∧ aLetterOf S 0 5 = -2000000001 ∧ aLetterOf S (nI S.lt.length) 0 = -2000000004 := by
  refine ⟨?_, ?_, ?_⟩
  · unfold aLetterOf; rw [if_pos (Or.inl (by decide))]; rfl
  · unfold aLetterOf; rw [if_pos (Or.inr (by decide))]; rfl
  · unfold aLetterOf
    rw [if_neg (fun q => q.elim (fun q => nI_pos (by omega) q) (fun q => q (by decide))), ix_at (by omega)]
    rfl
theorem ar_P {k : Nat} {q : Pt} (hq : P[k]? = some q) : ar (pL P) k = q.2.2.2.2.1 := by
  unfold ar
  rw [List.getElem?_map, hq]
  rfl
set_option maxHeartbeats 4000000 in
theorem c_areLetters (hP : HP h S H 0 tc) (hI : IV G S) (hW : HW h A) (hG : G ≤ 100) (hR : RX G A S u st po P) : ∀ post, Call 80 [.ref 0, .ref 423, .ref 424, .ref 431, .ref 432, .ref 433, .ref 434] h post = post (some (.int 1)) h := by
  refine call_eq ?_
  have hio := hP.is
  have hct : S.ct 1 < 2000 := hP.wf.2.2.2.1
  have hst := hR.2.2.2.2.2.2.2.1
  have hpo := hR.2.2.2.2.2.2.2.2
  obtain ⟨l8, l1, lr⟩ := hR.2.2.2.2.2.1
  obtain ⟨pf, pw, pl⟩ := hR.2.2.2.2.2.2.1
  have hlen : S.lt.length = P.length := by rw [pl, srt_len, List.length_map]
  have g1 : ldi h 423 1 = some (nI P.length) := by rw [hW.g.2.1, l1]
  have g2 : ldi h 423 2 = some (nI (S.ct 1)) := by rw [hW.g.2.2.1, hR.1.2.1]
  obtain ⟨ga, -, gl, -⟩ := id hI
  have rks := rk_srt P.length (pL P) (by rw [List.length_map])
  have loop : ∀ d k (a9 a10 : Value), k + d = P.length → Ev none 80 45 [.ref 0, .ref 423, .ref 424, .ref 431, .ref 432, .ref 433, .ref 434, .int 1, .int (nI k), a9, a10] [] h (fun r g => r = some (.int 1) ∧ g = h) := by
    intro d
    induction d with
    | zero =>
      intro k a9 a10 hk
      obtain rfl : k = P.length := by omega
      simp only [s80_45, s80_47, s80_48, s80_49, s80_50, g1, oB_some, if_pos (Int32.le_refl _)]
      simp only [s80_295, s80_297]
      exact ⟨Or.inr (by first | trivial | rfl), by first | trivial | rfl, by first | trivial | rfl⟩
    | succ d ih =>
      intro k a9 a10 hk
      have hkl : k < P.length := by omega
      have z := fun a b => ih (k + 1) a b (by omega)
      have hq : P[k]? = some P[k] := List.getElem?_eq_getElem hkl
      obtain ⟨q, hqd⟩ : ∃ q, q = P[k] := ⟨_, rfl⟩
      rw [← hqd] at hq
      obtain ⟨y0, y1, y2, y3, y4, y5, y6⟩ := lr k q hq
      obtain ⟨f1, f2, f3, f4, f5, f6, f7, f8⟩ := pf q (List.mem_of_getElem? hq)
      have L0 := hW.l8 (show 6 * k < 48 by omega)
      have L1 := hW.l8 (show 6 * k + 1 < 48 by omega)
      have L2 := hW.l8 (show 6 * k + 2 < 48 by omega)
      have L3 := hW.l8 (show 6 * k + 3 < 48 by omega)
      have L4 := hW.l8 (show 6 * k + 4 < 48 by omega)
      rw [y0] at L0
      rw [y1] at L1
      rw [y2] at L2
      rw [y3] at L3
      rw [y4] at L4
      have Lu := hW.l1 f2
      rw [(hR.2.1 _ f2).1] at Lu
      have hu := (hR.2.1 _ f2).2
      have hrk : S.lt[rk (pL P) k]? = some q.2.2 := by
        rw [pl, rks.1 k hkl, List.getElem?_map, hq]; rfl
      have hrl : rk (pL P) k < P.length := by
        have := (List.getElem?_eq_some_iff.mp hrk).1
        omega
      have fin : ∀ a10 : Value, Ev none 80 151 [.ref 0, .ref 423, .ref 424, .ref 431, .ref 432, .ref 433, .ref 434, .int 1, .int (nI k), .int (nI (rk (pL P) k)), a10] [] h (fun r g => r = some (.int 1) ∧ g = h) := by
        intro a10
        obtain ⟨z0, z1, z2, z3, z4⟩ := lA S q.2.2
        have yy0 := (al_yes S hrk (by omega) (y := 0) (by decide)).trans z0
        have yy1 := (al_yes S hrk (by omega) (y := 1) (by decide)).trans z1
        have yy2 := (al_yes S hrk (by omega) (y := 2) (by decide)).trans z2
        have yy3 := (al_yes S hrk (by omega) (y := 3) (by decide)).trans z3
        have yy4 := (al_yes S hrk (by omega) (y := 4) (by decide)).trans z4
        have es := sumK (gl q.2.2 (List.mem_of_getElem? hrk)) (show G ≤ 40000 by omega) (fa := A 9) (fb := A 10) (fc := A 11) (t := 8 * k) y6
        simp only [s80_151, s80_152, s80_154, s80_155, hio, p_letterOf hP, yy0, Option.toList_some, List.cons_append, List.nil_append, s80_158, s80_159, s80_161, s80_163, s80_164, s80_165, i6, L0, oB_some, eq_self, not_true, if_false]
        simp only [s80_168, s80_169, s80_171, s80_172, hio, p_letterOf hP, yy1, Option.toList_some, List.cons_append, List.nil_append, s80_175, s80_176, s80_178, s80_180, s80_181, s80_182, s80_183, s80_184, i6, i1, L1, oB_some, eq_self, not_true, if_false]
        simp only [s80_187, s80_188, s80_190, s80_191, hio, p_letterOf hP, yy2, Option.toList_some, List.cons_append, List.nil_append, s80_194, s80_195, s80_197, s80_199, s80_200, s80_201, s80_202, s80_203, s80_204, s80_205, s80_206, s80_207, i6, i3, L3, g2, oB_some, eq_self, not_true, if_false]
        simp only [s80_210, s80_211, s80_213, s80_214, hio, p_letterOf hP, yy3, Option.toList_some, List.cons_append, List.nil_append, s80_217, s80_219, s80_221, s80_223, s80_225, s80_227, s80_228, i8, c_sumT (hW 9 (by decide)) (hW 10 (by decide)) (hW 11 (by decide)) (show 8 * k + 8 ≤ 64 by omega) (by decide), es, s80_231, eq_self, not_true, if_false]
        have last : Ev none 80 272 [.ref 0, .ref 423, .ref 424, .ref 431, .ref 432, .ref 433, .ref 434, .int 1, .int (nI k), .int (nI (rk (pL P) k)), a10] [] h (fun r g => r = some (.int 1) ∧ g = h) := by
          simp only [s80_272, s80_273, s80_275, s80_276, hio, p_letterOf hP, yy2, Option.toList_some, List.cons_append, List.nil_append, s80_279, pk_sub (show S.ct 1 ≤ q.2.2.2.2.1 by omega)]
          rw [if_neg (show ¬ nI (q.2.2.2.2.1 - S.ct 1) ≤ 0 from nI_nle (by omega) (by omega))]
          simp only [s80_282, s80_283, s80_286, s80_287, s80_289, s80_292, nI_1]
          exact z _ _
        simp only [s80_234, s80_235, s80_237, s80_238, hio, p_letterOf hP, yy4, Option.toList_some, List.cons_append, List.nil_append, s80_241, s80_242, s80_243, s80_245, s80_247, s80_248, s80_249, s80_250, s80_251, s80_252, s80_253, s80_255, s80_257, s80_258, s80_259, s80_260, s80_261, i6, i1, i2, L1, L2, Lu, oB_some]
        by_cases cu : u q.2.2.2.1 = q.1
        · have el : q.2.2.2.2.2.1 = false := by rw [f5]; simp [cu]
          rw [if_neg (fun w => w (by rw [cu]))]
          simp only [s80_264, s80_265, s80_269, el, show bI false = 0 from rfl, eq_self, not_true, if_false]
          exact last
        · have el : q.2.2.2.2.2.1 = true := by rw [f5]; simp [cu]
          rw [if_pos (fun w => cu ((nI_eq (by omega) (by omega)).mp w))]
          simp only [s80_268, s80_269, el, show bI true = 1 from rfl, eq_self, not_true, if_false]
          exact last
      have rank : ∀ d i, i + d = P.length → Ev none 80 64 [.ref 0, .ref 423, .ref 424, .ref 431, .ref 432, .ref 433, .ref 434, .int 1, .int (nI k), .int (nI (cn (bf (pL P) k) i)), .int (nI i)] [] h (fun r g => r = some (.int 1) ∧ g = h) := by
        intro d
        induction d with
        | zero =>
          intro i hi
          obtain rfl : i = P.length := by omega
          simp only [s80_64, s80_66, s80_67, s80_68, s80_69, g1, oB_some, if_pos (Int32.le_refl _)]
          have e : cn (bf (pL P) k) P.length = rk (pL P) k := by unfold rk; rw [List.length_map]
          rw [e]
          exact fin _
        | succ d ih2 =>
          intro i hi
          have hil : i < P.length := by omega
          have zz := ih2 (i + 1) (by omega)
          have ec : cn (bf (pL P) k) (i + 1) = if bf (pL P) k i = true then cn (bf (pL P) k) i + 1 else cn (bf (pL P) k) i := rfl
          rw [ec] at zz
          have hr : P[i]? = some P[i] := List.getElem?_eq_getElem hil
          obtain ⟨r, hrd⟩ : ∃ r, r = P[i] := ⟨_, rfl⟩
          rw [← hrd] at hr
          obtain ⟨-, -, -, x3, x4, -⟩ := lr i r hr
          obtain ⟨-, -, -, -, -, e6, e7, e8⟩ := pf r (List.mem_of_getElem? hr)
          have M3 := hW.l8 (show 6 * i + 3 < 48 by omega)
          have M4 := hW.l8 (show 6 * i + 4 < 48 by omega)
          rw [x3] at M3
          rw [x4] at M4
          have hseq : r.2.1 < q.2.1 ↔ i < k := by
            have pp := List.pairwise_iff_getElem.mp pw
            rcases Nat.lt_trichotomy i k with c | c | c
            · have := pp i k hil hkl c
              rw [← hqd, ← hrd] at this
              exact ⟨fun _ => c, fun _ => this⟩
            · subst c
              have : r = q := by rw [hrd, hqd]
              rw [this]
              exact ⟨fun w => absurd w (Nat.lt_irrefl _), fun w => absurd w (Nat.lt_irrefl _)⟩
            · have := pp k i hkl hil c
              rw [← hqd, ← hrd] at this
              exact ⟨fun w => by omega, fun w => by omega⟩
          have ebf : bf (pL P) k i = true ↔ (r.2.2.2.2.1 < q.2.2.2.2.1 ∨ (r.2.2.2.2.1 = q.2.2.2.2.1 ∧ i < k)) := by
            unfold bf
            rw [ar_P hq, ar_P hr, decide_eq_true_eq]
          simp only [s80_64, s80_66, s80_67, s80_68, s80_69, g1, oB_some, if_neg (nI_ge hil (by omega))]
          simp only [s80_72, s80_74, s80_75, s80_77, s80_79, s80_80, s80_81, s80_82, s80_83, s80_84, s80_86, s80_88, s80_89, s80_90, s80_91, s80_92, i6, i3, M3, L3, oB_some]
          have yes : bf (pL P) k i = true → Ev none 80 137 [.ref 0, .ref 423, .ref 424, .ref 431, .ref 432, .ref 433, .ref 434, .int 1, .int (nI k), .int (nI (cn (bf (pL P) k) i)), .int (nI i)] [.int (nI (cn (bf (pL P) k) i))] h (fun r g => r = some (.int 1) ∧ g = h) := by
            intro c
            rw [if_pos c] at zz
            simp only [s80_137, s80_138, s80_141, s80_142, s80_143, s80_145, s80_148, nI_1]
            exact zz
          have no : ¬ bf (pL P) k i = true → Ev none 80 141 [.ref 0, .ref 423, .ref 424, .ref 431, .ref 432, .ref 433, .ref 434, .int 1, .int (nI k), .int (nI (cn (bf (pL P) k) i)), .int (nI i)] [.int (nI (cn (bf (pL P) k) i))] h (fun r g => r = some (.int 1) ∧ g = h) := by
            intro c
            rw [if_neg c] at zz
            simp only [s80_141, s80_142, s80_143, s80_145, s80_148, Int32.add_zero, nI_1]
            exact zz
          by_cases c1 : r.2.2.2.2.1 < q.2.2.2.2.1
          · rw [if_pos (nI_lt c1 (by omega))]
            exact yes (ebf.mpr (Or.inl c1))
          rw [if_neg (nI_nlt (by omega) (by omega))]
          simp only [s80_95, s80_96, s80_98, s80_100, s80_101, s80_102, s80_103, s80_104, s80_105, s80_107, s80_109, s80_110, s80_111, s80_112, s80_113, i6, i3, M3, L3, oB_some]
          by_cases c2 : r.2.2.2.2.1 = q.2.2.2.2.1
          · rw [if_neg (fun w => w (by rw [c2]))]
            simp only [s80_116, s80_117, s80_119, s80_121, s80_122, s80_123, s80_124, s80_125, s80_126, s80_128, s80_130, s80_131, s80_132, s80_133, s80_134, i6, i4, M4, L4, oB_some]
            by_cases c3 : i < k
            · rw [if_neg (nI_ge (hseq.mpr c3) (by omega))]
              exact yes (ebf.mpr (Or.inr ⟨c2, c3⟩))
            · rw [if_pos (nI_le (by have := hseq.mp; omega) (by omega))]
              exact no (fun w => (ebf.mp w).elim c1 (fun w => c3 w.2))
          · rw [if_pos (fun w => c2 ((nI_eq (by omega) (by omega)).mp w))]
            exact no (fun w => (ebf.mp w).elim c1 (fun w => c2 w.1))
      simp only [s80_45, s80_47, s80_48, s80_49, s80_50, g1, oB_some, if_neg (nI_ge hkl (show P.length < 2 ^ 31 by omega))]
      simp only [s80_53, s80_55, s80_58, s80_59, s80_61, s80_62, n10', if_false]
      exact rank P.length 0 (Nat.zero_add _)
  obtain ⟨w1, w2, w3⟩ := al_no S (by omega)
  rw [hlen] at w3
  simp only [s80_0, s80_1, s80_2, s80_3, s80_e, hio, p_letterOf hP, w1, Option.toList_some, List.cons_append, List.nil_append, s80_6, s80_8, eq_self, not_true, if_false]
  simp only [s80_11, s80_12, s80_13, s80_14, hio, p_letterOf hP, w2, Option.toList_some, List.cons_append, List.nil_append, s80_17, s80_19, eq_self, not_true, if_false]
  simp only [s80_22, s80_23, s80_24, s80_25, s80_26, s80_27, g1, oB_some, hio, p_letterOf hP, w3, Option.toList_some, List.cons_append, List.nil_append, s80_30, s80_32, eq_self, not_true, if_false]
  simp only [s80_35, s80_36, s80_39, s80_40, s80_42, s80_43]
  exact loop P.length 0 _ _ (Nat.zero_add _)
/-- what the law asks of it all -/
theorem c_isSo (hG : G ≤ 100) (hi : LI G h) : ∀ post, Call 81 [.ref 0, .ref 423, .ref 424, .ref 425, .ref 426, .ref 427, .ref 428, .ref 429, .ref 430, .ref 431, .ref 432, .ref 433, .ref 434] h post = post (some (.int 1)) h := by
  refine call_eq ?_
  obtain ⟨hl, S, H, tc, hP, hI, A, hW, u, st, po, P, hR⟩ := hi
  have hio := hP.is
  have h8 : S.ct 0 ≤ 8 := hP.wf.1
  have hst := hR.2.2.2.2.2.2.2.1
  obtain ⟨x0, x2, x3, x4, x5, -, -⟩ := hR.1
  have l1 := hR.2.2.2.2.2.1.2.1
  have hlen : S.lt.length = P.length := by rw [hR.2.2.2.2.2.2.1.2.2, srt_len, List.length_map]
  obtain ⟨g0, g1, g2, g3, g4, g5, -⟩ := hW.g
  rw [x0] at g0
  rw [l1, ← hlen] at g1
  rw [x2] at g2
  rw [x3] at g3
  rw [x4] at g4
  rw [x5] at g5
  have ev := views_eq hR.2.1 (by omega) hR.2.2.1
  have cA : ∀ y, aCount S H 0 y = if y = 0 then cntI S.th 6 else if y = 1 then nI (S.ct 0) else if y = 2 then cntI (fun w => !rt S w) (S.ct 0) else if y = 3 then nI S.lt.length else if y = 4 then nI (S.ct 1) else if y = 5 then nI (S.ct 2) else if y = 6 then nI (S.ct 3) else if y = 7 then S.ot else if y = 8 then nI H.length else if y = 9 then nI 0 else if y = 10 then obits S.th 6 else eI := fun y => rfl
  have k0 : aCount S H 0 0 = cntI S.th 6 := by rw [cA, if_pos rfl]
  have k1 : aCount S H 0 1 = nI (S.ct 0) := by rw [cA, if_neg (show ¬ (1 : Int32) = 0 by decide), if_pos rfl]
  have k2 : aCount S H 0 2 = cntI (fun w => !rt S w) (S.ct 0) := by rw [cA, if_neg (show ¬ (2 : Int32) = 0 by decide), if_neg (show ¬ (2 : Int32) = 1 by decide), if_pos rfl]
  have k3 : aCount S H 0 3 = nI S.lt.length := by rw [cA, if_neg (show ¬ (3 : Int32) = 0 by decide), if_neg (show ¬ (3 : Int32) = 1 by decide), if_neg (show ¬ (3 : Int32) = 2 by decide), if_pos rfl]
  have k4 : aCount S H 0 4 = nI (S.ct 1) := by rw [cA, if_neg (show ¬ (4 : Int32) = 0 by decide), if_neg (show ¬ (4 : Int32) = 1 by decide), if_neg (show ¬ (4 : Int32) = 2 by decide), if_neg (show ¬ (4 : Int32) = 3 by decide), if_pos rfl]
  have k5 : aCount S H 0 5 = nI (S.ct 2) := by rw [cA, if_neg (show ¬ (5 : Int32) = 0 by decide), if_neg (show ¬ (5 : Int32) = 1 by decide), if_neg (show ¬ (5 : Int32) = 2 by decide), if_neg (show ¬ (5 : Int32) = 3 by decide), if_neg (show ¬ (5 : Int32) = 4 by decide), if_pos rfl]
  have k6 : aCount S H 0 6 = nI (S.ct 3) := by rw [cA, if_neg (show ¬ (6 : Int32) = 0 by decide), if_neg (show ¬ (6 : Int32) = 1 by decide), if_neg (show ¬ (6 : Int32) = 2 by decide), if_neg (show ¬ (6 : Int32) = 3 by decide), if_neg (show ¬ (6 : Int32) = 4 by decide), if_neg (show ¬ (6 : Int32) = 5 by decide), if_pos rfl]
  have k7 : aCount S H 0 7 = S.ot := by rw [cA, if_neg (show ¬ (7 : Int32) = 0 by decide), if_neg (show ¬ (7 : Int32) = 1 by decide), if_neg (show ¬ (7 : Int32) = 2 by decide), if_neg (show ¬ (7 : Int32) = 3 by decide), if_neg (show ¬ (7 : Int32) = 4 by decide), if_neg (show ¬ (7 : Int32) = 5 by decide), if_neg (show ¬ (7 : Int32) = 6 by decide), if_pos rfl]
  have k9 : aCount S H 0 9 = 0 := by rw [cA, if_neg (show ¬ (9 : Int32) = 0 by decide), if_neg (show ¬ (9 : Int32) = 1 by decide), if_neg (show ¬ (9 : Int32) = 2 by decide), if_neg (show ¬ (9 : Int32) = 3 by decide), if_neg (show ¬ (9 : Int32) = 4 by decide), if_neg (show ¬ (9 : Int32) = 5 by decide), if_neg (show ¬ (9 : Int32) = 6 by decide), if_neg (show ¬ (9 : Int32) = 7 by decide), if_neg (show ¬ (9 : Int32) = 8 by decide), if_pos rfl]; rfl
  have k10 : aCount S H 0 10 = obits S.th 6 := by rw [cA, if_neg (show ¬ (10 : Int32) = 0 by decide), if_neg (show ¬ (10 : Int32) = 1 by decide), if_neg (show ¬ (10 : Int32) = 2 by decide), if_neg (show ¬ (10 : Int32) = 3 by decide), if_neg (show ¬ (10 : Int32) = 4 by decide), if_neg (show ¬ (10 : Int32) = 5 by decide), if_neg (show ¬ (10 : Int32) = 6 by decide), if_neg (show ¬ (10 : Int32) = 7 by decide), if_neg (show ¬ (10 : Int32) = 8 by decide), if_neg (show ¬ (10 : Int32) = 9 by decide), if_pos rfl]
  have loop : ∀ d w, w + d = S.ct 0 → Ev none 81 6 [.ref 0, .ref 423, .ref 424, .ref 425, .ref 426, .ref 427, .ref 428, .ref 429, .ref 430, .ref 431, .ref 432, .ref 433, .ref 434, .int (cntI (fun w => !rt S w) w), .int (nI w)] [] h (fun r g => r = some (.int 1) ∧ g = h) := by
    intro d
    induction d with
    | zero =>
      intro w hw
      obtain rfl : w = S.ct 0 := by omega
      simp only [s81_6, s81_8, s81_9, s81_10, s81_11, g0, oB_some, if_pos (Int32.le_refl _)]
      simp only [s81_38, s81_39, s81_40, s81_41, s81_42, s81_44, s81_46, s81_48, s81_50, s81_52, c_areViews hG hP hI hW hR, Option.toList_some, List.cons_append, List.nil_append, s81_55, n10', if_false]
      simp only [s81_58, s81_59, s81_60, s81_61, s81_62, s81_64, s81_66, s81_68, c_areWriters hP hW hG hR, Option.toList_some, List.cons_append, List.nil_append, s81_71, n10', if_false]
      simp only [s81_74, s81_75, s81_76, s81_77, s81_79, s81_81, s81_83, s81_85, c_areLetters hP hI hW hG hR, Option.toList_some, List.cons_append, List.nil_append, s81_88, n10', if_false]
      simp only [s81_91, s81_92, s81_93, hio, p_count hP, k0, Option.toList_some, List.cons_append, List.nil_append, s81_96, s81_97, c_viewsT hW, ev, s81_100, c_ones6, s81_103, eq_self, not_true, if_false]
      simp only [s81_106, s81_107, s81_108, hio, p_count hP, k1, Option.toList_some, List.cons_append, List.nil_append, s81_111, s81_112, s81_113, s81_114, g0, oB_some, eq_self, not_true, if_false]
      simp only [s81_117, s81_118, s81_119, hio, p_count hP, k2, Option.toList_some, List.cons_append, List.nil_append, s81_122, s81_124, eq_self, not_true, if_false]
      simp only [s81_127, s81_128, s81_129, hio, p_count hP, k3, Option.toList_some, List.cons_append, List.nil_append, s81_132, s81_133, s81_134, s81_135, g1, oB_some, eq_self, not_true, if_false]
      simp only [s81_138, s81_139, s81_140, hio, p_count hP, k4, Option.toList_some, List.cons_append, List.nil_append, s81_143, s81_144, s81_145, s81_146, g2, oB_some, eq_self, not_true, if_false]
      simp only [s81_149, s81_150, s81_151, hio, p_count hP, k5, Option.toList_some, List.cons_append, List.nil_append, s81_154, s81_155, s81_156, s81_157, g3, oB_some, eq_self, not_true, if_false]
      simp only [s81_160, s81_161, s81_163, hio, p_count hP, k6, Option.toList_some, List.cons_append, List.nil_append, s81_166, s81_167, s81_168, s81_169, g4, oB_some, eq_self, not_true, if_false]
      simp only [s81_172, s81_173, s81_175, hio, p_count hP, k7, Option.toList_some, List.cons_append, List.nil_append, s81_178, s81_179, s81_180, s81_181, g5, oB_some, eq_self, not_true, if_false]
      simp only [s81_184, s81_185, s81_187, hio, p_count hP, k9, Option.toList_some, List.cons_append, List.nil_append, s81_190, not_true, if_false]
      simp only [s81_193, s81_194, s81_196, hio, p_count hP, k10, Option.toList_some, List.cons_append, List.nil_append, s81_199, s81_200, c_viewsT hW, ev, s81_203, eq_self, not_true, if_false]
      simp only [s81_206, s81_207, s81_210, s81_211]
      exact ⟨Or.inr (by first | trivial | rfl), by first | trivial | rfl, by first | trivial | rfl⟩
    | succ d ih =>
      intro w hw
      have hwc : w < S.ct 0 := by omega
      have z := ih (w + 1) (by omega)
      have ez : cntI (fun w => !rt S w) (w + 1) = if (!rt S w) = true then cntI (fun w => !rt S w) w + 1 else cntI (fun w => !rt S w) w := rfl
      rw [ez] at z
      have l7 := hW.l7 (show w < 8 by omega)
      have hge := he_ge hR.2.2.2.2.1 hwc
      simp only [s81_6, s81_8, s81_9, s81_10, s81_11, g0, oB_some, if_neg (nI_ge hwc (by omega))]
      simp only [s81_14, s81_16, s81_18, s81_20, s81_21, l7, oB_some]
      by_cases c : 0 ≤ A 7 w
      · rw [if_pos c]
        have hr : rt S w = true := by rw [← hge]; exact c
        rw [hr] at z
        rw [if_neg (show ¬ (!true) = true by decide)] at z
        simp only [s81_28, s81_29, s81_30, s81_32, s81_35, Int32.add_zero, nI_1]
        exact z
      · rw [if_neg c]
        have hr : rt S w = false := by
          rw [hge] at c
          simpa using c
        rw [hr] at z
        rw [if_pos (show (!false) = true by decide)] at z
        simp only [s81_24, s81_25, s81_28, s81_29, s81_30, s81_32, s81_35, nI_1]
        exact z
  simp only [s81_0, s81_1, s81_3, s81_4, s81_e]
  exact loop (S.ct 0) 0 (Nat.zero_add _)
end ALT
