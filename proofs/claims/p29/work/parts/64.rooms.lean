/-! The law's rooms: views, dropping, merging. -/
theorem dv6 {a : Nat} (h : a < 2147483648) : nI a / 6 = nI (a / 6) := pk_div (d := 6) (by omega) (by decide) (by decide)
theorem rm6 {a : Nat} (h : a < 2147483648) : nI a - nI a / 6 * 6 = nI (a % 6) := rmN (d := 6) h (by decide) (by decide)
theorem ff_all {p : Nat → Bool} : ∀ n, (∀ i, i < n → p i = true) → ff p n = none := by
  intro n
  induction n with
  | zero => intro _; rfl
  | succ n ih =>
    intro he
    unfold ff
    rw [ih (fun i hi => he i (by omega))]
    dsimp only
    rw [if_pos (he n (Nat.lt_succ_self n))]
theorem ff_at {p : Nat → Bool} {f : Nat} (hf : f < 6) (h1 : ∀ i, i < f → p i = true) (h2 : p f = false) : ff p 6 = some f := by
  have e : ff p (f + 1) = some f := by
    unfold ff
    rw [ff_all f h1]
    dsimp only
    rw [if_neg (by rw [h2]; exact Bool.false_ne_true)]
  have := ff_more e (6 - (f + 1))
  rwa [show f + 1 + (6 - (f + 1)) = 6 by omega] at this
section RO
variable {G : Nat} {h h' : AHp} {S : St} {H H' : List St} {tc : Nat → Int32} {A A' : WA} {u : Nat → Nat} {st po : Nat} {P : List Pt}
theorem views_eq (hU : UX A u st) (hs : st < 100000) (hT : TX S u) : obits (fun v => decide (0 < A 1 v)) 6 = obits S.th 6 := by
  rw [obits_eq (by decide)]
  intro v hv
  rw [hT v hv]
  exact decide_eq_decide.mpr (u_z hU hs hv).2.2
theorem homers_eq (hX : WX A S) (h8 : S.ct 0 ≤ 8) (hh : ∀ w, w < S.ct 0 → S.ho w < 6) {v : Nat} (hv : v < 6) : obits (fun w => decide (A 7 w < 0) && decide (A 6 w = nI v)) (S.ct 0) = homeSet S v := by
  unfold homeSet
  rw [obits_eq (by omega)]
  intro w hw
  have e1 : decide (A 7 w < 0) = !rt S w := by
    have := he_lt hX hw
    cases hr : rt S w with
    | true => rw [hr] at this; simp [this]
    | false => rw [hr] at this; simp [this]
  have e2 : decide (A 6 w = nI v) = decide (S.ho w = v) := by
    rw [(hX w hw).1]
    have := hh w hw
    exact decide_eq_decide.mpr (nI_eq (by omega) (by omega))
  rw [e1, e2, Bool.and_comm]
theorem aMerge_no (S : St) {v i : Nat} (hv : v < 6) (hi : i < 6) (c : S.th v = false ∨ S.th i = false ∨ v = i) : aMerge S (nI v) (nI i) = (eI, S) := by
  unfold aMerge
  rw [ix_nI hv (by decide), ix_nI hi (by decide)]
  dsimp only
  rw [if_pos]
  rcases c with c | c | c
  · exact Or.inl (by rw [c]; exact Bool.false_ne_true)
  · exact Or.inr (Or.inl (by rw [c]; exact Bool.false_ne_true))
  · exact Or.inr (Or.inr c)
theorem aMerge_k (S : St) {v i : Nat} (hv : v < 6) (hi : i < 6) (c1 : S.th v = true) (c2 : S.th i = true) (c3 : ¬ v = i) : aMerge S (nI v) (nI i) = (kCt (S.vk v) (S.vk i), sOT (sVK S (va_up S.vk v (kTk (S.vk v) (S.vk i)))) (S.ot + kCt (S.vk v) (S.vk i))) := by
  unfold aMerge
  rw [ix_nI hv (by decide), ix_nI hi (by decide)]
  dsimp only
  rw [if_neg]
  rintro (q | q | q)
  · exact q c1
  · exact q c2
  · exact c3 q
theorem aView_no (S : St) {v : Nat} (hv : v < 6) (c : S.th v = false) : aView S (nI v) = (eI, S) := by
  unfold aView
  rw [ix_nI hv (by decide)]
  dsimp only
  rw [if_pos (by rw [c]; exact Bool.false_ne_true)]
theorem aView_l (S : St) {v : Nat} (hv : v < 6) (c : S.th v = true) (d : ff S.th 6 = none) : aView S (nI v) = (eL, S) := by
  unfold aView
  rw [ix_nI hv (by decide)]
  dsimp only
  rw [if_neg (fun q => q c), d]
theorem aView_k (S : St) {v f : Nat} (hv : v < 6) (c : S.th v = true) (d : ff S.th 6 = some f) : aView S (nI v) = (nI f, sVK (sTH S (va_up S.th f true)) (va_up S.vk f (S.vk v))) := by
  unfold aView
  rw [ix_nI hv (by decide)]
  dsimp only
  rw [if_neg (fun q => q c), d]
theorem aDrop_no (S : St) {v : Nat} (hv : v < 6) (c : S.th v = false) : aDrop S (nI v) = (eI, S) := by
  unfold aDrop
  rw [ix_nI hv (by decide)]
  dsimp only
  rw [if_pos (by rw [c]; exact Bool.false_ne_true)]
theorem aDrop_n (S : St) {v : Nat} (hv : v < 6) (c : S.th v = true) (d : ¬ homeSet S v = 0 ∨ cntI S.th 6 = 1) : aDrop S (nI v) = (eN, S) := by
  unfold aDrop
  rw [ix_nI hv (by decide)]
  dsimp only
  rw [if_neg (fun q => q c), if_pos d]
theorem aDrop_k (S : St) {v : Nat} (hv : v < 6) (c : S.th v = true) (d : ¬ (¬ homeSet S v = 0 ∨ cntI S.th 6 = 1)) : aDrop S (nI v) = (cntI (va_up S.th v false) 6, sLT (sTH S (va_up S.th v false)) (S.lt.map (loseTo v))) := by
  unfold aDrop
  rw [ix_nI hv (by decide)]
  dsimp only
  rw [if_neg (fun q => q c), if_neg d]
abbrev roL (w y v i : Int32) (a13 a14 : Value) : List Value := [.ref 0, .ref 423, .ref 424, .ref 425, .ref 426, .ref 427, .ref 428, .ref 429, .ref 430, .int w, .int y, .int v, .int i, a13, a14]
set_option maxHeartbeats 4000000 in
theorem c_roView (hG : G + 1 ≤ 100) (hl : h.length = 435) (hP : HP h S H 0 tc) (hI : IV G S) (hW : HW h A) (hR : RX G A S u st po P) {v : Nat} {y i : Int32} {a13 a14 : Value} (hv : v < 6) (ht : S.th v = true) : Ev none 75 85 [.ref 0, .ref 423, .ref 424, .ref 425, .ref 426, .ref 427, .ref 428, .ref 429, .ref 430, .int 0, .int y, .int (nI v), .int i, a13, a14] [] h (fun rv h' => rv = some (.int 1) ∧ LI (G + 1) h') := by
  have hio := hP.is
  have hst := hR.2.2.2.2.2.2.2.1
  simp only [s75_85, s75_87, not_true, if_false]
  simp only [s75_90, s75_91]
  have found : ∀ f, f < 6 → ff S.th 6 = some f → S.th f = false → Ev none 75 113 [.ref 0, .ref 423, .ref 424, .ref 425, .ref 426, .ref 427, .ref 428, .ref 429, .ref 430, .int 0, .int y, .int (nI v), .int i, .int (nI f), a14] [] h (fun rv h' => rv = some (.int 1) ∧ LI (G + 1) h') := by
    intro f hf hff hth
    have hvf : v ≠ f := fun q => by rw [q, hth] at ht; cases ht
    have e := aView_k S hv ht hff
    have R2 := rx_view hR hv hf hth
    have VXs := hR.2.2.2.1
    obtain ⟨h1, e1, W1, r1⟩ := hW.s0 (j := 6) (by decide) (nI (st + 1))
    have e1' : sti h 423 6 (nI (st + 1)) = some h1 := e1
    obtain ⟨h2, e2, W2, r2⟩ := W1.s1 hf (nI (st + 1))
    obtain ⟨h3, e3, W3, r3⟩ := W2.s2 hf (A 2 v)
    have g6 := hW.g.2.2.2.2.2.2.1
    rw [hR.1.2.2.2.2.2.1] at g6
    have g6' := W1.g.2.2.2.2.2.2.1
    rw [ua_s] at g6'
    have k2 := W2.l2 hv
    rw [ua_k (by decide), ua_k (by decide)] at k2
    simp only [s75_113, s75_115, s75_117]
    rw [if_pos (show ¬ nI f = 6 from fun q => by have := (nI_eq (b := 6) (by omega) (by decide)).mp q; omega)]
    simp only [s75_137, s75_138, s75_140, s75_141, s75_142, s75_143, s75_144, s75_145, s75_146, s75_148, s75_149, s75_151, s75_152, s75_153, s75_154, s75_156, s75_157, s75_159, s75_160, s75_161, s75_162, g6, i1, e1', oB_some, g6', e2, k2, e3]
    obtain ⟨B, hB⟩ : ∃ B, B = ua (ua (ua A 0 6 (nI (st + 1))) 1 f (nI (st + 1))) 2 f (A 2 v) := ⟨_, rfl⟩
    rw [← hB] at W3 R2
    have rr := (r1.tr r2).tr r3
    have rd : ∀ n k, k < 8 → mgA B (8 * f) n (S.vk v) 3 (8 * v + k) = (S.vk v).1 k ∧ mgA B (8 * f) n (S.vk v) 4 (8 * v + k) = (S.vk v).2.1 k ∧ mgA B (8 * f) n (S.vk v) 5 (8 * v + k) = (S.vk v).2.2.1 k ∨ 8 < n := by
      intro n k hk
      by_cases hn : n ≤ 8
      · left
        rw [mgA_out (by omega), mgA_out (by omega), mgA_out (by omega), hB, ua_k (by decide), ua_k (by decide), ua_k (by decide), ua_k (by decide), ua_k (by decide), ua_k (by decide), ua_k (by decide), ua_k (by decide), ua_k (by decide)]
        exact (VXs v hv).2 k hk
      · right; omega
    have loop : ∀ dd k (hh : AHp), k + dd = 8 → HW hh (mgA B (8 * f) k (S.vk v)) → Fr 423 435 h hh → Ev none 75 164 [.ref 0, .ref 423, .ref 424, .ref 425, .ref 426, .ref 427, .ref 428, .ref 429, .ref 430, .int 0, .int y, .int (nI v), .int i, .int (nI f), .int (nI k)] [] hh (fun rv h' => rv = some (.int 1) ∧ LI (G + 1) h') := by
      intro dd
      induction dd with
      | zero =>
        intro k hh hk Wk r
        obtain rfl : k = 8 := by omega
        have hPk := hP.fr9 r
        have hiok := hPk.is
        simp only [s75_164, s75_166, s75_168, if_pos (show (8 : Int32) ≤ nI 8 by decide)]
        simp only [s75_243, s75_244, s75_246, hiok]
        refine Call.mono (p_view hPk (nI v)) ?_
        rintro rv h9 ⟨rfl, hP', fr⟩
        have e1 : (aView S (nI v)).1 = nI f := by rw [e]
        simp only [Option.toList_some, List.cons_append, List.nil_append, s75_249, s75_251, e1]
        simp only [eq_self, not_true, if_false]
        simp only [s75_254, s75_255, s75_258, s75_259]
        exact ⟨Or.inr (by first | trivial | rfl), by first | trivial | rfl, li_ok (r.1.trans hl) (by rw [e]; exact isE_nI (by omega)) (iv_view hI _) Wk ⟨_, _, _, _, by rw [e]; exact R2⟩ hP' fr⟩
      | succ dd ih =>
        intro k hh hk Wk r
        have hk8 : k < 8 := by omega
        obtain ⟨q3, q4, q5⟩ := (rd k k hk8).resolve_right (by omega)
        have l3 := Wk.l3 (show 8 * v + k < 48 by omega)
        rw [q3] at l3
        obtain ⟨x1, u1, X1, s1⟩ := Wk.s3 (show 8 * f + k < 48 by omega) ((S.vk v).1 k)
        have l4 := X1.l4 (show 8 * v + k < 48 by omega)
        rw [ua_k (by decide), q4] at l4
        obtain ⟨x2, u2, X2, s2⟩ := X1.s4 (show 8 * f + k < 48 by omega) ((S.vk v).2.1 k)
        have l5 := X2.l5 (show 8 * v + k < 48 by omega)
        rw [ua_k (by decide), ua_k (by decide), q5] at l5
        obtain ⟨x3, u3, X3, s3⟩ := X2.s5 (show 8 * f + k < 48 by omega) ((S.vk v).2.2.1 k)
        have X4 : HW x3 (mgA B (8 * f) (k + 1) (S.vk v)) := X3.to (fun a _ j _ => mgA_s a j)
        simp only [s75_164, s75_166, s75_168, if_neg (le8 hk8)]
        simp only [s75_171, s75_173, s75_175, s75_177, s75_178, s75_180, s75_181, s75_183, s75_185, s75_187, s75_188, s75_190, s75_191, s75_192, s75_193, s75_195, s75_197, s75_199, s75_200, s75_202, s75_203, s75_205, s75_207, s75_209, s75_210, s75_212, s75_213, s75_214, s75_215, s75_217, s75_219, s75_221, s75_222, s75_224, s75_225, s75_227, s75_229, s75_231, s75_232, s75_234, s75_235, s75_236, s75_237, s75_240, i8, nI_add, l3, u1, l4, u2, l5, u3, oB_some, nI_1]
        exact ih (k + 1) x3 (by omega) X4 (((r.tr s1).tr s2).tr s3)
    exact loop 8 0 h3 rfl (W3.to (fun a _ j _ => (mgA_out (by omega)).symm)) rr
  have loop : ∀ dd f, f + dd = 6 → (∀ j, j < f → S.th j = true) → Ev none 75 93 [.ref 0, .ref 423, .ref 424, .ref 425, .ref 426, .ref 427, .ref 428, .ref 429, .ref 430, .int 0, .int y, .int (nI v), .int i, .int (nI f), a14] [] h (fun rv h' => rv = some (.int 1) ∧ LI (G + 1) h') := by
    intro dd
    induction dd with
    | zero =>
      intro f hf hall
      obtain rfl : f = 6 := by omega
      have e := aView_l S hv ht (ff_all 6 hall)
      simp only [s75_93, s75_95, s75_97, if_pos (show (6 : Int32) ≤ nI 6 by decide)]
      simp only [s75_113, s75_115, s75_117]
      rw [if_neg (show ¬ ¬ nI 6 = 6 by decide)]
      simp only [s75_120, s75_121, s75_123, hio]
      refine Call.mono (p_view hP (nI v)) ?_
      rintro rv h9 ⟨rfl, hP', fr⟩
      rw [e]
      simp only [Option.toList_some, List.cons_append, List.nil_append, s75_126, s75_128]
      rw [if_neg (fun q => q rfl)]
      simp only [s75_131, s75_132, s75_135, s75_136]
      exact ⟨Or.inr (by first | trivial | rfl), by first | trivial | rfl, li_ref hl hI hW ⟨u, st, po, P, hR⟩ (by rw [e]) hP' fr⟩
    | succ dd ih =>
      intro f hf hall
      have hf6 : f < 6 := by omega
      have sz := u_z hR.2.1 (by omega) hf6
      have tu := th_u hR.2.2.1 hf6
      have l1 := hW.l1 hf6
      simp only [s75_93, s75_95, s75_97, if_neg (le6 hf6)]
      simp only [s75_100, s75_101, s75_103, s75_104, l1, oB_some]
      by_cases c : A 1 f ≤ 0
      · rw [if_pos c]
        have hth : S.th f = false := tu.2.mpr (sz.2.1.mp c)
        exact found f hf6 (ff_at hf6 hall hth) hth
      · rw [if_neg c]
        simp only [s75_107, s75_110, nI_1]
        refine ih (f + 1) (by omega) (fun j hj => ?_)
        by_cases d : j = f
        · subst d
          refine tu.1.mpr ?_
          have : ¬ u j = 0 := fun q => c (sz.2.1.mpr q)
          omega
        · exact hall j (by omega)
  exact loop 6 0 rfl (fun j hj => absurd hj (Nat.not_lt_zero j))
set_option maxHeartbeats 4000000 in
theorem c_roDrop (hG : G + 1 ≤ 100) (hl : h.length = 435) (hP : HP h S H 0 tc) (hI : IV G S) (hW : HW h A) (hR : RX G A S u st po P) {v : Nat} {y i : Int32} {a13 a14 : Value} (hv : v < 6) (ht : S.th v = true) : Ev none 75 85 [.ref 0, .ref 423, .ref 424, .ref 425, .ref 426, .ref 427, .ref 428, .ref 429, .ref 430, .int 1, .int y, .int (nI v), .int i, a13, a14] [] h (fun rv h' => rv = some (.int 1) ∧ LI (G + 1) h') := by
  have hio := hP.is
  have h8 : S.ct 0 ≤ 8 := hP.wf.1
  have hst := hR.2.2.2.2.2.2.2.1
  have eh := homers_eq hR.2.2.2.2.1 h8 hP.wf.2.1 hv
  have ev := views_eq hR.2.1 (by omega) hR.2.2.1
  simp only [s75_85, s75_87, if_pos (show ¬ (1 : Int32) = 0 by decide)]
  simp only [s75_260, s75_262, s75_263, eq_self, not_true, if_false]
  simp only [s75_266, s75_267, s75_269, s75_271, s75_273, c_homersT hW h8 hR.1.1, eh, Option.toList_some, List.cons_append, List.nil_append, s75_276]
  have refuse : (¬ homeSet S v = 0 ∨ cntI S.th 6 = 1) → Ev none 75 290 [.ref 0, .ref 423, .ref 424, .ref 425, .ref 426, .ref 427, .ref 428, .ref 429, .ref 430, .int 1, .int y, .int (nI v), .int i, a13, a14] [] h (fun rv h' => rv = some (.int 1) ∧ LI (G + 1) h') := by
    intro d
    have e := aDrop_n S hv ht d
    simp only [s75_290, s75_291, s75_293, hio]
    refine Call.mono (p_drop hP (nI v)) ?_
    rintro rv h9 ⟨rfl, hP', fr⟩
    rw [e]
    simp only [Option.toList_some, List.cons_append, List.nil_append, s75_296, s75_298]
    rw [if_neg (fun q => q rfl)]
    simp only [s75_301, s75_302, s75_305, s75_306]
    exact ⟨Or.inr (by first | trivial | rfl), by first | trivial | rfl, li_ref hl hI hW ⟨u, st, po, P, hR⟩ (by rw [e]) hP' fr⟩
  by_cases c1 : ¬ homeSet S v = 0
  · rw [if_pos c1]
    exact refuse (Or.inl c1)
  rw [if_neg c1]
  simp only [s75_279, s75_280, c_viewsT hW, ev, Option.toList_some, List.cons_append, List.nil_append, s75_283, c_ones6, s75_286, s75_287]
  by_cases c2 : cntI S.th 6 = 1
  · rw [if_neg (fun q => q c2)]
    exact refuse (Or.inr c2)
  rw [if_pos c2]
  have e := aDrop_k S hv ht (fun q => q.elim c1 c2)
  have R2 := rx_drop hR (v := v)
  obtain ⟨h1, e1, W1, r1⟩ := hW.s1 hv 0
  have hP1 := hP.fr9 r1
  have hio1 := hP1.is
  simp only [s75_307, s75_308, s75_310, s75_311, s75_312, s75_313, s75_315, e1, oB_some, hio1]
  refine Call.mono (p_drop hP1 (nI v)) ?_
  rintro rv h9 ⟨rfl, hP', fr⟩
  have W9 := W1.fr fr (Or.inr (Nat.le_refl _))
  have ev2 := views_eq R2.2.1 (by omega) R2.2.2.1
  have e1' : (aDrop S (nI v)).1 = cntI (va_up S.th v false) 6 := by rw [e]
  have ev3 : obits (fun x => decide (0 < ua A 1 v 0 1 x)) 6 = obits (va_up S.th v false) 6 := ev2
  simp only [Option.toList_some, List.cons_append, List.nil_append, s75_318, s75_319, c_viewsT W9, ev3, s75_322, c_ones6, s75_325, e1']
  simp only [eq_self, not_true, if_false]
  simp only [s75_328, s75_329, s75_332, s75_333]
  exact ⟨Or.inr (by first | trivial | rfl), by first | trivial | rfl, li_ok (r1.1.trans hl) (by rw [e]; exact cntI_ne (by decide)) (iv_drop hI _) W1 ⟨_, _, _, _, by rw [e]; exact R2⟩ hP' fr⟩
set_option maxHeartbeats 4000000 in
theorem c_roMerge (hG : G + 1 ≤ 100) (hl : h.length = 435) (hP : HP h S H 0 tc) (hI : IV G S) (hW : HW h A) (hR : RX G A S u st po P) {v i : Nat} {y : Int32} {a13 a14 : Value} (hv : v < 6) (hi : i < 6) (ht : S.th v = true) (hti : S.th i = true) : Ev none 75 85 [.ref 0, .ref 423, .ref 424, .ref 425, .ref 426, .ref 427, .ref 428, .ref 429, .ref 430, .int 2, .int y, .int (nI v), .int (nI i), a13, a14] [] h (fun rv h' => rv = some (.int 1) ∧ LI (G + 1) h') := by
  have hio := hP.is
  simp only [s75_85, s75_87, if_pos (show ¬ (2 : Int32) = 0 by decide)]
  simp only [s75_260, s75_262, s75_263, if_pos (show ¬ (2 : Int32) = 1 by decide)]
  simp only [s75_334, s75_336, s75_338]
  by_cases c : v = i
  · have e := aMerge_no S hv hi (Or.inr (Or.inr c))
    rw [if_neg (fun q => q (by rw [c]))]
    simp only [s75_341, s75_342, s75_344, s75_346, hio]
    refine Call.mono (p_merge hP (nI v) (nI i)) ?_
    rintro rv h9 ⟨rfl, hP', fr⟩
    rw [e]
    simp only [Option.toList_some, List.cons_append, List.nil_append, s75_349, s75_351]
    rw [if_neg (fun q => q rfl)]
    simp only [s75_354, s75_355, s75_358, s75_359]
    exact ⟨Or.inr (by first | trivial | rfl), by first | trivial | rfl, li_ref hl hI hW ⟨u, st, po, P, hR⟩ (by rw [e]) hP' fr⟩
  rw [if_pos (fun q => c ((nI_eq (by omega) (by omega)).mp q))]
  have e := aMerge_k S hv hi ht hti c
  have R2 := rx_merge hR hv hi
  have VXs := hR.2.2.2.1
  have l2 := hW.l2 hv
  have l2i := hW.l2 hi
  rw [(VXs v hv).1] at l2
  rw [(VXs i hi).1] at l2i
  obtain ⟨h1, e1, W1, r1⟩ := hW.s2 hv ((S.vk v).2.2.2 ||| (S.vk i).2.2.2)
  have k2 := W1.l2 hv
  rw [ua_s] at k2
  simp only [s75_360, s75_361, s75_363, s75_364, s75_365, s75_366, s75_368, s75_369, s75_370, s75_371, s75_373, s75_375, s75_377, s75_379, s75_381, s75_382, s75_383, s75_385, s75_386, s75_388, s75_390, s75_392, s75_394, s75_396, s75_397, i8, l2, l2i, e1, k2, oB_some]
  refine Call.mono (c_mergeT (s := 3) (K := S.vk v) (O := S.vk i) W1 (show 8 * v + 8 ≤ 48 by omega) (Or.inl ⟨rfl, show 8 * i + 8 ≤ 48 by omega, by omega⟩) rfl (fun w hw => by rw [ua_k (by decide), ua_k (by decide), ua_k (by decide)]; exact (VXs v hv).2 w hw) (fun w hw => by rw [ua_k (by decide), ua_k (by decide), ua_k (by decide)]; exact (VXs i hi).2 w hw)) ?_
  rintro rv h2 ⟨rfl, W2, r2⟩
  have g5 := W2.g.2.2.2.2.2.1
  rw [mg_kp (by decide), hR.1.2.2.2.2.1] at g5
  obtain ⟨h3, e3, W3, r3⟩ := W2.s0 (j := 5) (by decide) (S.ot + kCt (S.vk v) (S.vk i))
  have e3' : sti h2 423 5 (S.ot + kCt (S.vk v) (S.vk i)) = some h3 := e3
  have rr := (r1.tr r2).tr r3
  have hP3 := hP.fr9 rr
  have hio3 := hP3.is
  simp only [Option.toList_some, List.cons_append, List.nil_append, s75_400, s75_402, s75_403, s75_404, s75_405, s75_406, s75_408, s75_409, s75_410, s75_411, s75_413, s75_415, g5, e3', oB_some, hio3]
  refine Call.mono (p_merge hP3 (nI v) (nI i)) ?_
  rintro rv h9 ⟨rfl, hP', fr⟩
  have e1' : (aMerge S (nI v) (nI i)).1 = kCt (S.vk v) (S.vk i) := by rw [e]
  simp only [Option.toList_some, List.cons_append, List.nil_append, s75_418, s75_420, e1']
  simp only [eq_self, not_true, if_false]
  simp only [s75_423, s75_424, s75_427, s75_428]
  exact ⟨Or.inr (by first | trivial | rfl), by first | trivial | rfl, li_ok (rr.1.trans hl) (by rw [e]; exact cntI_ne (by decide)) (iv_merge hI _ _) W3 ⟨_, _, _, _, by rw [e]; exact R2⟩ hP' fr⟩
set_option maxHeartbeats 4000000 in
/-- the law's rooms -/
theorem c_roomsT (hG : G + 1 ≤ 100) (hl : h.length = 435) (hP : HP h S H 0 tc) (hI : IV G S) (hW : HW h A) (hR : RX G A S u st po P) {yy k : Nat} (hy : yy < 10000000) (hk : k < 3) : Call 75 [.ref 0, .ref 423, .ref 424, .ref 425, .ref 426, .ref 427, .ref 428, .ref 429, .ref 430, .int (nI k), .int (nI yy)] h (fun rv h' => rv = some (.int 1) ∧ LI (G + 1) h') := by
  have hio := hP.is
  have hst := hR.2.2.2.2.2.2.2.1
  obtain ⟨v, hvd⟩ : ∃ v, v = yy % 6 := ⟨_, rfl⟩
  obtain ⟨i, hid⟩ : ∃ i, i = yy / 6 % 6 := ⟨_, rfl⟩
  have hv : v < 6 := by rw [hvd]; exact Nat.mod_lt _ (by decide)
  have hi : i < 6 := by rw [hid]; exact Nat.mod_lt _ (by decide)
  have e1 : nI yy - nI yy / 6 * 6 = nI v := by rw [hvd]; exact rm6 (by omega)
  have e2 : nI (yy / 6) - nI (yy / 6) / 6 * 6 = nI i := by rw [hid]; exact rm6 (by omega)
  have e3 : nI yy / 6 = nI (yy / 6) := dv6 (by omega)
  have n6 : ¬ (6 : Int32) = 0 := by decide
  have l1 := hW.l1 hv
  have l1i := hW.l1 hi
  have sz := u_z hR.2.1 (by omega) hv
  have szi := u_z hR.2.1 (by omega) hi
  have tu := th_u hR.2.2.1 hv
  have tui := th_u hR.2.2.1 hi
  simp only [s75_0, s75_2, s75_e, s75_4 n6, e1, s75_5, s75_7, s75_9]
  simp only [s75_11 n6, e3, s75_12, s75_14 n6, e2, s75_15, s75_17, s75_18, s75_20, s75_21, l1, oB_some]
  have bad : (S.th v = false ∨ S.th i = false) → Ev none 75 37 [.ref 0, .ref 423, .ref 424, .ref 425, .ref 426, .ref 427, .ref 428, .ref 429, .ref 430, .int (nI k), .int (nI yy), .int (nI v), .int (nI i), .long 0, .long 0] [] h (fun rv h' => rv = some (.int 1) ∧ LI (G + 1) h') := by
    intro d
    have e := aMerge_no S hv hi (d.elim Or.inl (fun q => Or.inr (Or.inl q)))
    simp only [s75_37, s75_38, s75_40, s75_42, hio]
    refine Call.mono (p_merge hP (nI v) (nI i)) ?_
    rintro rv h1 ⟨rfl, hP1, f1⟩
    rw [sS_same (by rw [e])] at hP1
    rw [e]
    have W1 := hW.fr f1 (Or.inr (Nat.le_refl _))
    have hio1 := hP1.is
    have l1' := W1.l1 hv
    simp only [Option.toList_some, List.cons_append, List.nil_append, s75_45, s75_47]
    rw [if_neg (fun q => q rfl)]
    simp only [s75_50, s75_51, s75_53, s75_54, l1', oB_some]
    by_cases c : 0 < A 1 v
    · rw [if_pos c]
      simp only [s75_79, s75_80, s75_83, s75_84]
      exact ⟨Or.inr (by first | trivial | rfl), by first | trivial | rfl, f1.1.trans hl, S, _, tc, hP1, hI.mono (Nat.le_succ G), A, W1, RG.mono ⟨u, st, po, P, hR⟩⟩
    · rw [if_neg c]
      have tv : S.th v = false := tu.2.mpr (Nat.eq_zero_of_not_pos (fun q => c (sz.2.2.mpr q)))
      have ea := aView_no S hv tv
      have eb := aDrop_no S hv tv
      simp only [s75_57, s75_58, s75_60, hio1]
      refine Call.mono (p_view hP1 (nI v)) ?_
      rintro rv h2 ⟨rfl, hP2, f2⟩
      rw [sS_same (by rw [ea])] at hP2
      rw [ea]
      have hio2 := hP2.is
      simp only [Option.toList_some, List.cons_append, List.nil_append, s75_63, s75_65]
      rw [if_neg (fun q => q rfl)]
      simp only [s75_68, s75_69, s75_71, hio2]
      refine Call.mono (p_drop hP2 (nI v)) ?_
      rintro rv h3 ⟨rfl, hP3, f3⟩
      rw [sS_same (by rw [eb])] at hP3
      rw [eb]
      simp only [Option.toList_some, List.cons_append, List.nil_append, s75_74, s75_76]
      rw [if_neg (fun q => q rfl)]
      simp only [s75_79, s75_80, s75_83, s75_84]
      exact ⟨Or.inr (by first | trivial | rfl), by first | trivial | rfl, ((f1.tr f2).tr f3).1.trans hl, S, _, tc, hP3, hI.mono (Nat.le_succ G), A, (W1.fr f2 (Or.inr (Nat.le_refl _))).fr f3 (Or.inr (Nat.le_refl _)), RG.mono ⟨u, st, po, P, hR⟩⟩
  by_cases c : A 1 v = 0
  · rw [if_pos c]
    exact bad (Or.inl (tu.2.mpr (sz.1.mp c)))
  rw [if_neg c]
  have tv : S.th v = true := tu.1.mpr (by
    have : ¬ u v = 0 := fun q => c (sz.1.mpr q)
    omega)
  simp only [s75_24, s75_25, s75_27, s75_28, l1i, oB_some]
  have hk' : k = 0 ∨ k = 1 ∨ k = 2 := by omega
  by_cases ci : A 1 i = 0
  · rw [if_neg (fun q => q ci)]
    simp only [s75_31, s75_33, s75_34]
    rcases hk' with rfl | rfl | rfl
    · rw [if_pos (show ¬ nI 0 = 2 by decide)]
      exact c_roView hG hl hP hI hW hR hv tv
    · rw [if_pos (show ¬ nI 1 = 2 by decide)]
      exact c_roDrop hG hl hP hI hW hR hv tv
    · rw [if_neg (show ¬ ¬ nI 2 = 2 by decide)]
      exact bad (Or.inr (tui.2.mpr (szi.1.mp ci)))
  · rw [if_pos ci]
    have ti : S.th i = true := tui.1.mpr (by
      have : ¬ u i = 0 := fun q => ci (szi.1.mpr q)
      omega)
    rcases hk' with rfl | rfl | rfl
    · exact c_roView hG hl hP hI hW hR hv tv
    · exact c_roDrop hG hl hP hI hW hR hv tv
    · exact c_roMerge hG hl hP hI hW hR hv hi tv ti
end RO
