/-! The law's writers: retiring and moving; the whole method. -/
section RM
variable {G : Nat} {h h' : AHp} {S : St} {H H' : List St} {tc : Nat → Int32} {A A' : WA} {u : Nat → Nat} {st po : Nat} {P : List Pt}
theorem HP.wf {tn : Nat} (hP : HP h S H tn tc) : Wf S := by
  obtain ⟨a, b, hS, -⟩ := hP.f
  exact hS.w
theorem cntI_ext {p q : Nat → Bool} : ∀ n, (∀ i, i < n → p i = q i) → cntI p n = cntI q n := by
  intro n he
  rw [cntI_cn, cntI_cn, cn_ext n he]
theorem cntI_ne {p : Nat → Bool} {n : Nat} (hn : n ≤ 8) : isE (cntI p n) = false := by
  rw [cntI_cn]
  have := cn_le p n
  exact isE_nI (by omega)
theorem aRetire_i (S : St) {w i : Nat} (hw : w < S.ct 0) (h8 : S.ct 0 ≤ 8) (hi : i < S.ct 0) (c : w = i) : aRetire S (nI w) (nI i) = (eI, S) := by
  unfold aRetire
  rw [ix_nI hw (by omega), ix_nI hi (by omega)]
  dsimp only
  rw [if_pos c]
theorem aRetire_n (S : St) {w i : Nat} (hw : w < S.ct 0) (h8 : S.ct 0 ≤ 8) (hi : i < S.ct 0) (c : ¬ w = i) (d : rt S w = true ∨ rt S i = true ∨ ¬ S.ho w = S.ho i) : aRetire S (nI w) (nI i) = (eN, S) := by
  unfold aRetire
  rw [ix_nI hw (by omega), ix_nI hi (by omega)]
  dsimp only
  rw [if_neg c, if_pos d]
theorem aRetire_k (S : St) {w i : Nat} (hw : w < S.ct 0) (h8 : S.ct 0 ≤ 8) (hi : i < S.ct 0) (c : ¬ w = i) (d : ¬ (rt S w = true ∨ rt S i = true ∨ ¬ S.ho w = S.ho i)) : aRetire S (nI w) (nI i) = (cntI (fun u => !rt (sHE S (va_up S.he w (nI i))) u) (S.ct 0), sVK (sHE S (va_up S.he w (nI i))) (va_up S.vk (S.ho w) (kBeq (S.vk (S.ho w)) w i))) := by
  unfold aRetire
  rw [ix_nI hw (by omega), ix_nI hi (by omega)]
  dsimp only
  rw [if_neg c, if_neg d]
set_option maxHeartbeats 4000000 in
theorem c_wrRetire (hl : h.length = 435) (hP : HP h S H 0 tc) (hI : IV G S) (hW : HW h A) (hR : RX G A S u st po P) {w i : Nat} {y a14 : Int32} {v15 v16 : Value} (hw : w < S.ct 0) (hi : i < S.ct 0) : Ev none 74 54 [.ref 0, .ref 423, .ref 424, .ref 425, .ref 426, .ref 427, .ref 428, .ref 429, .ref 430, .int 2, .int y, .int (nI w), .int (nI i), .int (nI (8 * S.ho w)), .int a14, v15, v16] [] h (fun rv h' => rv = some (.int 1) ∧ LI (G + 1) h') := by
  have hio := hP.is
  have h8 : S.ct 0 ≤ 8 := hP.wf.1
  have hv : S.ho w < 6 := hP.wf.2.1 w hw
  have hvi : S.ho i < 6 := hP.wf.2.1 i hi
  have w8 : w < 8 := by omega
  have i8' : i < 8 := by omega
  have l7 := hW.l7 w8
  have l7i := hW.l7 i8'
  have l6 := hW.l6 w8
  have l6i := hW.l6 i8'
  have WXs := hR.2.2.2.2.1
  rw [(WXs w hw).1] at l6
  rw [(WXs i hi).1] at l6i
  have hge := he_ge WXs hw
  have hgei := he_ge WXs hi
  simp only [s74_54, s74_56, s74_57, if_pos (show (2 : Int32) ≤ 2 by decide)]
  simp only [s74_225, s74_227, s74_228, eq_self, not_true, if_false]
  simp only [s74_231, s74_233, s74_235]
  by_cases c : w = i
  · rw [if_neg (fun q => q (by rw [c]))]
    simp only [s74_238, s74_239, s74_241, s74_243, hio]
    refine Call.mono (p_retire hP (nI w) (nI i)) ?_
    rintro rv hh ⟨rfl, hP', f⟩
    have e := aRetire_i S hw h8 hi c
    rw [e]
    simp only [Option.toList_some, List.cons_append, List.nil_append, s74_246, s74_248]
    rw [if_neg (fun q => q rfl)]
    simp only [s74_251, s74_252, s74_255, s74_256]
    exact ⟨Or.inr (by first | trivial | rfl), by first | trivial | rfl, li_ref hl hI hW ⟨u, st, po, P, hR⟩ (by rw [e]) hP' f⟩
  rw [if_pos (fun q => c ((nI_eq (by omega) (by omega)).mp q))]
  have refuse : (rt S w = true ∨ rt S i = true ∨ ¬ S.ho w = S.ho i) → Ev none 74 286 [.ref 0, .ref 423, .ref 424, .ref 425, .ref 426, .ref 427, .ref 428, .ref 429, .ref 430, .int 2, .int y, .int (nI w), .int (nI i), .int (nI (8 * S.ho w)), .int a14, v15, v16] [] h (fun rv h' => rv = some (.int 1) ∧ LI (G + 1) h') := by
    intro d
    have e := aRetire_n S hw h8 hi c d
    simp only [s74_286, s74_287, s74_289, s74_291, hio]
    refine Call.mono (p_retire hP (nI w) (nI i)) ?_
    rintro rv hh ⟨rfl, hP', f⟩
    rw [e]
    simp only [Option.toList_some, List.cons_append, List.nil_append, s74_294, s74_296]
    rw [if_neg (fun q => q rfl)]
    simp only [s74_299, s74_300, s74_303, s74_304]
    exact ⟨Or.inr (by first | trivial | rfl), by first | trivial | rfl, li_ref hl hI hW ⟨u, st, po, P, hR⟩ (by rw [e]) hP' f⟩
  simp only [s74_257, s74_259, s74_261, s74_262, l7, oB_some]
  by_cases c1 : 0 ≤ A 7 w
  · rw [if_pos c1]
    exact refuse (Or.inl (by rw [← hge]; exact c1))
  rw [if_neg c1]
  simp only [s74_265, s74_267, s74_269, s74_270, l7i, oB_some]
  by_cases c2 : 0 ≤ A 7 i
  · rw [if_pos c2]
    exact refuse (Or.inr (Or.inl (by rw [← hgei]; exact c2)))
  rw [if_neg c2]
  simp only [s74_273, s74_275, s74_277, s74_278, s74_280, s74_282, s74_283, l6, l6i, oB_some]
  by_cases c3' : ¬ S.ho w = S.ho i
  · rw [if_neg (fun q => c3' ((nI_eq (by omega) (by omega)).mp q))]
    exact refuse (Or.inr (Or.inr c3'))
  have c3 : S.ho w = S.ho i := Classical.not_not.mp c3'
  rw [if_pos (by rw [c3])]
  rw [hge] at c1
  rw [hgei] at c2
  have d : ¬ (rt S w = true ∨ rt S i = true ∨ ¬ S.ho w = S.ho i) := fun q => q.elim c1 (fun q => q.elim c2 (fun q => q c3))
  have e := aRetire_k S hw h8 hi c d
  have R2 := rx_retire hR hv w8 i8' c
  obtain ⟨v, hvd⟩ : ∃ v, v = S.ho w := ⟨_, rfl⟩
  rw [← hvd] at hv R2 l6 e ⊢
  obtain ⟨h1, e1, W1, r1⟩ := hW.s3 (show 8 * v + i < 48 by omega) (A 3 (8 * v + i) + 1)
  obtain ⟨h2, e2, W2, r2⟩ := W1.s4 (show 8 * v + i < 48 by omega) (A 4 (8 * v + i) + A 4 (8 * v + w))
  obtain ⟨h3, e3, W3, r3⟩ := W2.s5 (show 8 * v + i < 48 by omega) (A 5 (8 * v + i) + A 5 (8 * v + w))
  obtain ⟨h4, e4, W4, r4⟩ := W3.s3 (show 8 * v + w < 48 by omega) 0
  obtain ⟨h5, e5, W5, r5⟩ := W4.s4 (show 8 * v + w < 48 by omega) 0
  obtain ⟨h6, e6, W6, r6⟩ := W5.s5 (show 8 * v + w < 48 by omega) 0
  obtain ⟨h7, e7, W7, r7⟩ := W6.s2 hv (A 2 v ||| ((1 : Int32) <<< (nI w &&& 31)))
  obtain ⟨h9, e9, W9, r9⟩ := W7.s7 w8 (nI i)
  have k1 := hW.l3 (show 8 * v + i < 48 by omega)
  have k2 := W1.l4 (show 8 * v + i < 48 by omega)
  have k2' := W1.l4 (show 8 * v + w < 48 by omega)
  have k3 := W2.l5 (show 8 * v + i < 48 by omega)
  have k3' := W2.l5 (show 8 * v + w < 48 by omega)
  rw [ua_k (by decide)] at k2 k2'
  rw [ua_k (by decide), ua_k (by decide)] at k3 k3'
  have k6 := W6.l6 w8
  have k7 := W6.l2 hv
  rw [ua_k (by decide), ua_k (by decide), ua_k (by decide), ua_k (by decide), ua_k (by decide), ua_k (by decide)] at k6 k7
  rw [(WXs w hw).1, ← hvd] at k6
  have rr := ((((((r1.tr r2).tr r3).tr r4).tr r5).tr r6).tr r7).tr r9
  have hP9 := hP.fr9 rr
  have hio9 := hP9.is
  have W10 : HW h9 (rtA A v w i) := W9
  simp only [s74_305, s74_307, s74_309, s74_311, s74_312, s74_313, s74_314, s74_315, s74_316, s74_317, s74_319, s74_321, s74_323, s74_324, s74_325, s74_326, s74_328, s74_330, s74_332, s74_333, s74_334, s74_335, s74_336, nI_add, k1, e1, k2, k2', e2, oB_some, nI_1]
  simp only [s74_338, s74_340, s74_342, s74_343, s74_344, s74_345, s74_347, s74_349, s74_351, s74_352, s74_353, s74_354, s74_355, s74_357, s74_359, s74_361, s74_362, s74_363, s74_364, s74_366, s74_368, s74_370, s74_371, s74_372, s74_373, s74_375, s74_377, s74_379, s74_380, s74_381, nI_add, k3, k3', e3, e4, e5, e6, oB_some]
  simp only [s74_382, s74_383, s74_385, s74_387, s74_388, s74_389, s74_390, s74_391, s74_393, s74_394, s74_395, s74_396, s74_398, s74_400, s74_402, s74_403, s74_404, s74_406, s74_407, k6, k7, e7, e9, oB_some]
  have hlt : ∀ k, k < S.ct 0 → (rtA A v w i 7 k < 0) = (rt (sHE S (va_up S.he w (nI i))) k = false) := fun k hk => he_lt R2.2.2.2.2.1 hk
  have g0 : ldi h9 423 0 = some (nI (S.ct 0)) := by rw [W10.g.1, R2.1.1]
  obtain ⟨q, hq⟩ : ∃ q : Nat → Bool, q = fun u => !rt (sHE S (va_up S.he w (nI i))) u := ⟨_, rfl⟩
  rw [← hq] at e
  have ne : isE (aRetire S (nI w) (nI i)).1 = false := by rw [e]; exact cntI_ne h8
  have loop : ∀ dd k, k + dd = S.ct 0 → Ev none 74 409 [.ref 0, .ref 423, .ref 424, .ref 425, .ref 426, .ref 427, .ref 428, .ref 429, .ref 430, .int 2, .int y, .int (nI w), .int (nI i), .int (nI (8 * v)), .int a14, .int (cntI q k), .int (nI k)] [] h9 (fun rv h' => rv = some (.int 1) ∧ LI (G + 1) h') := by
    intro dd
    induction dd with
    | zero =>
      intro k hk
      obtain rfl : k = S.ct 0 := by omega
      simp only [s74_409, s74_411, s74_412, s74_413, s74_414, g0, oB_some, if_pos (Int32.le_refl _)]
      simp only [s74_441, s74_442, s74_444, s74_446, hio9]
      refine Call.mono (p_retire hP9 (nI w) (nI i)) ?_
      rintro rv hh ⟨rfl, hP', f⟩
      have e1 : (aRetire S (nI w) (nI i)).1 = cntI q (S.ct 0) := by rw [e]
      simp only [Option.toList_some, List.cons_append, List.nil_append, s74_449, s74_451, e1]
      simp only [eq_self, not_true, if_false]
      simp only [s74_454, s74_455, s74_458, s74_459]
      exact ⟨Or.inr (by first | trivial | rfl), by first | trivial | rfl, li_ok (rr.1.trans hl) ne (iv_retire hI _ _) W10 ⟨u, st, po, P, by rw [e]; exact R2⟩ hP' f⟩
    | succ dd ih =>
      intro k hk
      have z := ih (k + 1) (by omega)
      have ez : cntI q (k + 1) = if q k = true then cntI q k + 1 else cntI q k := rfl
      rw [ez] at z
      have k7' := W10.l7 (show k < 8 by omega)
      have hk' := hlt k (by omega)
      simp only [s74_409, s74_411, s74_412, s74_413, s74_414, g0, oB_some, if_neg (nI_ge (show k < S.ct 0 by omega) (by omega))]
      simp only [s74_417, s74_419, s74_421, s74_423, s74_424, k7', oB_some]
      by_cases cc : 0 ≤ rtA A v w i 7 k
      · rw [if_pos cc]
        have qk : q k = false := by
          rw [hq]
          cases hrt : rt (sHE S (va_up S.he w (nI i))) k with
          | true => show (!rt (sHE S (va_up S.he w (nI i))) k) = false; rw [hrt]; rfl
          | false => rw [hrt] at hk'; exact absurd (hk'.mpr rfl) (Int32.not_lt.mpr cc)
        rw [if_neg (by rw [qk]; exact Bool.false_ne_true)] at z
        simp only [s74_431, s74_432, s74_433, s74_435, s74_438, Int32.add_zero, nI_1]
        exact z
      · rw [if_neg cc]
        have qk : q k = true := by
          rw [hq]
          have : rt (sHE S (va_up S.he w (nI i))) k = false := hk'.mp (Int32.not_le.mp cc)
          show (!rt (sHE S (va_up S.he w (nI i))) k) = true
          rw [this]; rfl
        rw [if_pos qk] at z
        simp only [s74_427, s74_428, s74_431, s74_432, s74_433, s74_435, s74_438, nI_1]
        exact z
  exact loop (S.ct 0) 0 (Nat.zero_add _)
theorem aMove_i (S : St) {w v : Nat} (hw : w < S.ct 0) (h8 : S.ct 0 ≤ 8) (hv : v < 6) (c : S.th v = false) : aMove S (nI w) (nI v) = (eI, S) := by
  unfold aMove
  rw [ix_nI hw (by omega), ix_nI hv (by omega)]
  dsimp only
  rw [if_pos (by rw [c]; exact Bool.false_ne_true)]
theorem aMove_n (S : St) {w v : Nat} (hw : w < S.ct 0) (h8 : S.ct 0 ≤ 8) (hv : v < 6) (c : S.th v = true) (d : rt S w = true ∨ S.ho w = v ∨ ¬ (S.vk v).1 w = (S.vk (S.ho w)).1 w) : aMove S (nI w) (nI v) = (eN, S) := by
  unfold aMove
  rw [ix_nI hw (by omega), ix_nI hv (by omega)]
  dsimp only
  rw [if_neg (fun q => q c), if_pos d]
theorem aMove_k (S : St) {w v : Nat} (hw : w < S.ct 0) (h8 : S.ct 0 ≤ 8) (hv : v < 6) (c : S.th v = true) (d : ¬ (rt S w = true ∨ S.ho w = v ∨ ¬ (S.vk v).1 w = (S.vk (S.ho w)).1 w)) : aMove S (nI w) (nI v) = (nI (S.ho w), sHO S (va_up S.ho w v)) := by
  unfold aMove
  rw [ix_nI hw (by omega), ix_nI hv (by omega)]
  dsimp only
  rw [if_neg (fun q => q c), if_neg d]
theorem th_u (hT : TX S u) {v : Nat} (hv : v < 6) : (S.th v = true ↔ 0 < u v) ∧ (S.th v = false ↔ u v = 0) := by
  rw [hT v hv]
  constructor
  · simp
  · simp
theorem u_z (hU : UX A u st) (hs : st < 100000) {v : Nat} (hv : v < 6) : (A 1 v = 0 ↔ u v = 0) ∧ (A 1 v ≤ 0 ↔ u v = 0) ∧ (0 < A 1 v ↔ 0 < u v) := by
  obtain ⟨e, b⟩ := hU v hv
  rw [e]
  refine ⟨nI_eq (b := 0) (by omega) (by omega), ?_, nI_ltI (a := 0) (by omega) (by omega)⟩
  have := nI_leI (a := u v) (b := 0) (by omega) (by omega)
  refine Iff.trans this ?_
  omega
set_option maxHeartbeats 4000000 in
theorem c_wrMove (hG : G + 1 ≤ 100) (hl : h.length = 435) (hP : HP h S H 0 tc) (hI : IV G S) (hW : HW h A) (hR : RX G A S u st po P) {w yy : Nat} {i12 a14 : Int32} {v15 v16 : Value} (hw : w < S.ct 0) (hy : yy < 10000000) : Ev none 74 54 [.ref 0, .ref 423, .ref 424, .ref 425, .ref 426, .ref 427, .ref 428, .ref 429, .ref 430, .int 3, .int (nI yy), .int (nI w), .int i12, .int (nI (8 * S.ho w)), .int a14, v15, v16] [] h (fun rv h' => rv = some (.int 1) ∧ LI (G + 1) h') := by
  have hio := hP.is
  have h8 : S.ct 0 ≤ 8 := hP.wf.1
  have hv : S.ho w < 6 := hP.wf.2.1 w hw
  have w8 : w < 8 := by omega
  obtain ⟨v, hvd⟩ : ∃ v, v = yy / 64 % 6 := ⟨_, rfl⟩
  have hv6 : v < 6 := by rw [hvd]; exact Nat.mod_lt _ (by decide)
  have em : nI (yy / 64) - nI (yy / 64) / 6 * 6 = nI v := by rw [hvd]; exact rmN (d := 6) (by omega) (by decide) (by decide)
  have l1 := hW.l1 hv6
  have l7 := hW.l7 w8
  have l6 := hW.l6 w8
  have WXs := hR.2.2.2.2.1
  rw [(WXs w hw).1] at l6
  have hge := he_ge WXs hw
  have sz := u_z hR.2.1 (by have := hR.2.2.2.2.2.2.2.1; omega) hv6
  have tu := th_u hR.2.2.1 hv6
  simp only [s74_54, s74_56, s74_57, if_pos (show (2 : Int32) ≤ 3 by decide)]
  simp only [s74_225, s74_227, s74_228, if_pos (show ¬ (3 : Int32) = 2 by decide)]
  simp only [s74_460, s74_462, s74_464 (show ¬ (64 : Int32) = 0 by decide), dv64 (show yy < 2147483648 by omega), s74_465, s74_467 (show ¬ (6 : Int32) = 0 by decide), em, s74_468, s74_470, s74_471, s74_473, s74_474, l1, oB_some]
  by_cases c : A 1 v = 0
  · rw [if_neg (fun q => q c)]
    have e := aMove_i S hw h8 hv6 (tu.2.mpr (sz.1.mp c))
    simp only [s74_477, s74_478, s74_480, s74_482, hio]
    refine Call.mono (p_move hP (nI w) (nI v)) ?_
    rintro rv hh ⟨rfl, hP', f⟩
    rw [e]
    simp only [Option.toList_some, List.cons_append, List.nil_append, s74_485, s74_487]
    rw [if_neg (fun q => q rfl)]
    simp only [s74_490, s74_491, s74_494, s74_495]
    exact ⟨Or.inr (by first | trivial | rfl), by first | trivial | rfl, li_ref hl hI hW ⟨u, st, po, P, hR⟩ (by rw [e]) hP' f⟩
  rw [if_pos c]
  have tt : S.th v = true := tu.1.mpr (by
    have : ¬ u v = 0 := fun q => c (sz.1.mpr q)
    omega)
  have refuse : (rt S w = true ∨ S.ho w = v ∨ ¬ (S.vk v).1 w = (S.vk (S.ho w)).1 w) → Ev none 74 536 [.ref 0, .ref 423, .ref 424, .ref 425, .ref 426, .ref 427, .ref 428, .ref 429, .ref 430, .int 3, .int (nI yy), .int (nI w), .int i12, .int (nI (8 * S.ho w)), .int a14, .int (nI v), v16] [] h (fun rv h' => rv = some (.int 1) ∧ LI (G + 1) h') := by
    intro d
    have e := aMove_n S hw h8 hv6 tt d
    simp only [s74_536, s74_537, s74_539, s74_541, hio]
    refine Call.mono (p_move hP (nI w) (nI v)) ?_
    rintro rv hh ⟨rfl, hP', f⟩
    rw [e]
    simp only [Option.toList_some, List.cons_append, List.nil_append, s74_544, s74_546]
    rw [if_neg (fun q => q rfl)]
    simp only [s74_549, s74_550, s74_553, s74_554]
    exact ⟨Or.inr (by first | trivial | rfl), by first | trivial | rfl, li_ref hl hI hW ⟨u, st, po, P, hR⟩ (by rw [e]) hP' f⟩
  simp only [s74_496, s74_498, s74_500, s74_501, l7, oB_some]
  by_cases c1 : 0 ≤ A 7 w
  · rw [if_pos c1]
    exact refuse (Or.inl (by rw [← hge]; exact c1))
  rw [if_neg c1]
  simp only [s74_504, s74_506, s74_508, s74_509, s74_511, l6, oB_some]
  by_cases c2 : S.ho w = v
  · rw [if_pos (by rw [c2])]
    exact refuse (Or.inr (Or.inl c2))
  rw [if_neg (fun q => c2 ((nI_eq (by omega) (by omega)).mp q))]
  have k1 := hW.l3 (show 8 * v + w < 48 by omega)
  have k2 := hW.l3 (show 8 * S.ho w + w < 48 by omega)
  have VXs := hR.2.2.2.1
  rw [((VXs v hv6).2 w w8).1] at k1
  rw [((VXs _ hv).2 w w8).1] at k2
  simp only [s74_514, s74_516, s74_518, s74_520, s74_521, s74_523, s74_524, s74_525, s74_527, s74_529, s74_531, s74_532, s74_533, i8, nI_add, k1, k2, oB_some]
  by_cases c3' : ¬ (S.vk v).1 w = (S.vk (S.ho w)).1 w
  · rw [if_neg c3']
    exact refuse (Or.inr (Or.inr c3'))
  have c3 : (S.vk v).1 w = (S.vk (S.ho w)).1 w := Classical.not_not.mp c3'
  rw [if_pos c3]
  rw [hge] at c1
  have d : ¬ (rt S w = true ∨ S.ho w = v ∨ ¬ (S.vk v).1 w = (S.vk (S.ho w)).1 w) := fun q => q.elim c1 (fun q => q.elim c2 (fun q => q c3))
  have e := aMove_k S hw h8 hv6 tt d
  have R2 := rx_move hR (v := v) (w := w)
  obtain ⟨h1, e1, W1, r1⟩ := hW.s6 w8 (nI v)
  have hP1 := hP.fr9 r1
  have hio1 := hP1.is
  simp only [s74_555, s74_557, s74_559, s74_560, s74_562, s74_564, s74_566, s74_568, s74_569, s74_570, s74_572, s74_574, l6, e1, oB_some, hio1]
  refine Call.mono (p_move hP1 (nI w) (nI v)) ?_
  rintro rv hh ⟨rfl, hP', f⟩
  have e1' : (aMove S (nI w) (nI v)).1 = nI (S.ho w) := by rw [e]
  simp only [Option.toList_some, List.cons_append, List.nil_append, s74_577, s74_579, e1']
  simp only [eq_self, not_true, if_false]
  simp only [s74_582, s74_583, s74_586, s74_587]
  exact ⟨Or.inr (by first | trivial | rfl), by first | trivial | rfl, li_ok (r1.1.trans hl) (by rw [e]; exact isE_nI (by omega)) (iv_move hI _ _) W1 ⟨u, st, po, P, by rw [e]; exact R2⟩ hP' f⟩
/-- the law's writers -/
theorem c_writersT (hG : G + 1 ≤ 100) (hl : h.length = 435) (hP : HP h S H 0 tc) (hI : IV G S) (hW : HW h A) (hR : RX G A S u st po P) {yy k : Nat} (hc : 0 < S.ct 0) (hy : yy < 10000000) (hk : k < 4) : Call 74 [.ref 0, .ref 423, .ref 424, .ref 425, .ref 426, .ref 427, .ref 428, .ref 429, .ref 430, .int (nI k), .int (nI yy)] h (fun rv h' => rv = some (.int 1) ∧ LI (G + 1) h') := by
  have h8 : S.ct 0 ≤ 8 := hP.wf.1
  have g0 : ldi h 423 0 = some (nI (S.ct 0)) := by rw [hW.g.1, hR.1.1]
  have nz : ¬ nI (S.ct 0) = 0 := nI_ne0 hc (by omega)
  obtain ⟨w, hwd⟩ : ∃ w, w = yy % S.ct 0 := ⟨_, rfl⟩
  obtain ⟨i, hid⟩ : ∃ i, i = yy / 8 % S.ct 0 := ⟨_, rfl⟩
  have hw : w < S.ct 0 := by rw [hwd]; exact Nat.mod_lt _ hc
  have hi : i < S.ct 0 := by rw [hid]; exact Nat.mod_lt _ hc
  have ew : nI yy - nI yy / nI (S.ct 0) * nI (S.ct 0) = nI w := by rw [hwd]; exact rmN (by omega) hc (by omega)
  have ei : nI (yy / 8) - nI (yy / 8) / nI (S.ct 0) * nI (S.ct 0) = nI i := by rw [hid]; exact rmN (by omega) hc (by omega)
  have e3 : nI yy - nI yy / 3 * 3 = nI (yy % 3) := rmN (d := 3) (by omega) (by decide) (by decide)
  have l6 := hW.l6 (show w < 8 by omega)
  rw [(hR.2.2.2.2.1 w hw).1] at l6
  have tail : ∀ am, 1 ≤ am → am ≤ 999 → Ev none 74 54 [.ref 0, .ref 423, .ref 424, .ref 425, .ref 426, .ref 427, .ref 428, .ref 429, .ref 430, .int (nI k), .int (nI yy), .int (nI w), .int (nI i), .int (nI (8 * S.ho w)), .int (nI am), .long 0, .long 0] [] h (fun rv h' => rv = some (.int 1) ∧ LI (G + 1) h') := by
    intro am h1 h2
    have : k = 0 ∨ k = 1 ∨ k = 2 ∨ k = 3 := by omega
    rcases this with rfl | rfl | rfl | rfl
    · exact c_wrAdd hG hl hP hI hW hR hw h1 h2
    · exact c_wrTake hG hl hP hI hW hR hw h1 h2
    · exact c_wrRetire hl hP hI hW hR hw hi
    · exact c_wrMove hG hl hP hI hW hR hw hy
  simp only [s74_0, s74_2, s74_3, s74_4, s74_e, g0, oB_some, s74_5 nz, ew, s74_6, s74_8, s74_10, s74_12 (show ¬ (8 : Int32) = 0 by decide), dv8 (show yy < 2147483648 by omega), s74_13, s74_14, s74_15, s74_16 nz, ei]
  simp only [s74_17, s74_19, s74_21, s74_23, s74_25, s74_26, s74_27, s74_29, s74_30, s74_32, l6, oB_some, i8, s74_34 (show ¬ (64 : Int32) = 0 by decide), dv64 (show yy < 2147483648 by omega), s74_35, s74_37, s74_38 (show ¬ (3 : Int32) = 0 by decide), e3, s74_39]
  by_cases c : nI (yy % 3) = 0
  · rw [if_neg (fun q => q c)]
    have em : nI (yy / 64) - nI (yy / 64) / 999 * 999 = nI (yy / 64 % 999) := rmN (d := 999) (by omega) (by decide) (by decide)
    simp only [s74_42, s74_45, s74_50 (show ¬ (999 : Int32) = 0 by decide), em, s74_51, s74_52, show ∀ a, (1 : Int32) + nI a = nI (1 + a) from fun a => nI_add 1 a]
    have := Nat.mod_lt (yy / 64) (show 0 < 999 by decide)
    exact tail _ (by omega) (by omega)
  · rw [if_pos c]
    have em : nI (yy / 64) - nI (yy / 64) / 20 * 20 = nI (yy / 64 % 20) := rmN (d := 20) (by omega) (by decide) (by decide)
    simp only [s74_48, s74_50 (show ¬ (20 : Int32) = 0 by decide), em, s74_51, s74_52, show ∀ a, (1 : Int32) + nI a = nI (1 + a) from fun a => nI_add 1 a]
    have := Nat.mod_lt (yy / 64) (show 0 < 20 by decide)
    exact tail _ (by omega) (by omega)
end RM
