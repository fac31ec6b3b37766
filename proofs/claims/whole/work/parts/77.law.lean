/-! The law: every call of every script. -/
theorem HP.bl {h h' : AHp} {S : St} {H : List St} {tn : Nat} {tc : Nat → Int32} (p : HP h S H tn tc) (b : Bl 423 h h') : HP h' S H tn tc := by
  obtain ⟨a, T, q, C, K, F, g, ⟨b1, b2, b3, b4, b5, b6, b7⟩, c⟩ := p
  refine ⟨a, T, q, C, K, F, g, ⟨b1.at (b _ (by omega)), b2.at (b _ (by omega)), fun j hj => (b3 j hj).at (fun i h1 h2 => b i ?_), b4.at (fun i h1 h2 => b i (by omega)), ⟨b5.1.at (b _ (by omega)), b5.2.1.at (b _ (by omega)), b5.2.2.at (b _ (by omega))⟩, b6, b7⟩, c⟩
  have := ad_b j hj
  omega
theorem idx {L i j : Nat} {k : Int32} (hk : k = nI j) (hL : L ≤ 2048) (h : i + j < L) : ¬ (nI i + k < 0 ∨ L ≤ (nI i + k).toNatClampNeg) := by
  rw [hk, nI_add]
  exact nI_ok h (by omega)
theorem idx0 {L i : Nat} (hL : L ≤ 2048) (h : i < L) : ¬ (nI i < 0 ∨ L ≤ (nI i).toNatClampNeg) := nI_ok h (by omega)
theorem lim {L i : Nat} (hL : L ≤ 2048) (hi : i ≤ 2048) : (Int32.ofNat L - 4 < nI i) = (L < i + 4) := by
  apply propext
  have e : (Int32.ofNat L) = nI L := rfl
  rw [e, i_lt, Int32.toInt_sub, nI_toInt (by omega), nI_toInt (by omega)]
  have e4 : (4 : Int32).toInt = 4 := rfl
  rw [e4, Int.bmod_eq_of_le (by omega) (by omega)]
  omega
section LW
variable {L i G : Nat} {xs : Nat → Int32} {h : AHp} {post : Option Value → AHp → Prop}
/-- what the loop goes on with -/
def Nxt (L : Nat) (xs : Nat → Int32) (i G : Nat) (post : Option Value → AHp → Prop) : Prop := ∀ h, Inv G h → Ev (some (L, xs)) 154 18 [.retAddr 0, .ref 0, .ref 423, .int (nI i)] [] h post
theorem lw_next (nx : Nxt L xs (i + 4) G post) (v : Inv G h) : Ev (some (L, xs)) 154 840 [.retAddr 0, .ref 0, .ref 423, .int (nI i)] [] h post := by
  have e : nI i + 4 = nI (i + 4) := nI_add i 4
  simp only [s154_840, s154_843, e]
  exact nx h v
theorem lw_0 (hG : G + 61 ≤ 40000) (hL : L ≤ 2048) (hi : i + 4 ≤ L) (nx : Nxt L xs (i + 4) (G + 61) post) (v : Inv G h) : Ev (some (L, xs)) 154 152 [.retAddr 0, .ref 0, .ref 423, .int (nI i)] [] h post := by
  have hj1 := idx (k := 1) (j := 1) rfl hL (show i + 1 < L by omega)
  have io := v.o.1
  simp only [s154_152, s154_153, s154_154, s154_155, s154_156, s154_157 hj1, s154_158, io]
  refine Call.mono (pr_writer hG _ h v) ?_
  rintro rv h1 ⟨x, rfl, io2, cm⟩
  simp only [Option.toList_some, List.cons_append, List.nil_append, s154_161, s154_162, s154_163, s154_164, s154_165, s154_166 hj1, s154_167, io2]
  refine Call.mono cm ?_
  rintro rv h2 ⟨rfl, v2⟩
  simp only [Option.toList_some, List.cons_append, List.nil_append, s154_170]
  first | rw [if_pos rfl] | rw [if_pos trivial] | skip
  exact lw_next nx v2
theorem lw_1 (hG : G + 61 ≤ 40000) (hL : L ≤ 2048) (hi : i + 4 ≤ L) (nx : Nxt L xs (i + 4) (G + 61) post) (v : Inv G h) : Ev (some (L, xs)) 154 175 [.retAddr 0, .ref 0, .ref 423, .int (nI i)] [] h post := by
  have hj1 := idx (k := 1) (j := 1) rfl hL (show i + 1 < L by omega)
  have hj2 := idx (k := 2) (j := 2) rfl hL (show i + 2 < L by omega)
  have io := v.o.1
  simp only [s154_175, s154_176, s154_177, s154_178, s154_179, s154_180 hj1, s154_181, s154_182, s154_183, s154_184, s154_185 hj2, s154_186, io]
  refine Call.mono (pr_add hG _ _ h v) ?_
  rintro rv h1 ⟨x, rfl, io2, cm⟩
  simp only [Option.toList_some, List.cons_append, List.nil_append, s154_189, s154_190, s154_191, s154_192, s154_193, s154_194 hj1, s154_195, s154_196, s154_197, s154_198, s154_199 hj2, s154_200, io2]
  refine Call.mono cm ?_
  rintro rv h2 ⟨rfl, v2⟩
  simp only [Option.toList_some, List.cons_append, List.nil_append, s154_203]
  first | rw [if_pos rfl] | rw [if_pos trivial] | skip
  exact lw_next nx v2
theorem lw_2 (hG : G + 61 ≤ 40000) (hL : L ≤ 2048) (hi : i + 4 ≤ L) (nx : Nxt L xs (i + 4) (G + 61) post) (v : Inv G h) : Ev (some (L, xs)) 154 208 [.retAddr 0, .ref 0, .ref 423, .int (nI i)] [] h post := by
  have hj1 := idx (k := 1) (j := 1) rfl hL (show i + 1 < L by omega)
  have hj2 := idx (k := 2) (j := 2) rfl hL (show i + 2 < L by omega)
  have io := v.o.1
  simp only [s154_208, s154_209, s154_210, s154_211, s154_212, s154_213 hj1, s154_214, s154_215, s154_216, s154_217, s154_218 hj2, s154_219, io]
  refine Call.mono (pr_take hG _ _ h v) ?_
  rintro rv h1 ⟨x, rfl, io2, cm⟩
  simp only [Option.toList_some, List.cons_append, List.nil_append, s154_222, s154_223, s154_224, s154_225, s154_226, s154_227 hj1, s154_228, s154_229, s154_230, s154_231, s154_232 hj2, s154_233, io2]
  refine Call.mono cm ?_
  rintro rv h2 ⟨rfl, v2⟩
  simp only [Option.toList_some, List.cons_append, List.nil_append, s154_236]
  first | rw [if_pos rfl] | rw [if_pos trivial] | skip
  exact lw_next nx v2
theorem lw_3 (hG : G + 61 ≤ 40000) (hL : L ≤ 2048) (hi : i + 4 ≤ L) (nx : Nxt L xs (i + 4) (G + 61) post) (v : Inv G h) : Ev (some (L, xs)) 154 241 [.retAddr 0, .ref 0, .ref 423, .int (nI i)] [] h post := by
  have hj1 := idx (k := 1) (j := 1) rfl hL (show i + 1 < L by omega)
  have hj2 := idx (k := 2) (j := 2) rfl hL (show i + 2 < L by omega)
  have io := v.o.1
  simp only [s154_241, s154_242, s154_243, s154_244, s154_245, s154_246 hj1, s154_247, s154_248, s154_249, s154_250, s154_251 hj2, s154_252, io]
  refine Call.mono (pr_retire hG _ _ h v) ?_
  rintro rv h1 ⟨x, rfl, io2, cm⟩
  simp only [Option.toList_some, List.cons_append, List.nil_append, s154_255, s154_256, s154_257, s154_258, s154_259, s154_260 hj1, s154_261, s154_262, s154_263, s154_264, s154_265 hj2, s154_266, io2]
  refine Call.mono cm ?_
  rintro rv h2 ⟨rfl, v2⟩
  simp only [Option.toList_some, List.cons_append, List.nil_append, s154_269]
  first | rw [if_pos rfl] | rw [if_pos trivial] | skip
  exact lw_next nx v2
theorem lw_4 (hG : G + 61 ≤ 40000) (hL : L ≤ 2048) (hi : i + 4 ≤ L) (nx : Nxt L xs (i + 4) (G + 61) post) (v : Inv G h) : Ev (some (L, xs)) 154 274 [.retAddr 0, .ref 0, .ref 423, .int (nI i)] [] h post := by
  have hj1 := idx (k := 1) (j := 1) rfl hL (show i + 1 < L by omega)
  have hj2 := idx (k := 2) (j := 2) rfl hL (show i + 2 < L by omega)
  have io := v.o.1
  simp only [s154_274, s154_275, s154_276, s154_277, s154_278, s154_279 hj1, s154_280, s154_281, s154_282, s154_283, s154_284 hj2, s154_285, io]
  refine Call.mono (pr_move hG _ _ h v) ?_
  rintro rv h1 ⟨x, rfl, io2, cm⟩
  simp only [Option.toList_some, List.cons_append, List.nil_append, s154_288, s154_289, s154_290, s154_291, s154_292, s154_293 hj1, s154_294, s154_295, s154_296, s154_297, s154_298 hj2, s154_299, io2]
  refine Call.mono cm ?_
  rintro rv h2 ⟨rfl, v2⟩
  simp only [Option.toList_some, List.cons_append, List.nil_append, s154_302]
  first | rw [if_pos rfl] | rw [if_pos trivial] | skip
  exact lw_next nx v2
theorem lw_5 (hG : G + 61 ≤ 40000) (hL : L ≤ 2048) (hi : i + 4 ≤ L) (nx : Nxt L xs (i + 4) (G + 61) post) (v : Inv G h) : Ev (some (L, xs)) 154 307 [.retAddr 0, .ref 0, .ref 423, .int (nI i)] [] h post := by
  have hj1 := idx (k := 1) (j := 1) rfl hL (show i + 1 < L by omega)
  have io := v.o.1
  simp only [s154_307, s154_308, s154_309, s154_310, s154_311, s154_312 hj1, s154_313, io]
  refine Call.mono (pr_view hG _ h v) ?_
  rintro rv h1 ⟨x, rfl, io2, cm⟩
  simp only [Option.toList_some, List.cons_append, List.nil_append, s154_316, s154_317, s154_318, s154_319, s154_320, s154_321 hj1, s154_322, io2]
  refine Call.mono cm ?_
  rintro rv h2 ⟨rfl, v2⟩
  simp only [Option.toList_some, List.cons_append, List.nil_append, s154_325]
  first | rw [if_pos rfl] | rw [if_pos trivial] | skip
  exact lw_next nx v2
theorem lw_6 (hG : G + 61 ≤ 40000) (hL : L ≤ 2048) (hi : i + 4 ≤ L) (nx : Nxt L xs (i + 4) (G + 61) post) (v : Inv G h) : Ev (some (L, xs)) 154 330 [.retAddr 0, .ref 0, .ref 423, .int (nI i)] [] h post := by
  have hj1 := idx (k := 1) (j := 1) rfl hL (show i + 1 < L by omega)
  have io := v.o.1
  simp only [s154_330, s154_331, s154_332, s154_333, s154_334, s154_335 hj1, s154_336, io]
  refine Call.mono (pr_drop hG _ h v) ?_
  rintro rv h1 ⟨x, rfl, io2, cm⟩
  simp only [Option.toList_some, List.cons_append, List.nil_append, s154_339, s154_340, s154_341, s154_342, s154_343, s154_344 hj1, s154_345, io2]
  refine Call.mono cm ?_
  rintro rv h2 ⟨rfl, v2⟩
  simp only [Option.toList_some, List.cons_append, List.nil_append, s154_348]
  first | rw [if_pos rfl] | rw [if_pos trivial] | skip
  exact lw_next nx v2
theorem lw_7 (hG : G + 61 ≤ 40000) (hL : L ≤ 2048) (hi : i + 4 ≤ L) (nx : Nxt L xs (i + 4) (G + 61) post) (v : Inv G h) : Ev (some (L, xs)) 154 353 [.retAddr 0, .ref 0, .ref 423, .int (nI i)] [] h post := by
  have hj1 := idx (k := 1) (j := 1) rfl hL (show i + 1 < L by omega)
  have hj2 := idx (k := 2) (j := 2) rfl hL (show i + 2 < L by omega)
  have io := v.o.1
  simp only [s154_353, s154_354, s154_355, s154_356, s154_357, s154_358 hj1, s154_359, s154_360, s154_361, s154_362, s154_363 hj2, s154_364, io]
  refine Call.mono (pr_merge hG _ _ h v) ?_
  rintro rv h1 ⟨x, rfl, io2, cm⟩
  simp only [Option.toList_some, List.cons_append, List.nil_append, s154_367, s154_368, s154_369, s154_370, s154_371, s154_372 hj1, s154_373, s154_374, s154_375, s154_376, s154_377 hj2, s154_378, io2]
  refine Call.mono cm ?_
  rintro rv h2 ⟨rfl, v2⟩
  simp only [Option.toList_some, List.cons_append, List.nil_append, s154_381]
  first | rw [if_pos rfl] | rw [if_pos trivial] | skip
  exact lw_next nx v2
theorem lw_8 (hG : G + 61 ≤ 40000) (hL : L ≤ 2048) (hi : i + 4 ≤ L) (nx : Nxt L xs (i + 4) (G + 61) post) (v : Inv G h) : Ev (some (L, xs)) 154 386 [.retAddr 0, .ref 0, .ref 423, .int (nI i)] [] h post := by
  have hj1 := idx (k := 1) (j := 1) rfl hL (show i + 1 < L by omega)
  have hj2 := idx (k := 2) (j := 2) rfl hL (show i + 2 < L by omega)
  have hj3 := idx (k := 3) (j := 3) rfl hL (show i + 3 < L by omega)
  have io := v.o.1
  simp only [s154_386, s154_387, s154_388, s154_389, s154_390, s154_391 hj1, s154_392, s154_393, s154_394, s154_395, s154_396 hj2, s154_397, s154_398, s154_399, s154_400, s154_401 hj3, s154_402, io]
  refine Call.mono (pr_post hG _ _ _ h v) ?_
  rintro rv h1 ⟨x, rfl, io2, cm⟩
  simp only [Option.toList_some, List.cons_append, List.nil_append, s154_405, s154_406, s154_407, s154_408, s154_409, s154_410 hj1, s154_411, s154_412, s154_413, s154_414, s154_415 hj2, s154_416, s154_417, s154_418, s154_419, s154_420 hj3, s154_421, io2]
  refine Call.mono cm ?_
  rintro rv h2 ⟨rfl, v2⟩
  simp only [Option.toList_some, List.cons_append, List.nil_append, s154_424]
  first | rw [if_pos rfl] | rw [if_pos trivial] | skip
  exact lw_next nx v2
theorem lw_9 (hG : G + 61 ≤ 40000) (hL : L ≤ 2048) (hi : i + 4 ≤ L) (nx : Nxt L xs (i + 4) (G + 61) post) (v : Inv G h) : Ev (some (L, xs)) 154 429 [.retAddr 0, .ref 0, .ref 423, .int (nI i)] [] h post := by
  have hj1 := idx (k := 1) (j := 1) rfl hL (show i + 1 < L by omega)
  have io := v.o.1
  simp only [s154_429, s154_430, s154_431, s154_432, s154_433, s154_434 hj1, s154_435, io]
  refine Call.mono (pr_tick hG _ h v) ?_
  rintro rv h1 ⟨x, rfl, io2, cm⟩
  simp only [Option.toList_some, List.cons_append, List.nil_append, s154_438, s154_439, s154_440, s154_441, s154_442, s154_443 hj1, s154_444, io2]
  refine Call.mono cm ?_
  rintro rv h2 ⟨rfl, v2⟩
  simp only [Option.toList_some, List.cons_append, List.nil_append, s154_447]
  first | rw [if_pos rfl] | rw [if_pos trivial] | skip
  exact lw_next nx v2
theorem lw_10 (hG : G + 61 ≤ 40000) (hL : L ≤ 2048) (hi : i + 4 ≤ L) (nx : Nxt L xs (i + 4) (G + 61) post) (v : Inv G h) : Ev (some (L, xs)) 154 452 [.retAddr 0, .ref 0, .ref 423, .int (nI i)] [] h post := by
  have hj1 := idx (k := 1) (j := 1) rfl hL (show i + 1 < L by omega)
  have hj2 := idx (k := 2) (j := 2) rfl hL (show i + 2 < L by omega)
  have io := v.o.1
  simp only [s154_452, s154_453, s154_454, s154_455, s154_456, s154_457 hj1, s154_458, s154_459, s154_460, s154_461, s154_462 hj2, s154_463, io]
  refine Call.mono (pr_viewOf hG _ _ h v) ?_
  rintro rv h1 ⟨x, rfl, io2, cm⟩
  simp only [Option.toList_some, List.cons_append, List.nil_append, s154_466, s154_467, s154_468, s154_469, s154_470, s154_471 hj1, s154_472, s154_473, s154_474, s154_475, s154_476 hj2, s154_477, io2]
  refine Call.mono cm ?_
  rintro rv h2 ⟨rfl, v2⟩
  simp only [Option.toList_some, List.cons_append, List.nil_append, s154_480]
  first | rw [if_pos rfl] | rw [if_pos trivial] | skip
  exact lw_next nx v2
theorem lw_11 (hG : G + 61 ≤ 40000) (hL : L ≤ 2048) (hi : i + 4 ≤ L) (nx : Nxt L xs (i + 4) (G + 61) post) (v : Inv G h) : Ev (some (L, xs)) 154 485 [.retAddr 0, .ref 0, .ref 423, .int (nI i)] [] h post := by
  have hj1 := idx (k := 1) (j := 1) rfl hL (show i + 1 < L by omega)
  have hj2 := idx (k := 2) (j := 2) rfl hL (show i + 2 < L by omega)
  have hj3 := idx (k := 3) (j := 3) rfl hL (show i + 3 < L by omega)
  have io := v.o.1
  simp only [s154_485, s154_486, s154_487, s154_488, s154_489, s154_490 hj1, s154_491, s154_492, s154_493, s154_494, s154_495 hj2, s154_496, s154_497, s154_498, s154_499, s154_500 hj3, s154_501, io]
  refine Call.mono (pr_partOf hG _ _ _ h v) ?_
  rintro rv h1 ⟨x, rfl, io2, cm⟩
  simp only [Option.toList_some, List.cons_append, List.nil_append, s154_504, s154_505, s154_506, s154_507, s154_508, s154_509 hj1, s154_510, s154_511, s154_512, s154_513, s154_514 hj2, s154_515, s154_516, s154_517, s154_518, s154_519 hj3, s154_520, io2]
  refine Call.mono cm ?_
  rintro rv h2 ⟨rfl, v2⟩
  simp only [Option.toList_some, List.cons_append, List.nil_append, s154_523]
  first | rw [if_pos rfl] | rw [if_pos trivial] | skip
  exact lw_next nx v2
theorem lw_12 (hG : G + 61 ≤ 40000) (hL : L ≤ 2048) (hi : i + 4 ≤ L) (nx : Nxt L xs (i + 4) (G + 61) post) (v : Inv G h) : Ev (some (L, xs)) 154 528 [.retAddr 0, .ref 0, .ref 423, .int (nI i)] [] h post := by
  have hj1 := idx (k := 1) (j := 1) rfl hL (show i + 1 < L by omega)
  have hj2 := idx (k := 2) (j := 2) rfl hL (show i + 2 < L by omega)
  have io := v.o.1
  simp only [s154_528, s154_529, s154_530, s154_531, s154_532, s154_533 hj1, s154_534, s154_535, s154_536, s154_537, s154_538 hj2, s154_539, io]
  refine Call.mono (pr_writerOf hG _ _ h v) ?_
  rintro rv h1 ⟨x, rfl, io2, cm⟩
  simp only [Option.toList_some, List.cons_append, List.nil_append, s154_542, s154_543, s154_544, s154_545, s154_546, s154_547 hj1, s154_548, s154_549, s154_550, s154_551, s154_552 hj2, s154_553, io2]
  refine Call.mono cm ?_
  rintro rv h2 ⟨rfl, v2⟩
  simp only [Option.toList_some, List.cons_append, List.nil_append, s154_556]
  first | rw [if_pos rfl] | rw [if_pos trivial] | skip
  exact lw_next nx v2
theorem lw_13 (hG : G + 61 ≤ 40000) (hL : L ≤ 2048) (hi : i + 4 ≤ L) (nx : Nxt L xs (i + 4) (G + 61) post) (v : Inv G h) : Ev (some (L, xs)) 154 561 [.retAddr 0, .ref 0, .ref 423, .int (nI i)] [] h post := by
  have hj1 := idx (k := 1) (j := 1) rfl hL (show i + 1 < L by omega)
  have hj2 := idx (k := 2) (j := 2) rfl hL (show i + 2 < L by omega)
  have io := v.o.1
  simp only [s154_561, s154_562, s154_563, s154_564, s154_565, s154_566 hj1, s154_567, s154_568, s154_569, s154_570, s154_571 hj2, s154_572, io]
  refine Call.mono (pr_letterOf hG _ _ h v) ?_
  rintro rv h1 ⟨x, rfl, io2, cm⟩
  simp only [Option.toList_some, List.cons_append, List.nil_append, s154_575, s154_576, s154_577, s154_578, s154_579, s154_580 hj1, s154_581, s154_582, s154_583, s154_584, s154_585 hj2, s154_586, io2]
  refine Call.mono cm ?_
  rintro rv h2 ⟨rfl, v2⟩
  simp only [Option.toList_some, List.cons_append, List.nil_append, s154_589]
  first | rw [if_pos rfl] | rw [if_pos trivial] | skip
  exact lw_next nx v2
theorem lw_14 (hG : G + 61 ≤ 40000) (hL : L ≤ 2048) (hi : i + 4 ≤ L) (nx : Nxt L xs (i + 4) (G + 61) post) (v : Inv G h) : Ev (some (L, xs)) 154 594 [.retAddr 0, .ref 0, .ref 423, .int (nI i)] [] h post := by
  have hj1 := idx (k := 1) (j := 1) rfl hL (show i + 1 < L by omega)
  have hj2 := idx (k := 2) (j := 2) rfl hL (show i + 2 < L by omega)
  have hj3 := idx (k := 3) (j := 3) rfl hL (show i + 3 < L by omega)
  have io := v.o.1
  simp only [s154_594, s154_595, s154_596, s154_597, s154_598, s154_599 hj1, s154_600, s154_601, s154_602, s154_603, s154_604 hj2, s154_605, s154_606, s154_607, s154_608, s154_609 hj3, s154_610, io]
  refine Call.mono (pr_lacks hG _ _ _ h v) ?_
  rintro rv h1 ⟨x, rfl, io2, cm⟩
  simp only [Option.toList_some, List.cons_append, List.nil_append, s154_613, s154_614, s154_615, s154_616, s154_617, s154_618 hj1, s154_619, s154_620, s154_621, s154_622, s154_623 hj2, s154_624, s154_625, s154_626, s154_627, s154_628 hj3, s154_629, io2]
  refine Call.mono cm ?_
  rintro rv h2 ⟨rfl, v2⟩
  simp only [Option.toList_some, List.cons_append, List.nil_append, s154_632]
  first | rw [if_pos rfl] | rw [if_pos trivial] | skip
  exact lw_next nx v2
theorem lw_15 (hG : G + 61 ≤ 40000) (hL : L ≤ 2048) (hi : i + 4 ≤ L) (nx : Nxt L xs (i + 4) (G + 61) post) (v : Inv G h) : Ev (some (L, xs)) 154 637 [.retAddr 0, .ref 0, .ref 423, .int (nI i)] [] h post := by
  have io := v.o.1
  simp only [s154_637, s154_638, io]
  refine Call.mono (pr_whole hG h v) ?_
  rintro rv h1 ⟨x, rfl, io2, cm⟩
  simp only [Option.toList_some, List.cons_append, List.nil_append, s154_641, s154_642, io2]
  refine Call.mono cm ?_
  rintro rv h2 ⟨rfl, v2⟩
  simp only [Option.toList_some, List.cons_append, List.nil_append, s154_645]
  first | rw [if_pos rfl] | rw [if_pos trivial] | skip
  exact lw_next nx v2
theorem lw_16 (hG : G + 61 ≤ 40000) (hL : L ≤ 2048) (hi : i + 4 ≤ L) (nx : Nxt L xs (i + 4) (G + 61) post) (v : Inv G h) : Ev (some (L, xs)) 154 650 [.retAddr 0, .ref 0, .ref 423, .int (nI i)] [] h post := by
  have io := v.o.1
  simp only [s154_650, s154_651, io]
  refine Call.mono (pr_seen hG h v) ?_
  rintro rv h1 ⟨x, rfl, io2, cm⟩
  simp only [Option.toList_some, List.cons_append, List.nil_append, s154_654, s154_655, io2]
  refine Call.mono cm ?_
  rintro rv h2 ⟨rfl, v2⟩
  simp only [Option.toList_some, List.cons_append, List.nil_append, s154_658]
  first | rw [if_pos rfl] | rw [if_pos trivial] | skip
  exact lw_next nx v2
theorem lw_17 (hG : G + 61 ≤ 40000) (hL : L ≤ 2048) (hi : i + 4 ≤ L) (nx : Nxt L xs (i + 4) (G + 61) post) (v : Inv G h) : Ev (some (L, xs)) 154 663 [.retAddr 0, .ref 0, .ref 423, .int (nI i)] [] h post := by
  have io := v.o.1
  simp only [s154_663, s154_664, io]
  refine Call.mono (pr_rounds hG h v) ?_
  rintro rv h1 ⟨x, rfl, io2, cm⟩
  simp only [Option.toList_some, List.cons_append, List.nil_append, s154_667, s154_668, io2]
  refine Call.mono cm ?_
  rintro rv h2 ⟨rfl, v2⟩
  simp only [Option.toList_some, List.cons_append, List.nil_append, s154_671]
  first | rw [if_pos rfl] | rw [if_pos trivial] | skip
  exact lw_next nx v2
theorem lw_18 (hG : G + 61 ≤ 40000) (hL : L ≤ 2048) (hi : i + 4 ≤ L) (nx : Nxt L xs (i + 4) (G + 61) post) (v : Inv G h) : Ev (some (L, xs)) 154 676 [.retAddr 0, .ref 0, .ref 423, .int (nI i)] [] h post := by
  have hj1 := idx (k := 1) (j := 1) rfl hL (show i + 1 < L by omega)
  have hj2 := idx (k := 2) (j := 2) rfl hL (show i + 2 < L by omega)
  have io := v.o.1
  simp only [s154_676, s154_677, s154_678, s154_679, s154_680, s154_681 hj1, s154_682, s154_683, s154_684, s154_685, s154_686 hj2, s154_687, io]
  refine Call.mono (pr_would hG _ _ h v) ?_
  rintro rv h1 ⟨x, rfl, io2, cm⟩
  simp only [Option.toList_some, List.cons_append, List.nil_append, s154_690, s154_691, s154_692, s154_693, s154_694, s154_695 hj1, s154_696, s154_697, s154_698, s154_699, s154_700 hj2, s154_701, io2]
  refine Call.mono cm ?_
  rintro rv h2 ⟨rfl, v2⟩
  simp only [Option.toList_some, List.cons_append, List.nil_append, s154_704]
  first | rw [if_pos rfl] | rw [if_pos trivial] | skip
  exact lw_next nx v2
theorem lw_19 (hG : G + 61 ≤ 40000) (hL : L ≤ 2048) (hi : i + 4 ≤ L) (nx : Nxt L xs (i + 4) (G + 61) post) (v : Inv G h) : Ev (some (L, xs)) 154 709 [.retAddr 0, .ref 0, .ref 423, .int (nI i)] [] h post := by
  have hj1 := idx (k := 1) (j := 1) rfl hL (show i + 1 < L by omega)
  have io := v.o.1
  simp only [s154_709, s154_710, s154_711, s154_712, s154_713, s154_714 hj1, s154_715, io]
  refine Call.mono (pr_latest hG _ h v) ?_
  rintro rv h1 ⟨x, rfl, io2, cm⟩
  simp only [Option.toList_some, List.cons_append, List.nil_append, s154_718, s154_719, s154_720, s154_721, s154_722, s154_723 hj1, s154_724, io2]
  refine Call.mono cm ?_
  rintro rv h2 ⟨rfl, v2⟩
  simp only [Option.toList_some, List.cons_append, List.nil_append, s154_727]
  first | rw [if_pos rfl] | rw [if_pos trivial] | skip
  exact lw_next nx v2
theorem lw_20 (hG : G + 61 ≤ 40000) (hL : L ≤ 2048) (hi : i + 4 ≤ L) (nx : Nxt L xs (i + 4) (G + 61) post) (v : Inv G h) : Ev (some (L, xs)) 154 732 [.retAddr 0, .ref 0, .ref 423, .int (nI i)] [] h post := by
  have hj1 := idx (k := 1) (j := 1) rfl hL (show i + 1 < L by omega)
  have io := v.o.1
  simp only [s154_732, s154_733, s154_734, s154_735, s154_736, s154_737 hj1, s154_738, io]
  refine Call.mono (pr_count hG _ h v) ?_
  rintro rv h1 ⟨x, rfl, io2, cm⟩
  simp only [Option.toList_some, List.cons_append, List.nil_append, s154_741, s154_742, s154_743, s154_744, s154_745, s154_746 hj1, s154_747, io2]
  refine Call.mono cm ?_
  rintro rv h2 ⟨rfl, v2⟩
  simp only [Option.toList_some, List.cons_append, List.nil_append, s154_750]
  first | rw [if_pos rfl] | rw [if_pos trivial] | skip
  exact lw_next nx v2
theorem lw_21 (hG : G + 61 ≤ 40000) (hL : L ≤ 2048) (hi : i + 4 ≤ L) (nx : Nxt L xs (i + 4) (G + 61) post) (v : Inv G h) : Ev (some (L, xs)) 154 755 [.retAddr 0, .ref 0, .ref 423, .int (nI i)] [] h post := by
  have io := v.o.1
  simp only [s154_755, s154_756, io]
  refine Call.mono (pr_undo hG h v) ?_
  rintro rv h1 ⟨x, rfl, io2, cm⟩
  simp only [Option.toList_some, List.cons_append, List.nil_append, s154_759, s154_760, io2]
  refine Call.mono cm ?_
  rintro rv h2 ⟨rfl, v2⟩
  simp only [Option.toList_some, List.cons_append, List.nil_append, s154_763]
  first | rw [if_pos rfl] | rw [if_pos trivial] | skip
  exact lw_next nx v2
theorem lw_22 (hG : G + 61 ≤ 40000) (hL : L ≤ 2048) (hi : i + 4 ≤ L) (nx : Nxt L xs (i + 4) (G + 61) post) (v : Inv G h) : Ev (some (L, xs)) 154 768 [.retAddr 0, .ref 0, .ref 423, .int (nI i)] [] h post := by
  have hj1 := idx (k := 1) (j := 1) rfl hL (show i + 1 < L by omega)
  have io := v.o.1
  simp only [s154_768, s154_769, s154_770, s154_771, s154_772, s154_773 hj1, s154_774, io]
  refine Call.mono (pr_type hG _ h v) ?_
  rintro rv h1 ⟨x, rfl, io2, cm⟩
  simp only [Option.toList_some, List.cons_append, List.nil_append, s154_777, s154_778, s154_779, s154_780, s154_781, s154_782 hj1, s154_783, io2]
  refine Call.mono cm ?_
  rintro rv h2 ⟨rfl, v2⟩
  simp only [Option.toList_some, List.cons_append, List.nil_append, s154_786]
  first | rw [if_pos rfl] | rw [if_pos trivial] | skip
  exact lw_next nx v2
theorem lw_23 (hG : G + 61 ≤ 40000) (hL : L ≤ 2048) (hi : i + 4 ≤ L) (nx : Nxt L xs (i + 4) (G + 61) post) (v : Inv G h) : Ev (some (L, xs)) 154 791 [.retAddr 0, .ref 0, .ref 423, .int (nI i)] [] h post := by
  have io := v.o.1
  simp only [s154_791, s154_792, io]
  refine Call.mono (pr_clearText hG h v) ?_
  rintro rv h1 ⟨x, rfl, io2, cm⟩
  simp only [Option.toList_some, List.cons_append, List.nil_append, s154_795, s154_796, io2]
  refine Call.mono cm ?_
  rintro rv h2 ⟨rfl, v2⟩
  simp only [Option.toList_some, List.cons_append, List.nil_append, s154_799]
  first | rw [if_pos rfl] | rw [if_pos trivial] | skip
  exact lw_next nx v2
theorem lw_24 (hG : G + 61 ≤ 40000) (hL : L ≤ 2048) (hi : i + 4 ≤ L) (nx : Nxt L xs (i + 4) (G + 61) post) (v : Inv G h) : Ev (some (L, xs)) 154 804 [.retAddr 0, .ref 0, .ref 423, .int (nI i)] [] h post := by
  have hj1 := idx (k := 1) (j := 1) rfl hL (show i + 1 < L by omega)
  have io := v.o.1
  simp only [s154_804, s154_805, s154_806, s154_807, s154_808, s154_809 hj1, s154_810, io]
  refine Call.mono (pr_fault hG _ h v) ?_
  rintro rv h1 ⟨x, rfl, io2, cm⟩
  simp only [Option.toList_some, List.cons_append, List.nil_append, s154_813, s154_814, s154_815, s154_816, s154_817, s154_818 hj1, s154_819, io2]
  refine Call.mono cm ?_
  rintro rv h2 ⟨rfl, v2⟩
  simp only [Option.toList_some, List.cons_append, List.nil_append, s154_822]
  first | rw [if_pos rfl] | rw [if_pos trivial] | skip
  exact lw_next nx v2
theorem lw_25 (hG : G + 61 ≤ 40000) (hL : L ≤ 2048) (hi : i + 4 ≤ L) (nx : Nxt L xs (i + 4) (G + 61) post) (v : Inv G h) : Ev (some (L, xs)) 154 827 [.retAddr 0, .ref 0, .ref 423, .int (nI i)] [] h post := by
  have io := v.o.1
  simp only [s154_827, s154_828, io]
  refine Call.mono (pr_play hG h v) ?_
  rintro rv h1 ⟨x, rfl, io2, cm⟩
  simp only [Option.toList_some, List.cons_append, List.nil_append, s154_831, s154_832, io2]
  refine Call.mono cm ?_
  rintro rv h2 ⟨rfl, v2⟩
  simp only [Option.toList_some, List.cons_append, List.nil_append, s154_835]
  first | rw [if_pos rfl] | rw [if_pos trivial] | skip
  exact lw_next nx v2
end LW
theorem law_loop {L : Nat} (hL : L ≤ 2048) (xs : Nat → Int32) : ∀ d i G, i + 4 * d = 2048 → i ≤ 2048 → G + 61 * d ≤ 40000 → Nxt L xs i G (fun rv h' => rv = some (.int 1) ∧ ∃ G, Inv G h') := by
  intro d
  induction d with
  | zero =>
    intro i G hd hi hG h v
    simp only [s154_18, s154_19, s154_20, s154_21, s154_22, s154_20, lim hL hi, s154_23, if_pos (show L < i + 4 by omega)]
    simp only [s154_846, s154_847]
    exact ⟨Or.inr (by first | trivial | rfl), by first | trivial | rfl, G, v⟩
  | succ d ih =>
    intro i G hd hi hG h v
    simp only [s154_18, s154_19, s154_20, s154_21, s154_22, s154_20, lim hL hi, s154_23]
    by_cases c : L < i + 4
    · rw [if_pos c]
      simp only [s154_846, s154_847]
      exact ⟨Or.inr (by first | trivial | rfl), by first | trivial | rfl, G, v⟩
    · rw [if_neg c]
      have nx := ih (i + 4) (G + 61) (by omega) (by omega) (by omega)
      have hj0 := idx0 hL (show i < L by omega)
      have hG1 : G + 61 ≤ 40000 := by omega
      have hi4 : i + 4 ≤ L := by omega
      simp only [s154_26, s154_27, s154_28 hj0, s154_29, s154_31]
      obtain ⟨y, hy⟩ : ∃ y, y = xs (nI i).toNatClampNeg &&& 31 := ⟨_, rfl⟩
      rw [← hy]
      by_cases c0 : y = 0
      · rw [c0, s154_32_0]
        exact lw_0 hG1 hL hi4 nx v
      by_cases c1 : y = 1
      · rw [c1, s154_32_1]
        exact lw_1 hG1 hL hi4 nx v
      by_cases c2 : y = 2
      · rw [c2, s154_32_2]
        exact lw_2 hG1 hL hi4 nx v
      by_cases c3 : y = 3
      · rw [c3, s154_32_3]
        exact lw_3 hG1 hL hi4 nx v
      by_cases c4 : y = 4
      · rw [c4, s154_32_4]
        exact lw_4 hG1 hL hi4 nx v
      by_cases c5 : y = 5
      · rw [c5, s154_32_5]
        exact lw_5 hG1 hL hi4 nx v
      by_cases c6 : y = 6
      · rw [c6, s154_32_6]
        exact lw_6 hG1 hL hi4 nx v
      by_cases c7 : y = 7
      · rw [c7, s154_32_7]
        exact lw_7 hG1 hL hi4 nx v
      by_cases c8 : y = 8
      · rw [c8, s154_32_8]
        exact lw_8 hG1 hL hi4 nx v
      by_cases c9 : y = 9
      · rw [c9, s154_32_9]
        exact lw_9 hG1 hL hi4 nx v
      by_cases c10 : y = 10
      · rw [c10, s154_32_10]
        exact lw_10 hG1 hL hi4 nx v
      by_cases c11 : y = 11
      · rw [c11, s154_32_11]
        exact lw_11 hG1 hL hi4 nx v
      by_cases c12 : y = 12
      · rw [c12, s154_32_12]
        exact lw_12 hG1 hL hi4 nx v
      by_cases c13 : y = 13
      · rw [c13, s154_32_13]
        exact lw_13 hG1 hL hi4 nx v
      by_cases c14 : y = 14
      · rw [c14, s154_32_14]
        exact lw_14 hG1 hL hi4 nx v
      by_cases c15 : y = 15
      · rw [c15, s154_32_15]
        exact lw_15 hG1 hL hi4 nx v
      by_cases c16 : y = 16
      · rw [c16, s154_32_16]
        exact lw_16 hG1 hL hi4 nx v
      by_cases c17 : y = 17
      · rw [c17, s154_32_17]
        exact lw_17 hG1 hL hi4 nx v
      by_cases c18 : y = 18
      · rw [c18, s154_32_18]
        exact lw_18 hG1 hL hi4 nx v
      by_cases c19 : y = 19
      · rw [c19, s154_32_19]
        exact lw_19 hG1 hL hi4 nx v
      by_cases c20 : y = 20
      · rw [c20, s154_32_20]
        exact lw_20 hG1 hL hi4 nx v
      by_cases c21 : y = 21
      · rw [c21, s154_32_21]
        exact lw_21 hG1 hL hi4 nx v
      by_cases c22 : y = 22
      · rw [c22, s154_32_22]
        exact lw_22 hG1 hL hi4 nx v
      by_cases c23 : y = 23
      · rw [c23, s154_32_23]
        exact lw_23 hG1 hL hi4 nx v
      by_cases c24 : y = 24
      · rw [c24, s154_32_24]
        exact lw_24 hG1 hL hi4 nx v
      by_cases c25 : y = 25
      · rw [c25, s154_32_25]
        exact lw_25 hG1 hL hi4 nx v
      have hd : y.toInt < 0 ∨ 25 < y.toInt := sw_d (n := 26) (fun k hk => by
        have : k = 0 ∨ k = 1 ∨ k = 2 ∨ k = 3 ∨ k = 4 ∨ k = 5 ∨ k = 6 ∨ k = 7 ∨ k = 8 ∨ k = 9 ∨ k = 10 ∨ k = 11 ∨ k = 12 ∨ k = 13 ∨ k = 14 ∨ k = 15 ∨ k = 16 ∨ k = 17 ∨ k = 18 ∨ k = 19 ∨ k = 20 ∨ k = 21 ∨ k = 22 ∨ k = 23 ∨ k = 24 ∨ k = 25 := by omega
        rcases this with rfl | rfl | rfl | rfl | rfl | rfl | rfl | rfl | rfl | rfl | rfl | rfl | rfl | rfl | rfl | rfl | rfl | rfl | rfl | rfl | rfl | rfl | rfl | rfl | rfl | rfl
        · exact c0
        · exact c1
        · exact c2
        · exact c3
        · exact c4
        · exact c5
        · exact c6
        · exact c7
        · exact c8
        · exact c9
        · exact c10
        · exact c11
        · exact c12
        · exact c13
        · exact c14
        · exact c15
        · exact c16
        · exact c17
        · exact c18
        · exact c19
        · exact c20
        · exact c21
        · exact c22
        · exact c23
        · exact c24
        · exact c25
        )
      rw [s154_32_d hd]
      exact lw_next nx (v.mono (by omega))
theorem law_runs {L : Nat} (hL : L ≤ 2048) (xs : Nat → Int32) : ∃ (n : Nat) (hf : AHp), run n (some (L, xs)) 154 0 (ent0 154 [.retAddr 0]) [] [] = some (some (.int 1), hf) ∧ hf.length ≤ 600000 ∧ szH hf ≤ 7302250 := by
  have go : Ev (some (L, xs)) 154 0 [.retAddr 0, .long 0, .long 0, .long 0] [] [] (fun rv h' => rv = some (.int 1) ∧ ∃ G, Inv G h') := by
    have N0 : HO ([.inr (4, dflt 4)] : AHp) 0 4 (dflt 4) := rfl
    simp only [s154_0, s154_3, List.length_nil, List.nil_append, s154_4]
    refine Call.mono (i_P N0 rfl) ?_
    rintro rv h1 ⟨rfl, L1, P1⟩
    simp only [Option.toList_none, List.nil_append, s154_7, s154_8, s154_11, L1, s154_12]
    have N1 := new_O h1 5 L1
    refine Call.mono (i_M N1 (len_ap _ _ L1)) ?_
    rintro rv h2 ⟨rfl, L2, m0, m1, m2, m3, m4, m5, m6, B2⟩
    simp only [Option.toList_none, List.nil_append, s154_15, s154_16, s154_17]
    have P2 := P1.bl ((Bl.ap (e := .inr (5, dflt 5)) (by omega)).tr B2)
    exact law_loop hL xs 512 0 0 (by omega) (by omega) (by omega) h2 (inv_0 L2 P2 m0 m1 m2 m3 m4 m5 m6)
  obtain ⟨n, rv, h', e, rfl, G, v⟩ := go
  exact ⟨n, h', e, v.sz.1, v.sz.2⟩
