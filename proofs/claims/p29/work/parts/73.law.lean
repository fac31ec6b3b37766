/-! The law: it is made, changed, asked. -/
theorem LI.sz {G : Nat} {h : AHp} (i : LI G h) : h.length ≤ 603418 ∧ szH h ≤ 7291994 := by
  obtain ⟨hl, S, H, tc, ⟨a, T, q, C, K, F, g, ⟨b1, b2, b3, b4, b5, b6, b7⟩, c⟩, -, A, hW, -⟩ := i
  have all : ∀ j, j < 435 → SzB h j := by
    intro j hj
    by_cases c0 : j = 0
    · subst c0; exact b1.sz (Nat.le_of_ble_eq_true rfl)
    by_cases c1 : j < 70
    · exact (b3 0 (by decide)).sz (show 1 ≤ j by omega) (show j < 1 + 69 by omega)
    by_cases c2 : j < 139
    · exact (b3 1 (by decide)).sz (show 70 ≤ j by omega) (show j < 70 + 69 by omega)
    by_cases c3 : j = 139
    · subst c3; exact b2.sz (by decide)
    by_cases c4 : j < 144
    · exact b4.sz (by omega) (by omega)
    by_cases c5 : j = 144
    · subst c5; exact b5.1.sz (Nat.le_of_ble_eq_true rfl)
    by_cases c6 : j = 145
    · subst c6; exact b5.2.1.sz (by decide)
    by_cases c7 : j = 146
    · subst c7; exact b5.2.2.sz (by decide)
    by_cases c8 : j < 423
    · have hk : (j - 147) / 69 < 4 := by omega
      have := b3 ((j - 147) / 69 + 2) (by omega)
      exact HS.sz (show HS h (147 + 69 * ((j - 147) / 69)) _ from this) (by omega) (by omega)
    obtain ⟨k, rfl⟩ : ∃ k, j = 423 + k := ⟨j - 423, by omega⟩
    exact (hW k (by omega)).sz (by have := wz_le k; omega)
  have key : ∀ h : AHp, (∀ j, j < h.length → SzB h j) → szH h ≤ h.length * 1680 := by
    intro h
    induction h with
    | nil => intro _; exact Nat.le_refl _
    | cons e h ih =>
      intro q
      have q0 := q 0 (by rw [List.length_cons]; omega)
      obtain ⟨e', e1, e2⟩ := q0
      cases e1
      have qs := ih (fun j hj => by
        obtain ⟨e', e1, e2⟩ := q (j + 1) (by rw [List.length_cons]; omega)
        exact ⟨e', by simpa using e1, e2⟩)
      have es : szH (e :: h) = szE e + szH h := by simp [szH]
      rw [es, List.length_cons]
      omega
  have := key h (fun j hj => all j (by omega))
  rw [hl] at this
  omega
def A0 : WA := ua (ua (ua (fun _ _ => 0) 1 0 1) 1 1 2) 0 6 2
def u0 (v : Nat) : Nat := if v = 0 then 1 else if v = 1 then 2 else 0
theorem rx_0 : RX 0 A0 S0 u0 2 0 [] := by
  have z : ∀ k i, k ≠ 0 → k ≠ 1 → A0 k i = 0 := fun k i h0 h1 => by unfold A0; rw [ua_k h0, ua_k h1, ua_k h1]
  have z0 : ∀ i, i ≠ 6 → A0 0 i = 0 := fun i hi => by unfold A0; rw [ua_j hi, ua_k (by decide), ua_k (by decide)]
  refine ⟨⟨z0 _ (by decide), z0 _ (by decide), z0 _ (by decide), z0 _ (by decide), z0 _ (by decide), ?_, z0 _ (by decide)⟩, fun v hv => ?_, fun v hv => ?_, fun v hv => ⟨z _ _ (by decide) (by decide), fun w hw => ⟨z _ _ (by decide) (by decide), z _ _ (by decide) (by decide), z _ _ (by decide) (by decide)⟩⟩, fun w hw => absurd hw (Nat.not_lt_zero w), ⟨Nat.zero_le _, z0 _ (by decide), fun k q hq => (by cases hq)⟩, ⟨fun q hq => (by cases hq), List.Pairwise.nil, rfl⟩, Nat.le_refl _, Nat.le_refl _⟩
  · unfold A0; rw [ua_s]; rfl
  · have : v = 0 ∨ v = 1 ∨ v = 2 ∨ v = 3 ∨ v = 4 ∨ v = 5 := by omega
    rcases this with rfl | rfl | rfl | rfl | rfl | rfl <;> exact ⟨by decide, by decide⟩
  · have : v = 0 ∨ v = 1 ∨ v = 2 ∨ v = 3 ∨ v = 4 ∨ v = 5 := by omega
    rcases this with rfl | rfl | rfl | rfl | rfl | rfl <;> rfl
theorem new_W {h : AHp} {k n : Nat} (hl : h.length = 423 + k) (F : ∀ j, j < k → HA h (423 + j) (wz j) (fun _ => 0)) (hn : wz k = n) : (h ++ [(.inl (0, n, .inl (fun _ => 0)) : AE)]).length = 423 + (k + 1) ∧ ∀ j, j < k + 1 → HA (h ++ [(.inl (0, n, .inl (fun _ => 0)) : AE)]) (423 + j) (wz j) (fun _ => 0) := by
  refine ⟨len_ap _ _ hl, fun j hj => ?_⟩
  by_cases c : j = k
  · subst c; rw [hn]; exact new_A h n hl
  · exact (F j (by omega)).ap
theorem ac_11 (S : St) (H : List St) : aCount S H 0 11 = -2000000001 := by
  have cA : aCount S H 0 11 = if (11 : Int32) = 0 then cntI S.th 6 else if (11 : Int32) = 1 then nI (S.ct 0) else if (11 : Int32) = 2 then cntI (fun w => !rt S w) (S.ct 0) else if (11 : Int32) = 3 then nI S.lt.length else if (11 : Int32) = 4 then nI (S.ct 1) else if (11 : Int32) = 5 then nI (S.ct 2) else if (11 : Int32) = 6 then nI (S.ct 3) else if (11 : Int32) = 7 then S.ot else if (11 : Int32) = 8 then nI H.length else if (11 : Int32) = 9 then nI 0 else if (11 : Int32) = 10 then obits S.th 6 else eI := rfl
  rw [cA, if_neg (show ¬ (11 : Int32) = 0 by decide), if_neg (show ¬ (11 : Int32) = 1 by decide), if_neg (show ¬ (11 : Int32) = 2 by decide), if_neg (show ¬ (11 : Int32) = 3 by decide), if_neg (show ¬ (11 : Int32) = 4 by decide), if_neg (show ¬ (11 : Int32) = 5 by decide), if_neg (show ¬ (11 : Int32) = 6 by decide), if_neg (show ¬ (11 : Int32) = 7 by decide), if_neg (show ¬ (11 : Int32) = 8 by decide), if_neg (show ¬ (11 : Int32) = 9 by decide), if_neg (show ¬ (11 : Int32) = 10 by decide)]
  rfl
theorem ac_0 : aCount S0 [] 0 0 = 2 := by
  have cA : aCount S0 [] 0 0 = if (0 : Int32) = 0 then cntI S0.th 6 else aCount S0 [] 0 0 := by rw [if_pos rfl]; rfl
  rw [cA, if_pos rfl]
  decide
section LAW
variable {L : Nat} {xs : Nat → Int32}
/-- the end of the law -/
def PEnd : Option Value → AHp → Prop := fun rv h' => rv = some (.int 1) ∧ ∃ G, LI G h'
set_option maxHeartbeats 4000000 in
theorem law_b (hL : L ≤ 260) {tn : Nat} (ht : tn ≤ 85) : ∀ d i (h : AHp), i + d = tn → LI (6 + i) h → Ev (some (L, xs)) 82 263 [.retAddr 0, .ref 0, .ref 423, .ref 424, .ref 425, .ref 426, .ref 427, .ref 428, .ref 429, .ref 430, .ref 431, .ref 432, .ref 433, .ref 434, .int 1, .int (nI tn), .int (nI i)] [] h PEnd := by
  intro d
  induction d with
  | zero =>
    intro i h hi v
    obtain rfl : i = tn := by omega
    simp only [s82_263, s82_265, s82_267, if_pos (Int32.le_refl _)]
    obtain ⟨hl, S, H, tc, hP, rest⟩ := id v
    have hio := hP.is
    simp only [s82_362, s82_364, s82_367, s82_368, s82_370, n10', if_false, hio, p_count hP, ac_11, Option.toList_some, List.cons_append, List.nil_append, s82_373, s82_375, eq_self, not_true, if_false]
    simp only [s82_378, s82_379, s82_382, s82_383]
    exact ⟨Or.inr (by first | trivial | rfl), by first | trivial | rfl, _, v⟩
  | succ d ih =>
    intro i h hi v
    simp only [s82_263, s82_265, s82_267, if_neg (nI_ge (show i < tn by omega) (by omega))]
    simp only [s82_270, s82_272, s82_275, s82_276, s82_277, s82_278, s82_280, s82_282, s82_284, s82_286, s82_288, s82_290, s82_292, s82_294, s82_296, s82_298, s82_299, s82_301, s82_303, s82_304, n10', if_false, (show (7 : Int32) + nI i = nI (7 + i) from nI_add 7 i)]
    refine c_cell hL (show 7 + i < 100000 by omega) (fun y => ?_)
    simp only [Option.toList_some, List.cons_append, List.nil_append, s82_307, s82_310, s82_312, s82_313, s82_314]
    refine Call.mono (c_acts (show 6 + i + 1 ≤ 100 by omega) v _) ?_
    rintro rv h1 ⟨rfl, v1⟩
    simp only [Option.toList_some, List.cons_append, List.nil_append, s82_317, n10', if_false]
    simp only [s82_320, s82_321, s82_322, s82_323, s82_325, s82_327, s82_329, s82_331, s82_333, s82_335, s82_337, s82_339, s82_341, s82_343, c_isSo (show 6 + i + 1 ≤ 100 by omega) v1, Option.toList_some, List.cons_append, List.nil_append, s82_346, n10', if_false]
    simp only [s82_349, s82_350, s82_353, s82_354, s82_356, s82_359, nI_1]
    exact ih (i + 1) h1 (by omega) v1
set_option maxHeartbeats 4000000 in
theorem law_a (hL : L ≤ 260) : ∀ d i (h : AHp) (v16 : Value), i + d = 6 → LI i h → Ev (some (L, xs)) 82 110 [.retAddr 0, .ref 0, .ref 423, .ref 424, .ref 425, .ref 426, .ref 427, .ref 428, .ref 429, .ref 430, .ref 431, .ref 432, .ref 433, .ref 434, .int 1, .int (nI i), v16] [] h PEnd := by
  intro d
  induction d with
  | zero =>
    intro i h v16 hi v
    obtain rfl : i = 6 := by omega
    simp only [s82_110, s82_112, s82_114, if_pos (show (6 : Int32) ≤ nI 6 by decide)]
    simp only [s82_204, s82_206, n10', if_false]
    simp only [s82_209, s82_210, s82_211, s82_212, s82_214, s82_216, s82_218, s82_220, s82_222, s82_224, s82_226, s82_228, s82_230, s82_232, c_isSo (show 6 ≤ 100 by decide) v, Option.toList_some, List.cons_append, List.nil_append, s82_235, n10', if_false]
    simp only [s82_238, s82_239, s82_242, s82_243, s82_245, s82_247, s82_248, s82_249]
    refine c_cell (k := 0) hL (by decide) (fun y => ?_)
    have cl : ∀ post, Call 64 [.int y, .int 70] h post = post (some (.int (nI (lowN y 70)))) h := c_low y (n := 70) (by decide) (by decide) h
    simp only [Option.toList_some, List.cons_append, List.nil_append, s82_252, s82_254, cl, s82_257, s82_258, s82_260, s82_261, (show ∀ m, (16 : Int32) + nI m = nI (16 + m) from fun m => nI_add 16 m)]
    have := lowN_lt y (show 0 < 70 by decide)
    exact law_b hL (show 16 + lowN y 70 ≤ 85 by omega) (16 + lowN y 70) 0 h (Nat.zero_add _) v
  | succ d ih =>
    intro i h v16 hi v
    have n192 : ¬ (192 : Int32) = 0 := by decide
    have n2 : ¬ (2 : Int32) = 0 := by decide
    simp only [s82_110, s82_112, s82_114, if_neg (show ¬ (6 : Int32) ≤ nI i from nI_ge (b := 6) (by omega) (by decide))]
    simp only [s82_117, s82_119, s82_122, s82_123, s82_124, s82_125, s82_127, s82_129, s82_131, s82_133, s82_135, s82_137, s82_139, s82_141, s82_143, s82_145, s82_146, s82_147, s82_149, s82_150, n10', if_false, i1l]
    refine c_cell hL (show 1 + i < 100000 by omega) (fun y => ?_)
    simp only [Option.toList_some, List.cons_append, List.nil_append, s82_153, s82_155, s82_156, s82_159 n192, s82_160, s82_163, s82_164, s82_166, s82_167]
    have go : ∀ a b : Int32, Ev (some (L, xs)) 82 192 [.retAddr 0, .ref 0, .ref 423, .ref 424, .ref 425, .ref 426, .ref 427, .ref 428, .ref 429, .ref 430, .ref 431, .ref 432, .ref 433, .ref 434, .int 1, .int (nI i), v16] [.int a, .int b, .ref 434, .ref 433, .ref 432, .ref 431, .ref 430, .ref 429, .ref 428, .ref 427, .ref 426, .ref 425, .ref 424, .ref 423, .ref 0] h PEnd := by
      intro a b
      simp only [s82_192, s82_193]
      refine Call.mono (c_acts (show i + 1 ≤ 100 by omega) v _) ?_
      rintro rv h1 ⟨rfl, v1⟩
      simp only [Option.toList_some, List.cons_append, List.nil_append, s82_196, s82_198, s82_201, nI_1]
      exact ih (i + 1) h1 _ (by omega) v1
    by_cases c3 : (3 : Int32) ≤ nI i
    · rw [if_pos c3]
      simp only [s82_180, s82_182, s82_183]
      by_cases c5 : (5 : Int32) ≤ nI i
      · rw [if_pos c5]
        simp only [s82_190]
        exact go _ _
      · rw [if_neg c5]
        simp only [s82_186, s82_187]
        exact go _ _
    · rw [if_neg c3]
      simp only [s82_170, s82_172, s82_174, s82_175 n2, s82_176, s82_177]
      exact go _ _
set_option maxHeartbeats 4000000 in
theorem law_runs (hL : L ≤ 260) (xs : Nat → Int32) : ∃ (n : Nat) (hf : AHp), run n (some (L, xs)) 82 0 (ent0 82 [.retAddr 0]) [] [] = some (some (.int 1), hf) ∧ hf.length ≤ 603418 ∧ szH hf ≤ 7291994 := by
  have go : Ev (some (L, xs)) 82 0 [.retAddr 0, .long 0, .long 0, .long 0, .long 0, .long 0, .long 0, .long 0, .long 0, .long 0, .long 0, .long 0, .long 0, .long 0, .long 0, .long 0, .long 0] [] [] PEnd := by
    have N0 : HO ([.inr (4, dflt 4)] : AHp) 0 4 (dflt 4) := rfl
    simp only [s82_0, s82_3, List.length_nil, List.nil_append, s82_4]
    refine Call.mono (i_P N0 rfl) ?_
    rintro rv h0 ⟨rfl, L0, P0⟩
    have F0 : ∀ j, j < 0 → HA h0 (423 + j) (wz j) (fun _ => 0) := fun j hj => absurd hj (Nat.not_lt_zero j)
    simp only [Option.toList_none, List.nil_append, s82_7]
    simp only [s82_8, s82_10 (show ¬ ((8 : Int32) < 0 ∨ 100000 < (8 : Int32).toNatClampNeg) by decide), s82_12, (show (8 : Int32).toNatClampNeg = 8 from rfl), L0]
    obtain ⟨L1, F1⟩ := new_W (k := 0) L0 F0 (n := 8) rfl
    have P1 := P0.bl (Bl.ap (e := .inl (0, 8, .inl (fun _ => 0))) (show 423 ≤ h0.length by omega))
    generalize h0 ++ [.inl (0, 8, .inl (fun _ => 0))] = h1 at L1 F1 P1 ⊢
    simp only [s82_13, s82_15 (show ¬ ((6 : Int32) < 0 ∨ 100000 < (6 : Int32).toNatClampNeg) by decide), s82_17, (show (6 : Int32).toNatClampNeg = 6 from rfl), L1]
    obtain ⟨L2, F2⟩ := new_W (k := 1) L1 F1 (n := 6) rfl
    have P2 := P1.bl (Bl.ap (e := .inl (0, 6, .inl (fun _ => 0))) (show 423 ≤ h1.length by omega))
    generalize h1 ++ [.inl (0, 6, .inl (fun _ => 0))] = h2 at L2 F2 P2 ⊢
    simp only [s82_18, s82_20 (show ¬ ((6 : Int32) < 0 ∨ 100000 < (6 : Int32).toNatClampNeg) by decide), s82_22, (show (6 : Int32).toNatClampNeg = 6 from rfl), L2]
    obtain ⟨L3, F3⟩ := new_W (k := 2) L2 F2 (n := 6) rfl
    have P3 := P2.bl (Bl.ap (e := .inl (0, 6, .inl (fun _ => 0))) (show 423 ≤ h2.length by omega))
    generalize h2 ++ [.inl (0, 6, .inl (fun _ => 0))] = h3 at L3 F3 P3 ⊢
    simp only [s82_24, s82_26 (show ¬ ((48 : Int32) < 0 ∨ 100000 < (48 : Int32).toNatClampNeg) by decide), s82_28, (show (48 : Int32).toNatClampNeg = 48 from rfl), L3]
    obtain ⟨L4, F4⟩ := new_W (k := 3) L3 F3 (n := 48) rfl
    have P4 := P3.bl (Bl.ap (e := .inl (0, 48, .inl (fun _ => 0))) (show 423 ≤ h3.length by omega))
    generalize h3 ++ [.inl (0, 48, .inl (fun _ => 0))] = h4 at L4 F4 P4 ⊢
    simp only [s82_30, s82_32 (show ¬ ((48 : Int32) < 0 ∨ 100000 < (48 : Int32).toNatClampNeg) by decide), s82_34, (show (48 : Int32).toNatClampNeg = 48 from rfl), L4]
    obtain ⟨L5, F5⟩ := new_W (k := 4) L4 F4 (n := 48) rfl
    have P5 := P4.bl (Bl.ap (e := .inl (0, 48, .inl (fun _ => 0))) (show 423 ≤ h4.length by omega))
    generalize h4 ++ [.inl (0, 48, .inl (fun _ => 0))] = h5 at L5 F5 P5 ⊢
    simp only [s82_36, s82_38 (show ¬ ((48 : Int32) < 0 ∨ 100000 < (48 : Int32).toNatClampNeg) by decide), s82_40, (show (48 : Int32).toNatClampNeg = 48 from rfl), L5]
    obtain ⟨L6, F6⟩ := new_W (k := 5) L5 F5 (n := 48) rfl
    have P6 := P5.bl (Bl.ap (e := .inl (0, 48, .inl (fun _ => 0))) (show 423 ≤ h5.length by omega))
    generalize h5 ++ [.inl (0, 48, .inl (fun _ => 0))] = h6 at L6 F6 P6 ⊢
    simp only [s82_42, s82_44 (show ¬ ((8 : Int32) < 0 ∨ 100000 < (8 : Int32).toNatClampNeg) by decide), s82_46, (show (8 : Int32).toNatClampNeg = 8 from rfl), L6]
    obtain ⟨L7, F7⟩ := new_W (k := 6) L6 F6 (n := 8) rfl
    have P7 := P6.bl (Bl.ap (e := .inl (0, 8, .inl (fun _ => 0))) (show 423 ≤ h6.length by omega))
    generalize h6 ++ [.inl (0, 8, .inl (fun _ => 0))] = h7 at L7 F7 P7 ⊢
    simp only [s82_48, s82_50 (show ¬ ((8 : Int32) < 0 ∨ 100000 < (8 : Int32).toNatClampNeg) by decide), s82_52, (show (8 : Int32).toNatClampNeg = 8 from rfl), L7]
    obtain ⟨L8, F8⟩ := new_W (k := 7) L7 F7 (n := 8) rfl
    have P8 := P7.bl (Bl.ap (e := .inl (0, 8, .inl (fun _ => 0))) (show 423 ≤ h7.length by omega))
    generalize h7 ++ [.inl (0, 8, .inl (fun _ => 0))] = h8 at L8 F8 P8 ⊢
    simp only [s82_54, s82_56 (show ¬ ((48 : Int32) < 0 ∨ 100000 < (48 : Int32).toNatClampNeg) by decide), s82_58, (show (48 : Int32).toNatClampNeg = 48 from rfl), L8]
    obtain ⟨L9, F9⟩ := new_W (k := 8) L8 F8 (n := 48) rfl
    have P9 := P8.bl (Bl.ap (e := .inl (0, 48, .inl (fun _ => 0))) (show 423 ≤ h8.length by omega))
    generalize h8 ++ [.inl (0, 48, .inl (fun _ => 0))] = h9 at L9 F9 P9 ⊢
    simp only [s82_60, s82_62 (show ¬ ((64 : Int32) < 0 ∨ 100000 < (64 : Int32).toNatClampNeg) by decide), s82_64, (show (64 : Int32).toNatClampNeg = 64 from rfl), L9]
    obtain ⟨L10, F10⟩ := new_W (k := 9) L9 F9 (n := 64) rfl
    have P10 := P9.bl (Bl.ap (e := .inl (0, 64, .inl (fun _ => 0))) (show 423 ≤ h9.length by omega))
    generalize h9 ++ [.inl (0, 64, .inl (fun _ => 0))] = h10 at L10 F10 P10 ⊢
    simp only [s82_66, s82_68 (show ¬ ((64 : Int32) < 0 ∨ 100000 < (64 : Int32).toNatClampNeg) by decide), s82_70, (show (64 : Int32).toNatClampNeg = 64 from rfl), L10]
    obtain ⟨L11, F11⟩ := new_W (k := 10) L10 F10 (n := 64) rfl
    have P11 := P10.bl (Bl.ap (e := .inl (0, 64, .inl (fun _ => 0))) (show 423 ≤ h10.length by omega))
    generalize h10 ++ [.inl (0, 64, .inl (fun _ => 0))] = h11 at L11 F11 P11 ⊢
    simp only [s82_72, s82_74 (show ¬ ((64 : Int32) < 0 ∨ 100000 < (64 : Int32).toNatClampNeg) by decide), s82_76, (show (64 : Int32).toNatClampNeg = 64 from rfl), L11]
    obtain ⟨L12, F12⟩ := new_W (k := 11) L11 F11 (n := 64) rfl
    have P12 := P11.bl (Bl.ap (e := .inl (0, 64, .inl (fun _ => 0))) (show 423 ≤ h11.length by omega))
    generalize h11 ++ [.inl (0, 64, .inl (fun _ => 0))] = h12 at L12 F12 P12 ⊢
    have W0 : HW h12 (fun _ _ => 0) := fun k hk => F12 k hk
    obtain ⟨g1, e1, W1, r1⟩ := W0.s1 (j := 0) (by decide) 1
    obtain ⟨g2, e2, W2, r2⟩ := W1.s1 (j := 1) (by decide) 2
    obtain ⟨g3, e3, W3, r3⟩ := W2.s0 (j := 6) (by decide) 2
    have e1' : sti h12 424 0 1 = some g1 := e1
    have e2' : sti g1 424 1 2 = some g2 := e2
    have e3' : sti g2 423 6 2 = some g3 := e3
    have rr := (r1.tr r2).tr r3
    have P13 := P12.fr9 rr
    have hio := P13.is
    simp only [s82_78, s82_79, s82_80, s82_81, s82_82, s82_83, s82_84, s82_85, s82_86, s82_87, s82_89, s82_90, s82_91, s82_92, s82_93, e1', e2', e3', oB_some, hio, p_count P13, ac_0, Option.toList_some, List.cons_append, List.nil_append, s82_96, s82_97, eq_self, not_true, if_false]
    simp only [s82_100, s82_101, s82_104, s82_105, s82_107, s82_108]
    exact law_a hL 6 0 g3 _ rfl ⟨rr.1.trans L12, S0, [], _, P13, S0_iv, A0, W3, u0, 2, 0, [], rx_0⟩
  obtain ⟨n, rv, h', e, rfl, G, v⟩ := go
  exact ⟨n, h', e, v.sz.1, v.sz.2⟩
end LAW
