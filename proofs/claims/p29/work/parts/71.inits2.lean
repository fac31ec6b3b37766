/-! Constructors of letters, states, the outer object. -/
def HQp (h : AHp) (a kd n m : Nat) (q : Nat → Nat) : Prop := ∃ g, h[a]? = some (.inl (kd, n, .inr g)) ∧ ∀ i, i < m → g i = some (q i)
theorem HQp.at {h h' : AHp} {a kd n m : Nat} {q : Nat → Nat} (o : HQp h a kd n m q) (e : h'[a]? = h[a]?) : HQp h' a kd n m q := by
  obtain ⟨g, h1, h2⟩ := o
  exact ⟨g, by rw [e]; exact h1, h2⟩
theorem HQp.lt {h : AHp} {a kd n m : Nat} {q : Nat → Nat} (o : HQp h a kd n m q) : a < h.length := by
  obtain ⟨g, h1, h2⟩ := o
  exact (List.getElem?_eq_some_iff.mp h1).1
theorem HQp.st {h : AHp} {a kd n m v c2 : Nat} {q : Nat → Nat} (hA : HQp h a kd n m q) (hw : m < n) (hn : n < 2147483648) (hk : ¬ (kd = 0 ∨ 4 ≤ kd)) (hv : isO h v c2) (hc : c2 = kindC kd) (hq : q m = v) : ∃ h', stq h a (nI m) v = some h' ∧ HQp h' a kd n (m + 1) q ∧ Fr a (a + 1) h h' := by
  obtain ⟨g, h1, h2⟩ := hA
  obtain ⟨fs, h3⟩ := hv
  refine ⟨h.set a (.inl (kd, n, .inr (va_up g m (some v)))), ?_, ⟨va_up g m (some v), ?_, fun i hi => ?_⟩, Fr.set _⟩
  · unfold stq
    rw [h1, h3]
    dsimp only
    rw [if_neg (fun z => by
      rcases z with z | z | z | z
      · exact hk (Or.inl z)
      · exact hk (Or.inr z)
      · exact z hc
      · exact nI_ok hw hn z), nI_cl (by omega)]
  · rw [List.getElem?_set_self (List.getElem?_eq_some_iff.mp h1).1]
  · by_cases e : i = m
    · subst e; rw [up_eq, hq]
    · rw [up_ne _ e]; exact h2 i (by omega)
theorem new_Q (h : AHp) (kd n : Nat) (q : Nat → Nat) {m : Nat} (hm : h.length = m) : HQp (h ++ [.inl (kd, n, .inr (fun _ => none))]) m kd n 0 q :=
  ⟨fun _ => none, by rw [List.getElem?_append_right (by omega), hm, Nat.sub_self]; rfl, fun i hi => by omega⟩
theorem i_L {h : AHp} {a : Nat} (hO : HO h a 1 (dflt 1)) (hl : h.length = a + 1) : Call 13 [.ref a] h (fun rv h' => rv = none ∧ h'.length = a + 5 ∧ HL h' a (0, 0, 0, false, kNil) ∧ Bl a h h') := by
  obtain ⟨h1, e1, O1, r1⟩ := hO.st (k := 0) (v := .int 0) (Nat.le_of_ble_eq_true rfl) rfl
  obtain ⟨h2, e2, O2, r2⟩ := O1.st (k := 1) (v := .int 0) (Nat.le_of_ble_eq_true rfl) rfl
  obtain ⟨h3, e3, O3, r3⟩ := O2.st (k := 2) (v := .int 0) (Nat.le_of_ble_eq_true rfl) rfl
  obtain ⟨h4, e4, O4, r4⟩ := O3.st (k := 3) (v := .int 0) (Nat.le_of_ble_eq_true rfl) rfl
  have rr := ((r1.tr r2).tr r3).tr r4
  have L4 : h4.length = a + 1 := rr.1.trans hl
  simp only [s13_0, s13_1, s13_4, s13_5, s13_6, s13_9, s13_10, s13_11, s13_14, s13_15, s13_16, s13_19, s13_20, s13_21, s13_24, s13_25, s13_28, s13_e, e1, e2, e3, e4, oB_some, L4]
  have N5 := new_O h4 0 L4
  have O5 : HO (h4 ++ [.inr (0, dflt 0)]) a 1 [.int 0, .int 0, .int 0, .int 0, .null] := O4.ap
  simp only [s13_29]
  refine Call.mono (i_K N5 (len_ap _ _ L4)) ?_
  rintro rv h6 ⟨rfl, L6, K6, B6⟩
  have O6 : HO h6 a 1 [.int 0, .int 0, .int 0, .int 0, .null] := O5.at (B6 a (by omega))
  obtain ⟨h7, e7, O7, r7⟩ := O6.st (k := 4) (v := .ref (a + 1)) (Nat.le_of_ble_eq_true rfl) rfl
  simp only [Option.toList_none, List.nil_append, s13_32, s13_35, e7, oB_some]
  refine ⟨by first | trivial | rfl, r7.1.trans L6, ⟨O7, K6.fr r7 (by omega)⟩, ?_⟩
  exact (((Bl.fr rr (Nat.le_refl _)).tr (Bl.ap (by omega))).tr (B6.up (by omega))).tr (Bl.fr r7 (Nat.le_refl _))
/-- a new state: two views -/
def S0 : St := (fun _ => kNil, fun v => decide (v < 2), fun _ => 0, fun _ => 0, [], fun _ => 0, 0)
theorem S0_wf : Wf S0 := ⟨Nat.zero_le _, fun w hw => absurd hw (Nat.not_lt_zero w), Nat.zero_le _, by decide, fun L hL => (by cases hL), ⟨0, by decide, rfl⟩, List.Pairwise.nil⟩
theorem i_S {h : AHp} {t : Nat} (hO : HO h t 3 (dflt 3)) (hl : h.length = t + 1) : Call 16 [.ref t] h (fun rv h' => rv = none ∧ h'.length = t + 69 ∧ HS h' t S0 ∧ Bl t h h') := by
  have nc : ∀ k : Int32, True := fun _ => trivial
  -- the arrays and the numbers
  obtain ⟨h1, e1, O1, r1⟩ := (hO.ap (e := .inl (1, 6, .inr (fun _ => none)))).st (k := 0) (v := .ref (t + 1)) (Nat.le_of_ble_eq_true rfl) rfl
  have L1 : h1.length = t + 2 := r1.1.trans (len_ap _ _ hl)
  have Q1 : HQp h1 (t + 1) 1 6 0 (fun v => t + 5 + 4 * v) := (new_Q h 1 6 _ hl).at (r1.2 _ (by omega))
  have B1 : Bl t h h1 := (Bl.ap (by omega)).tr (Bl.fr r1 (Nat.le_refl _))
  simp only [s16_0, s16_1, s16_4, s16_5, s16_e, s16_7 (show ¬ ((6 : Int32) < 0 ∨ 100000 < (6 : Int32).toNatClampNeg) by decide), s16_10, (show (6 : Int32).toNatClampNeg = 6 from rfl), hl, e1, oB_some]
  obtain ⟨h2, e2, O2, r2⟩ := O1.st (k := 1) (v := .int 3) (Nat.le_of_ble_eq_true rfl) rfl
  have L2 : h2.length = t + 2 := r2.1.trans L1
  have Q2 := Q1.at (r2.2 (t + 1) (by omega))
  have B2 : Bl t h h2 := B1.tr (Bl.fr r2 (Nat.le_refl _))
  simp only [s16_13, s16_14, s16_15, e2, oB_some]
  obtain ⟨h3, e3, O3, r3⟩ := (O2.ap (e := .inl (0, 8, .inl (fun _ => 0)))).st (k := 2) (v := .ref (t + 2)) (Nat.le_of_ble_eq_true rfl) rfl
  have L3 : h3.length = t + 3 := r3.1.trans (len_ap _ _ L2)
  have Q3 := (Q2.at (List.getElem?_append_left (l₂ := [.inl (0, 8, .inl (fun _ => 0))]) (by omega))).at (r3.2 (t + 1) (by omega))
  have A3 : HA h3 (t + 2) 8 (fun _ => 0) := (new_A h2 8 L2).fr r3 (by omega)
  have B3 : Bl t h h3 := (B2.tr (Bl.ap (by omega))).tr (Bl.fr r3 (Nat.le_refl _))
  simp only [s16_18, s16_19, s16_21 (show ¬ ((8 : Int32) < 0 ∨ 100000 < (8 : Int32).toNatClampNeg) by decide), s16_23, (show (8 : Int32).toNatClampNeg = 8 from rfl), L2, e3, oB_some]
  obtain ⟨h4, e4, O4, r4⟩ := (O3.ap (e := .inl (0, 8, .inl (fun _ => 0)))).st (k := 3) (v := .ref (t + 3)) (Nat.le_of_ble_eq_true rfl) rfl
  have L4 : h4.length = t + 4 := r4.1.trans (len_ap _ _ L3)
  have Q4 := (Q3.at (List.getElem?_append_left (l₂ := [.inl (0, 8, .inl (fun _ => 0))]) (by omega))).at (r4.2 (t + 1) (by omega))
  have A4 : HA h4 (t + 2) 8 (fun _ => 0) := A3.ap.fr r4 (by omega)
  have C4 : HA h4 (t + 3) 8 (fun _ => 0) := (new_A h3 8 L3).fr r4 (by omega)
  have B4 : Bl t h h4 := (B3.tr (Bl.ap (by omega))).tr (Bl.fr r4 (Nat.le_refl _))
  simp only [s16_26, s16_27, s16_29 (show ¬ ((8 : Int32) < 0 ∨ 100000 < (8 : Int32).toNatClampNeg) by decide), s16_31, (show (8 : Int32).toNatClampNeg = 8 from rfl), L3, e4, oB_some]
  obtain ⟨h5, e5, O5, r5⟩ := O4.st (k := 4) (v := .int 0) (Nat.le_of_ble_eq_true rfl) rfl
  have L5 : h5.length = t + 4 := r5.1.trans L4
  have Q5 := Q4.at (r5.2 (t + 1) (by omega))
  have A5 := A4.fr r5 (by omega)
  have C5 := C4.fr r5 (by omega)
  have B5 : Bl t h h5 := B4.tr (Bl.fr r5 (Nat.le_refl _))
  simp only [s16_34, s16_35, s16_36, e5, oB_some]
  obtain ⟨h6, e6, O6, r6⟩ := (O5.ap (e := .inl (2, 8, .inr (fun _ => none)))).st (k := 5) (v := .ref (t + 4)) (Nat.le_of_ble_eq_true rfl) rfl
  have L6 : h6.length = t + 5 := r6.1.trans (len_ap _ _ L5)
  have Q6 := (Q5.at (List.getElem?_append_left (l₂ := [.inl (2, 8, .inr (fun _ => none))]) (by omega))).at (r6.2 (t + 1) (by omega))
  have A6 : HA h6 (t + 2) 8 (fun _ => 0) := A5.ap.fr r6 (by omega)
  have C6 : HA h6 (t + 3) 8 (fun _ => 0) := C5.ap.fr r6 (by omega)
  have D6 : HQp h6 (t + 4) 2 8 0 (fun k => t + 29 + 5 * k) := (new_Q h5 2 8 _ L5).at (r6.2 _ (by omega))
  have B6 : Bl t h h6 := (B5.tr (Bl.ap (by omega))).tr (Bl.fr r6 (Nat.le_refl _))
  simp only [s16_39, s16_40, s16_42 (show ¬ ((8 : Int32) < 0 ∨ 100000 < (8 : Int32).toNatClampNeg) by decide), s16_45, (show (8 : Int32).toNatClampNeg = 8 from rfl), L5, e6, oB_some]
  obtain ⟨h7, e7, O7, r7⟩ := O6.st (k := 6) (v := .int 0) (Nat.le_of_ble_eq_true rfl) rfl
  obtain ⟨h8, e8, O8, r8⟩ := O7.st (k := 7) (v := .int 0) (Nat.le_of_ble_eq_true rfl) rfl
  obtain ⟨h9, e9, O9, r9⟩ := O8.st (k := 8) (v := .int 0) (Nat.le_of_ble_eq_true rfl) rfl
  obtain ⟨h10, e10, O10, r10⟩ := O9.st (k := 9) (v := .int 0) (Nat.le_of_ble_eq_true rfl) rfl
  obtain ⟨h11, e11, O11, r11⟩ := O10.st (k := 10) (v := .int 0) (Nat.le_of_ble_eq_true rfl) rfl
  have rr := (((r7.tr r8).tr r9).tr r10).tr r11
  have L11 : h11.length = t + 5 := rr.1.trans L6
  have Q11 := Q6.at (rr.2 (t + 1) (by omega))
  have A11 := A6.fr rr (by omega)
  have C11 := C6.fr rr (by omega)
  have D11 := D6.at (rr.2 (t + 4) (by omega))
  have B11 : Bl t h h11 := B6.tr (Bl.fr rr (Nat.le_refl _))
  simp only [s16_48, s16_49, s16_50, s16_53, s16_54, s16_55, s16_58, s16_59, s16_60, s16_63, s16_64, s16_65, s16_68, s16_69, s16_70, s16_73, s16_74, e7, e8, e9, e10, e11, oB_some]
  obtain ⟨fs, hfs⟩ : ∃ fs : List Value, fs = [.ref (t + 1), .int 3, .ref (t + 2), .ref (t + 3), .int 0, .ref (t + 4), .int 0, .int 0, .int 0, .int 0, .int 0] := ⟨_, rfl⟩
  have O11 : HO h11 t 3 fs := by rw [hfs]; exact O11
  have loop2 : ∀ d k (hh : AHp), k + d = 8 → hh.length = t + 29 + 5 * k → HO hh t 3 fs → HQp hh (t + 1) 1 6 6 (fun v => t + 5 + 4 * v) → (∀ u, u < 6 → HK hh (t + 5 + 4 * u) kNil) → HA hh (t + 2) 8 (fun _ => 0) → HA hh (t + 3) 8 (fun _ => 0) → HQp hh (t + 4) 2 8 k (fun k => t + 29 + 5 * k) → (∀ j, j < k → HL hh (t + 29 + 5 * j) (0, 0, 0, false, kNil)) → Bl t h hh →
      Ev none 16 102 [.ref t, .int (nI k)] [] hh (fun rv h' => rv = none ∧ h'.length = t + 69 ∧ HS h' t S0 ∧ Bl t h h') := by
    intro d
    induction d with
    | zero =>
      intro k hh hk y1 y2 y3 y4 y5 y6 y7 y8 y9
      obtain rfl : k = 8 := by omega
      simp only [s16_102, s16_103, s16_105, if_pos (show (8 : Int32) ≤ nI 8 by decide)]
      simp only [s16_127]
      refine ⟨by first | trivial | rfl, y1, ⟨fun k => if k = 1 then 3 else 0, fun _ => 0, fun _ => 0, fun k => k, fun _ => (0, 0, 0, false, kNil), ⟨by rw [hfs] at y2; exact y2, y3, y4, y5, y6, fun k hk => hk, y7, y8⟩, ⟨by decide, rfl, rfl, rfl, rfl, rfl, rfl, fun w hw => absurd hw (Nat.not_lt_zero w), fun w hw => absurd hw (Nat.not_lt_zero w), fun i j _ _ q => q, fun k M q => by cases q⟩, S0_wf⟩, y9⟩
    | succ d ih =>
      intro k hh hk y1 y2 y3 y4 y5 y6 y7 y8 y9
      have hk8 : k < 8 := by omega
      have f5 : fldv hh t 3 5 = some (.ref (t + 4)) := by rw [hfs] at y2; exact y2.ld rfl
      simp only [s16_102, s16_103, s16_105, if_neg (le8 hk8)]
      simp only [s16_108, s16_109, s16_112, s16_113, s16_116, f5, oB_some, y1]
      have N5 := new_O hh 1 y1
      simp only [s16_117]
      refine Call.mono (i_L N5 (len_ap _ _ y1)) ?_
      rintro rv h12 ⟨rfl, L12, K12, B12⟩
      have B13 : Bl (t + 29 + 5 * k) hh h12 := (Bl.ap (by omega)).tr B12
      have ltv : ∀ u, u < 6 → t + 5 + 4 * u + 4 ≤ t + 29 + 5 * k := fun u hu => by omega
      obtain ⟨h13, e13, D13, r13⟩ := (y7.at (B13 _ (by omega))).st (v := t + 29 + 5 * k) hk8 (by decide) (by decide) K12.1.is rfl rfl
      simp only [Option.toList_none, List.nil_append, s16_120, s16_121, s16_124, e13, oB_some, nI_1]
      refine ih (k + 1) h13 (by omega) ?_ ((y2.at (B13 _ (by omega))).fr r13 (by omega)) ((y3.at (B13 _ (by omega))).at (r13.2 _ (by omega))) (fun u hu => ((y4 u hu).at (fun j h1 h2 => B13 j (by have := ltv u hu; omega))).fr r13 (by omega)) ((y5.at (B13 _ (by omega))).fr r13 (by omega)) ((y6.at (B13 _ (by omega))).fr r13 (by omega)) D13 (fun j hj => ?_) ((y9.tr (B13.up (by omega))).tr (Bl.fr r13 (by omega)))
      · rw [r13.1, L12]; omega
      · by_cases e : j = k
        · subst e; exact K12.fr r13 (by omega)
        · exact ((y8 j (by omega)).at (fun i h1 h2 => B13 i (by omega))).fr r13 (by omega)
  have loop1 : ∀ d v (hh : AHp), v + d = 6 → hh.length = t + 5 + 4 * v → HO hh t 3 fs → HQp hh (t + 1) 1 6 v (fun v => t + 5 + 4 * v) → (∀ u, u < v → HK hh (t + 5 + 4 * u) kNil) → HA hh (t + 2) 8 (fun _ => 0) → HA hh (t + 3) 8 (fun _ => 0) → HQp hh (t + 4) 2 8 0 (fun k => t + 29 + 5 * k) → Bl t h hh →
      Ev none 16 75 [.ref t, .int (nI v)] [] hh (fun rv h' => rv = none ∧ h'.length = t + 69 ∧ HS h' t S0 ∧ Bl t h h') := by
    intro d
    induction d with
    | zero =>
      intro v hh hv y1 y2 y3 y4 y5 y6 y7 y9
      obtain rfl : v = 6 := by omega
      simp only [s16_75, s16_76, s16_78, if_pos (show (6 : Int32) ≤ nI 6 by decide)]
      simp only [s16_100, s16_101]
      exact loop2 8 0 hh rfl (by omega) y2 y3 y4 y5 y6 y7 (fun j hj => by omega) y9
    | succ d ih =>
      intro v hh hv y1 y2 y3 y4 y5 y6 y7 y9
      have hv6 : v < 6 := by omega
      have f0 : fldv hh t 3 0 = some (.ref (t + 1)) := by rw [hfs] at y2; exact y2.ld rfl
      simp only [s16_75, s16_76, s16_78, if_neg (le6 hv6)]
      simp only [s16_81, s16_82, s16_85, s16_86, s16_89, f0, oB_some, y1]
      have N5 := new_O hh 0 y1
      simp only [s16_90]
      refine Call.mono (i_K N5 (len_ap _ _ y1)) ?_
      rintro rv h12 ⟨rfl, L12, K12, B12⟩
      have B13 : Bl (t + 5 + 4 * v) hh h12 := (Bl.ap (by omega)).tr B12
      obtain ⟨h13, e13, D13, r13⟩ := (y3.at (B13 _ (by omega))).st (v := t + 5 + 4 * v) hv6 (by decide) (by decide) K12.1.is rfl rfl
      simp only [Option.toList_none, List.nil_append, s16_93, s16_94, s16_97, e13, oB_some, nI_1]
      refine ih (v + 1) h13 (by omega) ?_ ((y2.at (B13 _ (by omega))).fr r13 (by omega)) D13 (fun u hu => ?_) ((y5.at (B13 _ (by omega))).fr r13 (by omega)) ((y6.at (B13 _ (by omega))).fr r13 (by omega)) ((y7.at (B13 _ (by omega))).at (r13.2 _ (by omega))) ((y9.tr (B13.up (by omega))).tr (Bl.fr r13 (by omega)))
      · rw [r13.1, L12]; omega
      · by_cases e : u = v
        · subst e; exact K12.fr r13 (by omega)
        · exact ((y4 u (by omega)).at (fun i h1 h2 => B13 i (by omega))).fr r13 (by omega)
  exact loop1 6 0 h11 rfl L11 O11 Q11 (fun u hu => by omega) A11 C11 D11 B11
