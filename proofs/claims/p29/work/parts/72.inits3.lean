/-! The outer object and the model as they are made: the start. -/
def q0 (i : Nat) : Nat := if i < 4 then i + 2 else i - 4
theorem q0_ok : ∀ i, i < 6 → q0 i < 6 ∧ ∀ j, j < 6 → q0 i = q0 j → i = j := by decide
theorem q0_ad : ∀ i, i < 4 → ad (q0 i) = 147 + 69 * i := by decide
theorem i_P {h : AHp} (hO : HO h 0 4 (dflt 4)) (hl : h.length = 1) : Call 42 [.ref 0] h (fun rv h' => rv = none ∧ h'.length = 423 ∧ HP h' S0 [] 0 (fun _ => 0)) := by
  simp only [s42_0, s42_1, s42_4, s42_5, s42_8, s42_e, hl]
  have N0 := new_O h 3 hl
  have O0 : HO (h ++ [.inr (3, dflt 3)]) 0 4 (dflt 4) := hO.ap
  simp only [s42_9]
  refine Call.mono (i_S N0 (len_ap _ _ hl)) ?_
  rintro rv h1 ⟨rfl, L1, S1, B1⟩
  obtain ⟨h2, e2, O2, r2⟩ := (O0.at (B1 0 (by omega))).st (k := 0) (v := .ref 1) (Nat.le_of_ble_eq_true rfl) rfl
  have L2 : h2.length = 70 := r2.1.trans L1
  have S2 := S1.fr r2 (by omega)
  simp only [Option.toList_none, List.nil_append, s42_12, s42_15, s42_16, s42_19, e2, oB_some, L2]
  have N2 := new_O h2 3 L2
  have O2' : HO (h2 ++ [.inr (3, dflt 3)]) 0 4 _ := O2.ap
  have S2' : HS (h2 ++ [.inr (3, dflt 3)]) 1 S0 := S2.at (fun j h1 h2 => List.getElem?_append_left (by omega))
  simp only [s42_20]
  refine Call.mono (i_S N2 (len_ap _ _ L2)) ?_
  rintro rv h3 ⟨rfl, L3, S3, B3⟩
  have S3a : HS h3 1 S0 := S2'.at (fun j h1 h2 => B3 j (by omega))
  obtain ⟨h4, e4, O4, r4⟩ := (O2'.at (B3 0 (by omega))).st (k := 1) (v := .ref 70) (Nat.le_of_ble_eq_true rfl) rfl
  have L4 : h4.length = 139 := r4.1.trans L3
  have S4a := S3a.fr r4 (by omega)
  have S4b := S3.fr r4 (by omega)
  obtain ⟨h5, e5, O5, r5⟩ := (O4.ap (e := .inl (3, 4, .inr (fun _ => none)))).st (k := 2) (v := .ref 139) (Nat.le_of_ble_eq_true rfl) rfl
  have L5 : h5.length = 140 := r5.1.trans (len_ap _ _ L4)
  have Q5 : HQp h5 139 3 4 0 (fun k => 147 + 69 * k) := (new_Q h4 3 4 _ L4).at (r5.2 _ (by omega))
  have S4a' : HS (h4 ++ [.inl (3, 4, .inr (fun _ => none))]) 1 S0 := S4a.at (fun j h1 h2 => List.getElem?_append_left (by omega))
  have S4b' : HS (h4 ++ [.inl (3, 4, .inr (fun _ => none))]) 70 S0 := S4b.at (fun j h1 h2 => List.getElem?_append_left (by omega))
  have S5a : HS h5 1 S0 := S4a'.fr r5 (by omega)
  have S5b : HS h5 70 S0 := S4b'.fr r5 (by omega)
  simp only [Option.toList_none, List.nil_append, s42_23, s42_26, s42_27, e4, oB_some, s42_28 (show ¬ ((4 : Int32) < 0 ∨ 100000 < (4 : Int32).toNatClampNeg) by decide), s42_31, (show (4 : Int32).toNatClampNeg = 4 from rfl), L4, e5]
  obtain ⟨h6, e6, O6, r6⟩ := O5.st (k := 3) (v := .int 0) (Nat.le_of_ble_eq_true rfl) rfl
  have L6 : h6.length = 140 := r6.1.trans L5
  have Q6 := Q5.at (r6.2 139 (by omega))
  have S6a := S5a.fr r6 (by omega)
  have S6b := S5b.fr r6 (by omega)
  simp only [s42_34, s42_35, s42_36, s42_39, s42_40, s42_43, e6, oB_some, L6]
  have N6 := new_O h6 0 L6
  have O6' : HO (h6 ++ [.inr (0, dflt 0)]) 0 4 _ := O6.ap
  have Q6' := Q6.at (List.getElem?_append_left (l₂ := [.inr (0, dflt 0)]) (by omega))
  have S6a' : HS (h6 ++ [.inr (0, dflt 0)]) 1 S0 := S6a.at (fun j h1 h2 => List.getElem?_append_left (by omega))
  have S6b' : HS (h6 ++ [.inr (0, dflt 0)]) 70 S0 := S6b.at (fun j h1 h2 => List.getElem?_append_left (by omega))
  simp only [s42_44]
  refine Call.mono (i_K N6 (len_ap _ _ L6)) ?_
  rintro rv h7 ⟨rfl, L7, K7, B7⟩
  obtain ⟨h8, e8, O8, r8⟩ := (O6'.at (B7 0 (by omega))).st (k := 4) (v := .ref 140) (Nat.le_of_ble_eq_true rfl) rfl
  have L8 : h8.length = 144 := r8.1.trans L7
  have Q8 := (Q6'.at (B7 139 (by omega))).at (r8.2 139 (by omega))
  have S8a := (S6a'.at (fun j h1 h2 => B7 j (by omega))).fr r8 (by omega)
  have S8b := (S6b'.at (fun j h1 h2 => B7 j (by omega))).fr r8 (by omega)
  have K8 := K7.fr r8 (by omega)
  simp only [Option.toList_none, List.nil_append, s42_47, s42_50, s42_51, s42_54, e8, oB_some, L8]
  have N8 := new_O h8 2 L8
  have O8' : HO (h8 ++ [.inr (2, dflt 2)]) 0 4 _ := O8.ap
  have Q8' := Q8.at (List.getElem?_append_left (l₂ := [.inr (2, dflt 2)]) (by omega))
  have S8a' : HS (h8 ++ [.inr (2, dflt 2)]) 1 S0 := S8a.at (fun j h1 h2 => List.getElem?_append_left (by omega))
  have S8b' : HS (h8 ++ [.inr (2, dflt 2)]) 70 S0 := S8b.at (fun j h1 h2 => List.getElem?_append_left (by omega))
  have K8' : HK (h8 ++ [.inr (2, dflt 2)]) 140 kNil := K8.at (fun j h1 h2 => List.getElem?_append_left (by omega))
  simp only [s42_55]
  refine Call.mono (i_C N8 (len_ap _ _ L8)) ?_
  rintro rv h9 ⟨rfl, L9, C9o, C9a, C9b, B9⟩
  obtain ⟨h10, e10, O10, r10⟩ := (O8'.at (B9 0 (by omega))).st (k := 5) (v := .ref 144) (Nat.le_of_ble_eq_true rfl) rfl
  have L10 : h10.length = 147 := r10.1.trans L9
  have Q10 := (Q8'.at (B9 139 (by omega))).at (r10.2 139 (by omega))
  have S10a := (S8a'.at (fun j h1 h2 => B9 j (by omega))).fr r10 (by omega)
  have S10b := (S8b'.at (fun j h1 h2 => B9 j (by omega))).fr r10 (by omega)
  have K10 := (K8'.at (fun j h1 h2 => B9 j (by omega))).fr r10 (by omega)
  have C10 : HC h10 (fun k => if k = 3 then -1 else 0) (fun _ => 0) (fun _ => 0) := ⟨C9o.fr r10 (by omega), C9a.fr r10 (by omega), C9b.fr r10 (by omega)⟩
  obtain ⟨fs, hfs⟩ : ∃ fs : List Value, fs = [.ref 1, .ref 70, .ref 139, .int (nI 0), .ref 140, .ref 144] := ⟨_, rfl⟩
  have O10 : HO h10 0 4 fs := by rw [hfs]; exact O10
  simp only [Option.toList_none, List.nil_append, s42_58, s42_61, s42_62, e10, oB_some]
  have loop : ∀ d k (hh : AHp), k + d = 4 → hh.length = 147 + 69 * k → HO hh 0 4 fs → HQp hh 139 3 4 k (fun k => 147 + 69 * k) → HS hh 1 S0 → HS hh 70 S0 → HK hh 140 kNil → HC hh (fun k => if k = 3 then -1 else 0) (fun _ => 0) (fun _ => 0) → (∀ j, j < k → HS hh (147 + 69 * j) S0) →
      Ev none 42 63 [.ref 0, .int (nI k)] [] hh (fun rv h' => rv = none ∧ h'.length = 423 ∧ HP h' S0 [] 0 (fun _ => 0)) := by
    intro d
    induction d with
    | zero =>
      intro k hh hk y1 y2 y3 y4 y5 y6 y7 y8
      obtain rfl : k = 4 := by omega
      simp only [s42_63, s42_64, s42_65, if_pos (show (4 : Int32) ≤ nI 4 by decide)]
      simp only [s42_87]
      refine ⟨by first | trivial | rfl, y1, 70, S0, q0, fun _ => S0, kNil, (fun k => if k = 3 then -1 else 0), (fun _ => 0), ⟨by rw [hfs] at y2; exact y2, ?_, fun j hj => ?_, y6, y7, fun i hi => (q0_ok i hi).1, fun i j hi hj => (q0_ok i hi).2 j hj⟩, rfl, Nat.zero_le _, Nat.zero_le _, rfl, rfl, rfl, fun k hk => absurd hk (Nat.not_lt_zero k)⟩
      · obtain ⟨g, g1, g2⟩ := y3
        refine ⟨g, g1, fun i hi => ?_⟩
        rw [g2 i hi]
        show some (147 + 69 * i) = some (ad (q0 i))
        rw [q0_ad i hi]
      · by_cases c0 : j = 0
        · subst c0; exact y4
        · by_cases c1 : j = 1
          · subst c1; exact y5
          · obtain ⟨m, rfl⟩ : ∃ m, j = m + 2 := ⟨j - 2, by omega⟩
            exact y8 m (by omega)
    | succ d ih =>
      intro k hh hk y1 y2 y3 y4 y5 y6 y7 y8
      have hk4 : k < 4 := by omega
      have f2 : fldv hh 0 4 2 = some (.ref 139) := by rw [hfs] at y2; exact y2.ld rfl
      simp only [s42_63, s42_64, s42_65, if_neg (show ¬ (4 : Int32) ≤ nI k from nI_ge (b := 4) hk4 (by decide))]
      simp only [s42_68, s42_69, s42_72, s42_73, s42_76, f2, oB_some, y1]
      have N5 := new_O hh 3 y1
      simp only [s42_77]
      refine Call.mono (i_S N5 (len_ap _ _ y1)) ?_
      rintro rv h12 ⟨rfl, L12, K12, B12⟩
      have B13 : Bl (147 + 69 * k) hh h12 := (Bl.ap (by omega)).tr B12
      obtain ⟨h13, e13, D13, r13⟩ := (y3.at (B13 _ (by omega))).st (v := 147 + 69 * k) hk4 (by decide) (by decide) K12.f.2.2.2.2.2.2.2.2.2.2.2 rfl rfl
      simp only [Option.toList_none, List.nil_append, s42_80, s42_81, s42_84, e13, oB_some, nI_1]
      refine ih (k + 1) h13 (by omega) ?_ ((y2.at (B13 _ (by omega))).fr r13 (by omega)) D13 ((y4.at (fun i h1 h2 => B13 i (by omega))).fr r13 (by omega)) ((y5.at (fun i h1 h2 => B13 i (by omega))).fr r13 (by omega)) ((y6.at (fun i h1 h2 => B13 i (by omega))).fr r13 (by omega)) ?_ (fun j hj => ?_)
      · rw [r13.1, L12]; omega
      · exact (show HC h12 _ _ _ from ⟨y7.1.at (B13 _ (by omega)), y7.2.1.at (B13 _ (by omega)), y7.2.2.at (B13 _ (by omega))⟩).fr r13 (by omega)
      · by_cases e : j = k
        · subst e; exact K12.fr r13 (by omega)
        · exact ((y8 j (by omega)).at (fun i h1 h2 => B13 i (by omega))).fr r13 (by omega)
  exact loop 4 0 h10 rfl L10 O10 Q10 S10a S10b K10 C10 (fun j hj => by omega)
theorem S0_iv : IV 0 S0 := by
  refine ⟨fun _ => 0, fun v _ => KV.nil, fun M hM => (by cases hM), fun _ _ => Nat.zero_le _, Nat.le_refl _, Nat.zero_le _⟩
/-! Room. -/
def SzB (h : AHp) (k : Nat) : Prop := ∃ e, h[k]? = some e ∧ szE e ≤ 1680
theorem HO.sz {h : AHp} {a c : Nat} {fs : List Value} (o : HO h a c fs) (hf : fs.length ≤ 1680) : SzB h a := ⟨_, o, hf⟩
theorem HA.sz {h : AHp} {a n : Nat} {f : Nat → Int32} (o : HA h a n f) (hf : n ≤ 1680) : SzB h a := by
  obtain ⟨g, h1, h2⟩ := o
  exact ⟨_, h1, hf⟩
theorem HQ.sz {h : AHp} {a kd n : Nat} {f : Nat → Nat} (o : HQ h a kd n f) (hf : n ≤ 1680) : SzB h a := by
  obtain ⟨g, h1, h2⟩ := o
  exact ⟨_, h1, hf⟩
theorem HK.sz {h : AHp} {k : Nat} {K : Kn} (o : HK h k K) {j : Nat} (h1 : k ≤ j) (h2 : j < k + 4) : SzB h j := by
  have : j = k ∨ j = k + 1 ∨ j = k + 2 ∨ j = k + 3 := by omega
  rcases this with rfl | rfl | rfl | rfl
  · exact o.1.sz (Nat.le_of_ble_eq_true rfl)
  · exact o.2.1.sz (by decide)
  · exact o.2.2.1.sz (by decide)
  · exact o.2.2.2.sz (by decide)
theorem HL.sz {h : AHp} {a : Nat} {L : Lt} (o : HL h a L) {j : Nat} (h1 : a ≤ j) (h2 : j < a + 5) : SzB h j := by
  by_cases e : j = a
  · subst e; exact o.1.sz (Nat.le_of_ble_eq_true rfl)
  · exact o.2.sz (by omega) (by omega)
theorem HS.sz {h : AHp} {t : Nat} {S : St} (o : HS h t S) {j : Nat} (h1 : t ≤ j) (h2 : j < t + 69) : SzB h j := by
  obtain ⟨F, f, g, q, Ls, ⟨a1, a2, a3, a4, a5, a6, a7, a8⟩, -⟩ := o
  by_cases c0 : j = t
  · subst c0; exact a1.sz (Nat.le_of_ble_eq_true rfl)
  by_cases c1 : j = t + 1
  · subst c1; exact a2.sz (by decide)
  by_cases c2 : j = t + 2
  · subst c2; exact a4.sz (by decide)
  by_cases c3 : j = t + 3
  · subst c3; exact a5.sz (by decide)
  by_cases c4 : j = t + 4
  · subst c4; exact a7.sz (by decide)
  by_cases c5 : j < t + 29
  · exact (a3 ((j - t - 5) / 4) (by omega)).sz (by omega) (by omega)
  · exact (a8 ((j - t - 29) / 5) (by omega)).sz (by omega) (by omega)