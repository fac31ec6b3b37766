/-! Constructors. -/
theorem HO.ap {h : AHp} {a c : Nat} {fs : List Value} {e : AE} (o : HO h a c fs) : HO (h ++ [e]) a c fs := o.at (List.getElem?_append_left (List.getElem?_eq_some_iff.mp o).1)
theorem HA.ap {h : AHp} {a n : Nat} {f : Nat → Int32} {e : AE} (o : HA h a n f) : HA (h ++ [e]) a n f := by
  obtain ⟨g, h1, h2⟩ := id o
  exact o.at (List.getElem?_append_left (List.getElem?_eq_some_iff.mp h1).1)
theorem new_A (h : AHp) (n : Nat) {m : Nat} (hm : h.length = m) : HA (h ++ [.inl (0, n, .inl (fun _ => 0))]) m n (fun _ => 0) :=
  ⟨fun _ => 0, by rw [List.getElem?_append_right (by omega), hm, Nat.sub_self]; rfl, fun _ _ => rfl⟩
theorem new_O (h : AHp) (c : Nat) {m : Nat} (hm : h.length = m) : HO (h ++ [.inr (c, dflt c)]) m c (dflt c) := by
  unfold HO
  rw [List.getElem?_append_right (by omega), hm, Nat.sub_self]; rfl
theorem len_ap (h : AHp) (e : AE) {m : Nat} (hm : h.length = m) : (h ++ [e]).length = m + 1 := by rw [List.length_append, hm]; rfl
theorem i_K {h : AHp} {a : Nat} (hO : HO h a 0 (dflt 0)) (hl : h.length = a + 1) : Call 0 [.ref a] h (fun rv h' => rv = none ∧ h'.length = a + 4 ∧ HK h' a kNil ∧ Bl a h h') := by
  have O0 : HO h a 0 [.null, .null, .null, .int 0] := hO
  have L0 := hl
  have B0 : Bl a h h := fun _ _ => rfl
  obtain ⟨h1, e1, O1, r1⟩ := (O0.ap (e := .inl (0, 8, .inl (fun _ => 0)))).st (k := 0) (v := .ref (a + 1)) (Nat.le_of_ble_eq_true rfl) rfl
  have L1 : h1.length = a + 2 := r1.1.trans (len_ap _ _ L0)
  have B1 : Bl a h h1 := (B0.tr (Bl.ap (by omega))).tr (Bl.fr r1 (Nat.le_refl _))
  have A1_1 : HA h1 (a + 1) 8 (fun _ => 0) := (new_A h 8 L0).fr r1 (by omega)
  simp only [s0_e, s0_0, s0_1, s0_4, s0_5, s0_7 (show ¬ ((8 : Int32) < 0 ∨ 100000 < (8 : Int32).toNatClampNeg) by decide), s0_9, (show (8 : Int32).toNatClampNeg = 8 from rfl), L0, e1, oB_some]
  obtain ⟨h2, e2, O2, r2⟩ := (O1.ap (e := .inl (0, 8, .inl (fun _ => 0)))).st (k := 1) (v := .ref (a + 2)) (Nat.le_of_ble_eq_true rfl) rfl
  have L2 : h2.length = a + 3 := r2.1.trans (len_ap _ _ L1)
  have B2 : Bl a h h2 := (B1.tr (Bl.ap (by omega))).tr (Bl.fr r2 (Nat.le_refl _))
  have A1_2 : HA h2 (a + 1) 8 (fun _ => 0) := A1_1.ap.fr r2 (by omega)
  have A2_2 : HA h2 (a + 2) 8 (fun _ => 0) := (new_A h1 8 L1).fr r2 (by omega)
  simp only [s0_12, s0_13, s0_15 (show ¬ ((8 : Int32) < 0 ∨ 100000 < (8 : Int32).toNatClampNeg) by decide), s0_17, (show (8 : Int32).toNatClampNeg = 8 from rfl), L1, e2, oB_some]
  obtain ⟨h3, e3, O3, r3⟩ := (O2.ap (e := .inl (0, 8, .inl (fun _ => 0)))).st (k := 2) (v := .ref (a + 3)) (Nat.le_of_ble_eq_true rfl) rfl
  have L3 : h3.length = a + 4 := r3.1.trans (len_ap _ _ L2)
  have B3 : Bl a h h3 := (B2.tr (Bl.ap (by omega))).tr (Bl.fr r3 (Nat.le_refl _))
  have A1_3 : HA h3 (a + 1) 8 (fun _ => 0) := A1_2.ap.fr r3 (by omega)
  have A2_3 : HA h3 (a + 2) 8 (fun _ => 0) := A2_2.ap.fr r3 (by omega)
  have A3_3 : HA h3 (a + 3) 8 (fun _ => 0) := (new_A h2 8 L2).fr r3 (by omega)
  simp only [s0_20, s0_21, s0_23 (show ¬ ((8 : Int32) < 0 ∨ 100000 < (8 : Int32).toNatClampNeg) by decide), s0_25, (show (8 : Int32).toNatClampNeg = 8 from rfl), L2, e3, oB_some]
  obtain ⟨h4, e4, O4, r4⟩ := O3.st (k := 3) (v := .int 0) (Nat.le_of_ble_eq_true rfl) rfl
  have L4 : h4.length = a + 4 := r4.1.trans L3
  have B4 : Bl a h h4 := B3.tr (Bl.fr r4 (Nat.le_refl _))
  have A1_4 : HA h4 (a + 1) 8 (fun _ => 0) := A1_3.fr r4 (by omega)
  have A2_4 : HA h4 (a + 2) 8 (fun _ => 0) := A2_3.fr r4 (by omega)
  have A3_4 : HA h4 (a + 3) 8 (fun _ => 0) := A3_3.fr r4 (by omega)
  simp only [s0_28, s0_29, s0_30, e4, oB_some]
  simp only [s0_33]
  exact ⟨by first | trivial | rfl, L4, ⟨O4, A1_4, A2_4, A3_4⟩, B4⟩
theorem i_C {h : AHp} {a : Nat} (hO : HO h a 2 (dflt 2)) (hl : h.length = a + 1) : Call 15 [.ref a] h (fun rv h' => rv = none ∧ h'.length = a + 3 ∧ HO h' a 2 [.ref (a + 1), .int 0, .int 0, .int (-1), .int 0, .int 0, .int 0, .ref (a + 2), .int 0] ∧ HA h' (a + 1) 60 (fun _ => 0) ∧ HA h' (a + 2) 3 (fun _ => 0) ∧ Bl a h h') := by
  have O0 : HO h a 2 [.null, .int 0, .int 0, .int 0, .int 0, .int 0, .int 0, .null, .int 0] := hO
  have L0 := hl
  have B0 : Bl a h h := fun _ _ => rfl
  obtain ⟨h1, e1, O1, r1⟩ := (O0.ap (e := .inl (0, 60, .inl (fun _ => 0)))).st (k := 0) (v := .ref (a + 1)) (Nat.le_of_ble_eq_true rfl) rfl
  have L1 : h1.length = a + 2 := r1.1.trans (len_ap _ _ L0)
  have B1 : Bl a h h1 := (B0.tr (Bl.ap (by omega))).tr (Bl.fr r1 (Nat.le_refl _))
  have A1_1 : HA h1 (a + 1) 60 (fun _ => 0) := (new_A h 60 L0).fr r1 (by omega)
  simp only [s15_e, s15_0, s15_1, s15_4, s15_5, s15_7 (show ¬ ((60 : Int32) < 0 ∨ 100000 < (60 : Int32).toNatClampNeg) by decide), s15_9, (show (60 : Int32).toNatClampNeg = 60 from rfl), L0, e1, oB_some]
  obtain ⟨h2, e2, O2, r2⟩ := O1.st (k := 1) (v := .int 0) (Nat.le_of_ble_eq_true rfl) rfl
  have L2 : h2.length = a + 2 := r2.1.trans L1
  have B2 : Bl a h h2 := B1.tr (Bl.fr r2 (Nat.le_refl _))
  have A1_2 : HA h2 (a + 1) 60 (fun _ => 0) := A1_1.fr r2 (by omega)
  simp only [s15_12, s15_13, s15_14, e2, oB_some]
  obtain ⟨h3, e3, O3, r3⟩ := O2.st (k := 2) (v := .int 0) (Nat.le_of_ble_eq_true rfl) rfl
  have L3 : h3.length = a + 2 := r3.1.trans L2
  have B3 : Bl a h h3 := B2.tr (Bl.fr r3 (Nat.le_refl _))
  have A1_3 : HA h3 (a + 1) 60 (fun _ => 0) := A1_2.fr r3 (by omega)
  simp only [s15_17, s15_18, s15_19, e3, oB_some]
  obtain ⟨h4, e4, O4, r4⟩ := O3.st (k := 3) (v := .int (-1)) (Nat.le_of_ble_eq_true rfl) rfl
  have L4 : h4.length = a + 2 := r4.1.trans L3
  have B4 : Bl a h h4 := B3.tr (Bl.fr r4 (Nat.le_refl _))
  have A1_4 : HA h4 (a + 1) 60 (fun _ => 0) := A1_3.fr r4 (by omega)
  simp only [s15_22, s15_23, s15_24, e4, oB_some]
  obtain ⟨h5, e5, O5, r5⟩ := O4.st (k := 4) (v := .int 0) (Nat.le_of_ble_eq_true rfl) rfl
  have L5 : h5.length = a + 2 := r5.1.trans L4
  have B5 : Bl a h h5 := B4.tr (Bl.fr r5 (Nat.le_refl _))
  have A1_5 : HA h5 (a + 1) 60 (fun _ => 0) := A1_4.fr r5 (by omega)
  simp only [s15_27, s15_28, s15_29, e5, oB_some]
  obtain ⟨h6, e6, O6, r6⟩ := O5.st (k := 5) (v := .int 0) (Nat.le_of_ble_eq_true rfl) rfl
  have L6 : h6.length = a + 2 := r6.1.trans L5
  have B6 : Bl a h h6 := B5.tr (Bl.fr r6 (Nat.le_refl _))
  have A1_6 : HA h6 (a + 1) 60 (fun _ => 0) := A1_5.fr r6 (by omega)
  simp only [s15_32, s15_33, s15_34, e6, oB_some]
  obtain ⟨h7, e7, O7, r7⟩ := O6.st (k := 6) (v := .int 0) (Nat.le_of_ble_eq_true rfl) rfl
  have L7 : h7.length = a + 2 := r7.1.trans L6
  have B7 : Bl a h h7 := B6.tr (Bl.fr r7 (Nat.le_refl _))
  have A1_7 : HA h7 (a + 1) 60 (fun _ => 0) := A1_6.fr r7 (by omega)
  simp only [s15_37, s15_38, s15_39, e7, oB_some]
  obtain ⟨h8, e8, O8, r8⟩ := (O7.ap (e := .inl (0, 3, .inl (fun _ => 0)))).st (k := 7) (v := .ref (a + 2)) (Nat.le_of_ble_eq_true rfl) rfl
  have L8 : h8.length = a + 3 := r8.1.trans (len_ap _ _ L7)
  have B8 : Bl a h h8 := (B7.tr (Bl.ap (by omega))).tr (Bl.fr r8 (Nat.le_refl _))
  have A1_8 : HA h8 (a + 1) 60 (fun _ => 0) := A1_7.ap.fr r8 (by omega)
  have A2_8 : HA h8 (a + 2) 3 (fun _ => 0) := (new_A h7 3 L7).fr r8 (by omega)
  simp only [s15_42, s15_43, s15_44 (show ¬ ((3 : Int32) < 0 ∨ 100000 < (3 : Int32).toNatClampNeg) by decide), s15_46, (show (3 : Int32).toNatClampNeg = 3 from rfl), L7, e8, oB_some]
  obtain ⟨h9, e9, O9, r9⟩ := O8.st (k := 8) (v := .int 0) (Nat.le_of_ble_eq_true rfl) rfl
  have L9 : h9.length = a + 3 := r9.1.trans L8
  have B9 : Bl a h h9 := B8.tr (Bl.fr r9 (Nat.le_refl _))
  have A1_9 : HA h9 (a + 1) 60 (fun _ => 0) := A1_8.fr r9 (by omega)
  have A2_9 : HA h9 (a + 2) 3 (fun _ => 0) := A2_8.fr r9 (by omega)
  simp only [s15_49, s15_50, s15_51, e9, oB_some]
  simp only [s15_54]
  exact ⟨by first | trivial | rfl, L9, O9, A1_9, A2_9, B9⟩