section CPY
variable {h h' : AHp} {t : Nat} {S : St}
theorem bI_ok (b : Bool) : vOk .boolean (.int (bI b)) = true := by cases b <;> rfl
theorem HL.st {a k : Nat} {L : Lt} (hL : HL h a L) (x : Int32) (hk : k = 0 ∨ k = 1 ∨ k = 2) : ∃ h', stf h a 1 k (.int x) = some h' ∧ HO h' a 1 ([.int (nI L.1), .int (nI L.2.1), .int (nI L.2.2.1), .int (bI L.2.2.2.1), .ref (a + 1)].set k (.int x)) ∧ HK h' (a + 1) L.2.2.2.2 ∧ Fr a (a + 5) h h' := by
  obtain ⟨h', e, b, r⟩ := hL.1.st (k := k) (v := .int x) (by show k < 5; omega) (by rcases hk with rfl | rfl | rfl <;> rfl)
  exact ⟨h', e, b, hL.2.fr r (by omega), r.up (by omega) (by omega)⟩
theorem HL.s0 {a x : Nat} {L : Lt} (hL : HL h a L) : ∃ h', stf h a 1 0 (.int (nI x)) = some h' ∧ HL h' a (x, L.2) ∧ Fr a (a + 5) h h' := by
  obtain ⟨h', e, b, c, r⟩ := hL.st (nI x) (Or.inl rfl)
  exact ⟨h', e, ⟨b, c⟩, r⟩
theorem HL.s1 {a x : Nat} {L : Lt} (hL : HL h a L) : ∃ h', stf h a 1 1 (.int (nI x)) = some h' ∧ HL h' a (L.1, x, L.2.2) ∧ Fr a (a + 5) h h' := by
  obtain ⟨h', e, b, c, r⟩ := hL.st (nI x) (Or.inr (Or.inl rfl))
  exact ⟨h', e, ⟨b, c⟩, r⟩
theorem HL.s2 {a x : Nat} {L : Lt} (hL : HL h a L) : ∃ h', stf h a 1 2 (.int (nI x)) = some h' ∧ HL h' a (L.1, L.2.1, x, L.2.2.2) ∧ Fr a (a + 5) h h' := by
  obtain ⟨h', e, b, c, r⟩ := hL.st (nI x) (Or.inr (Or.inr rfl))
  exact ⟨h', e, ⟨b, c⟩, r⟩
theorem HL.s3 {a : Nat} {x : Bool} {L : Lt} (hL : HL h a L) : ∃ h', stf h a 1 3 (.int (bI x)) = some h' ∧ HL h' a (L.1, L.2.1, L.2.2.1, x, L.2.2.2.2) ∧ Fr a (a + 5) h h' := by
  obtain ⟨h', e, b, r⟩ := hL.1.st (k := 3) (v := .int (bI x)) (by show 3 < 5; omega) (bI_ok x)
  exact ⟨h', e, ⟨b, hL.2.fr r (by omega)⟩, r.up (by omega) (by omega)⟩
theorem HL.s4 {a : Nat} {K' : Kn} {L : Lt} (hL : HL h a L) (hk : HK h' (a + 1) K') (r : Fr (a + 1) (a + 1 + 4) h h') : HL h' a (L.1, L.2.1, L.2.2.1, L.2.2.2.1, K') ∧ Fr a (a + 5) h h' := ⟨⟨hL.1.fr r (by omega), hk⟩, r.up (by omega) (by omega)⟩
theorem c_copyL {a b : Nat} {L M : Lt} (hL : HL h a L) (hM : HL h b M) (hd : a + 5 ≤ b ∨ b + 5 ≤ a) : Call 14 [.ref a, .ref b] h (fun rv h' => rv = none ∧ HL h' a M ∧ Fr a (a + 5) h h') := by
  simp only [s14_0, s14_1, s14_2, s14_5, s14_e, hM.f, oB_some]
  obtain ⟨h1, e1, l1, r1⟩ := hL.s0 (x := M.1)
  have m1 := hM.fr r1 (by omega)
  simp only [e1, oB_some, s14_8, s14_9, s14_10, s14_13, m1.f]
  obtain ⟨h2, e2, l2, r2⟩ := l1.s1 (x := M.2.1)
  have m2 := m1.fr r2 (by omega)
  simp only [e2, oB_some, s14_16, s14_17, s14_18, s14_21, m2.f]
  obtain ⟨h3, e3, l3, r3⟩ := l2.s2 (x := M.2.2.1)
  have m3 := m2.fr r3 (by omega)
  simp only [e3, oB_some, s14_24, s14_25, s14_26, s14_29, m3.f]
  obtain ⟨h4, e4, l4, r4⟩ := l3.s3 (x := M.2.2.2.1)
  have m4 := m3.fr r4 (by omega)
  simp only [e4, oB_some, s14_32, s14_33, s14_36, s14_37, s14_40, m4.f, l4.f, l4.2.f]
  refine Call.mono (c_copyK l4.2 m4.2 (by omega)) ?_
  rintro rv h5 ⟨rfl, k5, r5⟩
  obtain ⟨l5, r6⟩ := l4.s4 k5 r5
  simp only [Option.toList_none, List.nil_append, s14_43]
  exact ⟨trivial, l5, (((r1.tr r2).tr r3).tr r4).tr r6⟩
set_option maxHeartbeats 4000000 in
theorem c_copyS {o : Nat} {O : St} (hS : HS h t S) (hO : HS h o O) (hd : t + 69 ≤ o ∨ o + 69 ≤ t) : Call 17 [.ref t, .ref o] h (fun rv h' => rv = none ∧ HS h' t O ∧ Fr t (t + 69) h h') := by
  obtain ⟨F, f, g, p, Ls, a1, ⟨-, -, -, -, -, -, -, -, -, inj, -⟩, -⟩ := hS
  obtain ⟨F', f', g', p', Ls', b1, bRS, bW⟩ := hO
  -- letters
  have tail : ∀ (hh : AHp) (K : Nat → Kn), HR hh t F K f g p Ls → (∀ v, v < 6 → K v = O.vk v) → Fr t (t + 69) h hh → Ev none 17 29 [.ref t, .ref o, .int 6] [] hh (fun rv h' => rv = none ∧ HS h' t O ∧ Fr t (t + 69) h h') := by
    intro hh K hR hKv hr
    have last : ∀ (hh : AHp) (L1 : Nat → Lt), HR hh t F K f g p L1 → (∀ i, i < 8 → L1 (p i) = Ls' (p' i)) → Fr t (t + 69) h hh → Ev none 17 58 [.ref t, .ref o, .int 8] [] hh (fun rv h' => rv = none ∧ HS h' t O ∧ Fr t (t + 69) h h') := by
      intro hh L1 hR hL1 hr
      have c0 := b1.fr hr hd.symm
      simp only [s17_58, s17_59, s17_62, s17_63, s17_64, s17_67, s17_68, s17_70, hR.fl, c0.fl, oB_some]
      obtain ⟨h1, e1, x1, r1⟩ := c0.2.2.2.1.cp hR.2.2.2.1 (Nat.le_refl 8) (by decide)
      have e1 : acp hh (o + 2) 0 (t + 2) 0 8 = some h1 := e1
      obtain ⟨z1, z2, z3, z4, z5, z6, z7, z8⟩ := hR
      have hR1 : HR h1 t F K f' g p L1 := ⟨z1.fr r1 (by omega), z2.fr r1 (by omega), fun v hv => (z3 v hv).fr r1 (by omega), x1.to (fun i hi => if_pos hi), z5.fr r1 (by omega), z6, z7.fr r1 (by omega), fun j hj => (z8 j hj).fr r1 (by omega)⟩
      have r1' : Fr t (t + 69) hh h1 := r1.up (by omega) (by omega)
      have c1 := c0.fr r1' hd.symm
      simp only [s17_73, s17_74, s17_77, s17_78, s17_79, s17_82, s17_83, s17_85, e1, hR1.fl, c1.fl, oB_some]
      obtain ⟨h2, e2, x2, r2⟩ := c1.2.2.2.2.1.cp hR1.2.2.2.2.1 (Nat.le_refl 8) (by decide)
      have e2 : acp h1 (o + 3) 0 (t + 3) 0 8 = some h2 := e2
      obtain ⟨z1, z2, z3, z4, z5, z6, z7, z8⟩ := hR1
      have hR2 : HR h2 t F K f' g' p L1 := ⟨z1.fr r2 (by omega), z2.fr r2 (by omega), fun v hv => (z3 v hv).fr r2 (by omega), z4.fr r2 (by omega), x2.to (fun i hi => if_pos hi), z6, z7.fr r2 (by omega), fun j hj => (z8 j hj).fr r2 (by omega)⟩
      have r2' : Fr t (t + 69) h1 h2 := r2.up (by omega) (by omega)
      have c2 := c1.fr r2' hd.symm
      simp only [s17_88, s17_89, s17_90, s17_93, e2, c2.fl, oB_some]
      obtain ⟨h3, e3, hR3, r3⟩ := hR2.sF (k := 1) (by decide) (F' 1)
      have c3 := c2.fr r3 hd.symm
      simp only [s17_96, s17_97, s17_98, s17_101, e3, c3.fl, oB_some]
      obtain ⟨h4, e4, hR4, r4⟩ := hR3.sF (k := 4) (by decide) (F' 4)
      have c4 := c3.fr r4 hd.symm
      simp only [s17_104, s17_105, s17_106, s17_109, e4, c4.fl, oB_some]
      obtain ⟨h5, e5, hR5, r5⟩ := hR4.sF (k := 6) (by decide) (F' 6)
      have c5 := c4.fr r5 hd.symm
      simp only [s17_112, s17_113, s17_114, s17_117, e5, c5.fl, oB_some]
      obtain ⟨h6, e6, hR6, r6⟩ := hR5.sF (k := 7) (by decide) (F' 7)
      have c6 := c5.fr r6 hd.symm
      simp only [s17_120, s17_121, s17_122, s17_125, e6, c6.fl, oB_some]
      obtain ⟨h7, e7, hR7, r7⟩ := hR6.sF (k := 8) (by decide) (F' 8)
      have c7 := c6.fr r7 hd.symm
      simp only [s17_128, s17_129, s17_130, s17_133, e7, c7.fl, oB_some]
      obtain ⟨h8, e8, hR8, r8⟩ := hR7.sF (k := 9) (by decide) (F' 9)
      have c8 := c7.fr r8 hd.symm
      simp only [s17_136, s17_137, s17_138, s17_141, e8, c8.fl, oB_some]
      obtain ⟨h9, e9, hR9, r9⟩ := hR8.sF (k := 10) (by decide) (F' 10)
      simp only [s17_144, e9, oB_some]
      obtain ⟨y1, y2, y3, y4, y5, y6, y7, y8, y9, y10, y11⟩ := bRS
      obtain ⟨z1, z2, z3, z4⟩ := hR9
      refine ⟨trivial, ⟨_, f', g', p, L1, ⟨z1, z2, fun v hv => ?_, z4⟩, ⟨y1, y2, y3, y4, y5, y6, y7, y8, y9, inj, fun k M hk => ?_⟩, bW⟩, ((((((((hr.tr r1').tr r2').tr r3).tr r4).tr r5).tr r6).tr r7).tr r8).tr r9⟩
      · have := z3 v hv
        rwa [hKv v hv] at this
      · have h1 := (List.getElem?_eq_some_iff.mp hk).1
        have h2 : k < 8 := Nat.lt_of_lt_of_le h1 bW.2.2.1
        rw [hL1 k h2]
        exact y11 k M hk
    have loop : ∀ d k (hh : AHp) (L1 : Nat → Lt), k + d = 8 → HR hh t F K f g p L1 → (∀ i, i < k → L1 (p i) = Ls' (p' i)) → Fr t (t + 69) h hh → Ev none 17 31 [.ref t, .ref o, .int (nI k)] [] hh (fun rv h' => rv = none ∧ HS h' t O ∧ Fr t (t + 69) h h') := by
      intro d
      induction d with
      | zero =>
        intro k hh L1 hk hR hL1 hr
        obtain rfl : k = 8 := by omega
        simp only [s17_31, s17_32, s17_34, if_pos (show (8 : Int32) ≤ nI 8 by decide)]
        exact last hh L1 hR hL1 hr
      | succ d ih =>
        intro k hh L1 hk hR hL1 hr
        have hk8 : k < 8 := by omega
        have c0 := b1.fr hr hd.symm
        have p1 := hR.2.2.2.2.2.1 k hk8
        have p2 := c0.2.2.2.2.2.1 k hk8
        have l1 := hR.lL p1
        have l2 := c0.lL p2
        simp only [s17_31, s17_32, s17_34, if_neg (le8 hk8)]
        simp only [s17_37, s17_38, s17_41, s17_42, s17_43, s17_44, s17_47, s17_48, s17_49, hR.fl, c0.fl, oB_some, hR.lq hk8, c0.lq hk8, l1.f]
        refine Call.mono (c_copyL l1 l2 (by omega)) ?_
        rintro rv h1 ⟨rfl, m1, r1⟩
        simp only [Option.toList_none, List.nil_append, s17_52, s17_55, nI_s]
        refine ih (k + 1) h1 _ (by omega) (hR.sL p1 m1 r1) (fun i hi => ?_) (hr.tr (r1.up (by omega) (by omega)))
        unfold va_up
        by_cases e : p i = p k
        · rw [if_pos e, inj i k (by omega) hk8 e]
        · rw [if_neg e]
          refine hL1 i ?_
          have : i ≠ k := fun q => e (by rw [q])
          omega
    simp only [s17_29, s17_30]
    exact loop 8 0 hh Ls rfl hR (fun i hi => by omega) hr
  have loop : ∀ d u (hh : AHp) (K : Nat → Kn), u + d = 6 → HR hh t F K f g p Ls → (∀ v, v < u → K v = O.vk v) → Fr t (t + 69) h hh → Ev none 17 2 [.ref t, .ref o, .int (nI u)] [] hh (fun rv h' => rv = none ∧ HS h' t O ∧ Fr t (t + 69) h h') := by
    intro d
    induction d with
    | zero =>
      intro u hh K hu hR hK hr
      obtain rfl : u = 6 := by omega
      simp only [s17_2, s17_3, s17_5, if_pos (show (6 : Int32) ≤ nI 6 by decide)]
      exact tail hh K hR hK hr
    | succ d ih =>
      intro u hh K hu hR hK hr
      have hu6 : u < 6 := by omega
      have c0 := b1.fr hr hd.symm
      simp only [s17_2, s17_3, s17_5, if_neg (le6 hu6)]
      simp only [s17_8, s17_9, s17_12, s17_13, s17_14, s17_15, s17_18, s17_19, s17_20, hR.fl, c0.fl, oB_some, hR.vq hu6, c0.vq hu6, (hR.vK hu6).f]
      refine Call.mono (c_copyK (hR.vK hu6) (c0.vK hu6) (by omega)) ?_
      rintro rv h1 ⟨rfl, k1, r1⟩
      simp only [Option.toList_none, List.nil_append, s17_23, s17_26, nI_s]
      refine ih (u + 1) h1 _ (by omega) (hR.sK hu6 k1 r1) (fun v hv => ?_) (hr.tr (r1.up (by omega) (by omega)))
      unfold va_up
      by_cases e : v = u
      · rw [if_pos e, e]
      · rw [if_neg e]; exact hK v (by omega)
  simp only [s17_0, s17_1, s17_e]
  exact loop 6 0 h S.vk rfl a1 (fun i hi => by omega) Fr.rf
end CPY
