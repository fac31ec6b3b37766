/-! The model's object as the class's states see it; faults and plays. -/
def Top (G : Nat) (h : AHp) (S : St) (H : List St) (tn : Nat) (tc : Nat → Int32) : Prop :=
  ∃ F s A, HM h F s A ∧ F 5 = 0 ∧ TX F A tc tn ∧ HI G F A.1 H ∧ MXG G s S ∧ IV G S
section TP
variable {h h' : AHp} {S : St} {H : List St} {tn G : Nat} {tc : Nat → Int32}
theorem Top.fr {lo hi : Nat} (t : Top G h S H tn tc) (r : Fr lo hi h h') (hd : hi ≤ 423) : Top G h' S H tn tc := by
  obtain ⟨F, s, A, a1, a2⟩ := t
  exact ⟨F, s, A, a1.fr r (by omega), a2⟩
theorem Top.mono {G' : Nat} (t : Top G h S H tn tc) (hG : G ≤ G') : Top G' h S H tn tc := by
  obtain ⟨F, s, A, a1, a2, a3, a4, a5, a6⟩ := t
  exact ⟨F, s, A, a1, a2, a3, a4.mono hG rfl rfl, a5.mono hG, a6.mono hG⟩
theorem HP.fr {lo hi : Nat} (p : HP h S H tn tc) (r : Fr lo hi h h') (hd : 423 ≤ lo) : HP h' S H tn tc := by
  obtain ⟨a, T, q, C, K, F, g, ⟨b1, b2, b3, b4, b5, b6, b7⟩, c⟩ := p
  refine ⟨a, T, q, C, K, F, g, ⟨b1.fr r (by omega), b2.fr r (by omega), fun j hj => (b3 j hj).fr r ?_, b4.fr r (by omega), b5.fr r (by omega), b6, b7⟩, c⟩
  have := ad_b j hj
  omega
theorem HP.th (p : HP h S H tn tc) : ∃ v, v < 6 ∧ S.th v = true := by
  obtain ⟨a, b, c, -⟩ := p.f
  exact c.w.2.2.2.2.2.1
theorem MO.top {F s : Nat → Int32} {A : Ar} {r : Int32 × St} {rv : Option Value} (hF : F 5 = 0) (hT : TX F A tc tn) (hI : HI G F A.1 H) (hX : MXG G s S) (hi : IV G S) (hi2 : IV (G + 1) r.2) (mo : MO G H.length F s A r h rv h') : rv = some (.int r.1) ∧ Top (G + 1) h' (sS S r) (sH S H r) tn tc ∧ Fr 423 430 h h' := by
  obtain ⟨rfl, r1, F', s', A', k, c⟩ := mo
  refine ⟨rfl, ?_, r1⟩
  unfold sS sH
  by_cases ce : isE r.1 = true
  · rw [if_pos ce] at c
    rw [if_pos ce, if_pos ce]
    obtain ⟨rfl, rfl, rfl⟩ := c
    exact ⟨F', s', A', k, hF, hT, hI.mono (Nat.le_succ G) rfl rfl, hX.mono (Nat.le_succ G), hi.mono (Nat.le_succ G)⟩
  · rw [if_neg ce] at c
    rw [if_neg ce, if_neg ce]
    obtain ⟨ch, x⟩ := c
    have cj := (ch.2 hF).2.1
    have ca := (ch.2 hF).2.2.1
    refine ⟨F', s', A', k, by rw [cj 5 (by decide)]; exact hF, ⟨by rw [cj 7 (by decide)]; exact hT.1, hT.2.1, fun i hi => by rw [ca]; exact hT.2.2 i hi⟩, (hI.push hF ch hX hi).mono (Nat.le_succ G) rfl rfl, x, hi2⟩
theorem m_hold {F s : Nat → Int32} {A : Ar} (hM : HM h F s A) : Call 89 [.ref 424, .ref 426] h (fun rv h' => rv = none ∧ HM h' F s (A.1, s, A.2.2) ∧ Fr 423 430 h h') := by
  obtain ⟨a1, a2, a3, a4, a5, a6, a7⟩ := hM
  refine Call.mono (m_copies a2 a4 (by decide)) ?_
  rintro rv h1 ⟨rfl, b, r⟩
  exact ⟨rfl, ⟨a1.fr r (by omega), a2.fr r (by omega), a3.fr r (by omega), b, a5.fr r (by omega), a6.fr r (by omega), a7.fr r (by omega)⟩, r.up (by omega) (by omega)⟩
theorem m_unhold {F s : Nat → Int32} {A : Ar} (hM : HM h F s A) : Call 89 [.ref 426, .ref 424] h (fun rv h' => rv = none ∧ HM h' F A.2.1 A ∧ Fr 423 430 h h') := by
  obtain ⟨a1, a2, a3, a4, a5, a6, a7⟩ := hM
  refine Call.mono (m_copies a4 a2 (by decide)) ?_
  rintro rv h1 ⟨rfl, b, r⟩
  exact ⟨rfl, ⟨a1.fr r (by omega), b, a3.fr r (by omega), a4.fr r (by omega), a5.fr r (by omega), a6.fr r (by omega), a7.fr r (by omega)⟩, r.up (by omega) (by omega)⟩
theorem rn_cnt (c : Nat → Int32) (n : Nat) : ∀ d p k (S : St), (rn c n d p k S).2.1 ≤ k + d := by
  intro d
  induction d with
  | zero => intro p k S; exact Nat.le_refl _
  | succ d ih =>
    intro p k S
    unfold rn
    split
    · split
      · split
        · show k ≤ _; omega
        · have := ih (rdO c n p).2.1 (k + 1) (aOrd S (c p) (fun i => (rdO c n p).2.2.getD i 0)).2
          omega
      · show k ≤ _; omega
    · show k ≤ _; omega
theorem m_fault (t : Top G h S H tn tc) (hG : G + 61 ≤ 40000) (x : Int32) : Call 151 [.ref 423, .int x] h (fun rv h' => rv = some (.int (aFault S tn tc x)) ∧ Top G h' S H tn tc ∧ Fr 423 430 h h') := by
  obtain ⟨F, s, A, hM, hF, hT, hI, hX, hi⟩ := t
  simp only [s151_0, s151_1, s151_2, s151_3, s151_6, s151_e, m_in, Option.toList_some, List.cons_append, List.nil_append]
  unfold aFault
  by_cases cx : (0 : Int32) ≤ x ∧ x ≤ 2
  · rw [if_pos cx, if_pos (show ¬ (1 : Int32) = 0 by decide), if_neg (fun q => q cx)]
    simp only [s151_12, s151_13, s151_16, s151_17, s151_20, hM.f, oB_some]
    refine Call.mono (m_hold hM) ?_
    rintro rv h1 ⟨rfl, k1, r1⟩
    simp only [Option.toList_none, List.nil_append, s151_23, s151_24, k1.f]
    refine Call.mono (m_plays k1 hT hX hi hG hI.2.1 hI.1) ?_
    rintro rv h2 ⟨F2, s2, A2, k2, r2, p2, f5, q⟩
    have hA2 : A2.2.1 = s := p2.2.2.1
    have fin : ∀ (h3 : AHp), HM h3 F2 s A2 → Fr 423 430 h2 h3 → Top G h3 S H tn tc ∧ Fr 423 430 h h3 := by
      intro h3 k3 r3
      exact ⟨⟨F2, s, A2, k3, f5, TX.pk (A := (A.1, s, A.2.2)) hT p2, hI.mono (Nat.le_refl _) (p2.1 4 (by decide)) p2.2.1, hX, hi⟩, (r1.tr r2).tr r3⟩
    have un := m_unhold k2
    rw [hA2] at un
    unfold run0
    cases hq : (rn tc tn 60 0 0 S).1 with
    | none =>
      rw [hq] at q
      obtain ⟨rfl, -⟩ := q
      simp only [Option.toList_some, List.cons_append, List.nil_append, s151_27, s151_28, s151_29, s151_32, s151_33, s151_36, k2.f, oB_some]
      refine Call.mono un ?_
      rintro rv h3 ⟨rfl, k3, r3⟩
      simp only [Option.toList_none, List.nil_append, s151_39, s151_40, if_neg (show ¬ (1 : Int32) = 0 by decide), s151_43, s151_45, s151_75]
      exact ⟨by first | trivial | rfl, fin h3 k3 r3⟩
    | some w =>
      rw [hq] at q
      obtain ⟨rfl, g1, g2, g3⟩ := q
      simp only [Option.toList_some, List.cons_append, List.nil_append, s151_27, s151_28, s151_29, s151_32, s151_33, s151_36, k2.f, oB_some]
      refine Call.mono un ?_
      rintro rv h3 ⟨rfl, k3, r3⟩
      simp only [Option.toList_none, List.nil_append, s151_39, s151_40, if_true, s151_48, s151_49]
      by_cases x0 : x = 0
      · rw [if_neg (fun q => q x0), if_pos x0]
        simp only [s151_52, s151_53, s151_56, s151_75, k3.f, oB_some, g1]
        exact ⟨by first | trivial | rfl, fin h3 k3 r3⟩
      · rw [if_pos x0, if_neg x0]
        simp only [s151_59, s151_60, s151_61]
        by_cases x1 : x = 1
        · rw [if_neg (fun q => q x1), if_pos x1]
          simp only [s151_64, s151_65, s151_68, s151_75, k3.f, oB_some, g2]
          exact ⟨by first | trivial | rfl, fin h3 k3 r3⟩
        · rw [if_pos x1, if_neg x1]
          simp only [s151_71, s151_72, s151_75, k3.f, oB_some, g3]
          exact ⟨by first | trivial | rfl, fin h3 k3 r3⟩
  · rw [if_neg cx, if_neg (show ¬ ¬ (0 : Int32) = 0 by decide), if_pos cx]
    simp only [s151_9, s151_11]
    exact ⟨by first | trivial | rfl, ⟨F, s, A, hM, hF, hT, hI, hX, hi⟩, Fr.rf⟩
theorem m_play (t : Top G h S H tn tc) (hG : G + 61 ≤ 40000) : Call 152 [.ref 423] h (fun rv h' => rv = some (.int (aPlay S tn tc).1) ∧ Top (G + 61) h' (sS S (aPlay S tn tc)) (sH S H (aPlay S tn tc)) tn tc ∧ Fr 423 430 h h') := by
  obtain ⟨F, s, A, hM, hF, hT, hI, hX, hi⟩ := t
  simp only [s152_0, s152_1, s152_4, s152_5, s152_8, s152_e, hM.f, oB_some]
  refine Call.mono (m_hold hM) ?_
  rintro rv h1 ⟨rfl, k1, r1⟩
  simp only [Option.toList_none, List.nil_append, s152_11, s152_12, k1.f]
  have hT1 : TX F (A.1, s, A.2.2) tc tn := hT
  refine Call.mono (m_plays k1 hT1 hX hi hG hI.2.1 hI.1) ?_
  rintro rv h2 ⟨F2, s2, A2, k2, r2, p2, f5, q⟩
  have hA2 : A2.2.1 = s := p2.2.2.1
  have un := m_unhold k2
  rw [hA2] at un
  have hT2 := hT1.pk p2
  have hI2 : HI G F2 A2.1 H := hI.mono (Nat.le_refl _) (p2.1 4 (by decide)) p2.2.1
  cases hq : (rn tc tn 60 0 0 S).1 with
  | some w =>
    have ea : (aPlay S tn tc).1 = eN := by
      show (match (rn tc tn 60 0 0 S).1 with | none => nI (run0 S tn tc).2.1 | some _ => eN) = eN
      rw [hq]
    have e1 : sS S (aPlay S tn tc) = S := by unfold sS; rw [ea, if_pos isE_N]
    have e2 : sH S H (aPlay S tn tc) = H := by unfold sH; rw [ea, if_pos isE_N]
    rw [ea, e1, e2]
    rw [hq] at q
    obtain ⟨rfl, -⟩ := q
    simp only [Option.toList_some, List.cons_append, List.nil_append, s152_15, s152_16, s152_17, s152_20, s152_21, s152_24, k2.f, oB_some]
    refine Call.mono un ?_
    rintro rv h3 ⟨rfl, k3, r3⟩
    simp only [Option.toList_none, List.nil_append, s152_27, s152_28, if_neg (show ¬ ¬ (0 : Int32) = 0 by decide), s152_31, s152_33]
    exact ⟨by first | trivial | rfl, ⟨F2, s, A2, k3, f5, hT2, hI2.mono (by omega) rfl rfl, hX.mono (by omega), hi.mono (by omega)⟩, (r1.tr r2).tr r3⟩
  | none =>
    have hc := rn_cnt tc tn 60 0 0 S
    obtain ⟨R, hR⟩ : ∃ R, R = rn tc tn 60 0 0 S := ⟨_, rfl⟩
    have ea : aPlay S tn tc = (nI R.2.1, R.2.2) := by
      rw [hR]
      show ((match (rn tc tn 60 0 0 S).1 with | none => nI (run0 S tn tc).2.1 | some _ => eN), (run0 S tn tc).2.2) = _
      rw [hq]; rfl
    rw [← hR] at hq hc
    have ne : isE (nI R.2.1) = false := isE_nI (by omega)
    have e1 : sS S (aPlay S tn tc) = R.2.2 := by unfold sS; rw [ea, if_neg (by rw [ne]; exact Bool.false_ne_true)]
    have e2 : sH S H (aPlay S tn tc) = pushH H S := by unfold sH; rw [ea, if_neg (by rw [ne]; exact Bool.false_ne_true)]
    rw [e1, e2, ea]
    rw [← hR, hq] at q
    obtain ⟨rfl, -⟩ := q
    simp only [Option.toList_some, List.cons_append, List.nil_append, s152_15, s152_16, s152_17, s152_20, s152_21, s152_24, k2.f, oB_some]
    refine Call.mono un ?_
    rintro rv h3 ⟨rfl, k3, r3⟩
    simp only [Option.toList_none, List.nil_append, s152_27, s152_28, if_pos (show ¬ (1 : Int32) = 0 by decide), s152_34, s152_35, k3.f]
    refine Call.mono (m_changes k3 hI2.2.1 hI2.1) ?_
    rintro rv h4 ⟨rfl, ⟨F4, A4, k4, cg⟩, r4⟩
    have cj := (cg.2 f5).2.1
    have ca := (cg.2 f5).2.2.1
    have hI4 := hI2.push f5 cg hX hi
    have hT4 : TX F4 A4 tc tn := ⟨(cj 7 (by decide)).trans hT2.1, hT2.2.1, fun i hi => by rw [ca]; exact hT2.2.2 i hi⟩
    simp only [Option.toList_none, List.nil_append, s152_38, s152_39, k4.f]
    refine Call.mono (m_plays k4 hT4 hX hi hG hI4.2.1 hI4.1) ?_
    rintro rv h5 ⟨F5, s5, A5, k5, r5, p5, f55, q5⟩
    rw [← hR, hq] at q5
    obtain ⟨rfl, g1, g2, g3⟩ := q5
    simp only [Option.toList_some, List.cons_append, List.nil_append, s152_42, s152_45, s152_46, s152_49, if_neg (show ¬ (1 : Int32) = 0 by decide), k5.f, oB_some, g1, s152_54]
    exact ⟨by first | trivial | rfl, ⟨F5, s5, A5, k5, f55, hT4.pk p5, hI4.mono (by omega) (p5.1 4 (by decide)) p5.2.1, g2.mono (by omega), g3.mono (by omega)⟩, (((r1.tr r2).tr r3).tr r4).tr r5⟩
end TP
