/-! The model's changes: a writer comes, adds, takes. -/
def MXG (G : Nat) (s : Nat → Int32) (S : St) : Prop := ∃ td came posted P, MX s S td came posted P ∧ came ≤ G + 2 ∧ posted ≤ G ∧ S.ct 1 < 2000
/-- what a change of the model does: the answer, and nothing at an error -/
def MO (G m : Nat) (F s : Nat → Int32) (A : Ar) (r : Int32 × St) (h : AHp) (rv : Option Value) (h' : AHp) : Prop :=
  rv = some (.int r.1) ∧ Fr 423 430 h h' ∧ ∃ F' s' A', HM h' F' s' A' ∧ (if isE r.1 = true then F' = F ∧ s' = s ∧ A' = A else CH m F s A F' A' ∧ MXG (G + 1) s' r.2)
theorem u_ne {f : Nat → Int32} {i j : Nat} {x : Int32} (h : i ≠ j) : upd f j x i = f i := by unfold upd; rw [if_neg h]
theorem u_eq {f : Nat → Int32} {j : Nat} {x : Int32} : upd f j x j = x := by unfold upd; rw [if_pos rfl]
theorem MX.keep {s s' : Nat → Int32} {S T : St} {td : Nat → Nat} {came posted n : Nat} {P : List Pt} (h : MX s S td came posted P) (hn : n = P.length) (hL : ML s' T n td) (he : ∀ i, (i = 6 ∨ i = 7 ∨ 180 ≤ i) → s' i = s i) (h1 : T.ct 1 = S.ct 1) (h2 : T.lt = S.lt) : MX s' T td came posted P := by
  subst hn
  obtain ⟨x1, x2, x3, x4, x5, x6, x7, x8, x9, x10, x11⟩ := h
  refine ⟨hL, by rw [he _ (by omega)]; exact x2, by rw [he _ (by omega)]; exact x3, x4, x5, x6, x7, fun k q hq => ?_, by rw [h1]; exact x9, x10, h2.trans x11⟩
  obtain ⟨y0, y1, y2, y3, y4, y5⟩ := x8 k q hq
  exact ⟨by rw [he _ (by omega)]; exact y0, by rw [he _ (by omega)]; exact y1, by rw [he _ (by omega)]; exact y2, by rw [he _ (by omega)]; exact y3, by rw [he _ (by omega)]; exact y4, y5.eq (fun i h1 h2 => he i (by omega))⟩
theorem isE_I : isE eI = true := by decide
theorem isE_N : isE eN = true := by decide
theorem isE_L : isE eL = true := by decide
section MWR
variable {h h' : AHp} {F s : Nat → Int32} {A : Ar} {S : St} {G m : Nat}
theorem MO.err {r : Int32 × St} (hM : HM h F s A) (hr : isE r.1 = true) : MO G m F s A r h (some (.int r.1)) h :=
  ⟨rfl, Fr.rf, F, s, A, hM, by rw [if_pos hr]; exact ⟨rfl, rfl, rfl⟩⟩
theorem MO.ok {r : Int32 × St} {F' s' : Nat → Int32} {A' : Ar} (hM : HM h' F' s' A') (hr : isE r.1 = false) (f : Fr 423 430 h h') (c : CH m F s A F' A') (x : MXG (G + 1) s' r.2) : MO G m F s A r h (some (.int r.1)) h' :=
  ⟨rfl, f, F', s', A', hM, by rw [if_neg (by rw [hr]; exact Bool.false_ne_true)]; exact ⟨c, x⟩⟩
theorem m_writer (hM : HM h F s A) (hX : MXG G s S) (hi : IV G S) (hm : m ≤ 4) (hF : F 4 = nI m) (x : Int32) : Call 105 [.ref 423, .int x] h (MO G m F s A (aWriter S x) h) := by
  obtain ⟨td, came, posted, P, hX, hc1, hp1, ht⟩ := hX
  have hL := hX.1
  have h8 := hL.2.2.2.2.2.2.2.2
  simp only [s105_0, s105_1, s105_2, s105_5, s105_e, hM.f, m_isView hM hL x, Option.toList_some, List.cons_append, List.nil_append]
  have bad : aWriter S x = (eI, S) → Ev none 105 8 [.ref 423, .int x, .long 0] [] h (MO G m F s A (aWriter S x) h) := by
    intro e
    rw [e]
    simp only [s105_8, s105_10]
    exact MO.err (r := (eI, S)) hM isE_I
  rcases ix_cases x 6 with hx | ⟨v, hv6, rfl⟩
  · have e : hv S x = false := by unfold hv; rw [hx]
    rw [e, if_neg (show ¬ false = true by decide), if_neg (show ¬ ¬ (0 : Int32) = 0 by decide)]
    exact bad (by unfold aWriter; rw [hx])
  rw [hv_nI hv6]
  have e0 : aWriter S (nI v) = if ¬ S.th v = true then (eI, S) else if ¬ S.ct 0 < 8 then (eL, S) else
    (nI (S.ct 0), sVK (sHE (sHO (sCT S (va_up S.ct 0 (S.ct 0 + 1))) (va_up S.ho (S.ct 0) v)) (va_up S.he (S.ct 0) (-1))) (va_up S.vk v (kRaise (S.vk v) (S.ct 0) 0 0))) := by
    unfold aWriter; rw [ix_nI hv6 (by decide)]
  have l0 : ldi h 424 0 = some (nI (S.ct 0)) := by rw [← hL.1]; exact hM.ls (i := 0) (by decide)
  by_cases c : S.th v = true
  · rw [if_pos c, if_pos (show ¬ (1 : Int32) = 0 by decide)]
    rw [if_neg (fun q => q c)] at e0
    simp only [s105_11, s105_12, s105_15, s105_16, s105_17, s105_18, s105_19, s105_21, hM.f, oB_some, l0, (show (8 : Int32) = nI 8 from rfl), nI_eq (show S.ct 0 < 2147483648 by omega) (show 8 < 2147483648 by decide)]
    by_cases c8 : S.ct 0 = 8
    · rw [if_neg (fun q => q c8)]
      rw [if_pos (by omega)] at e0
      rw [e0]
      simp only [s105_24, s105_26]
      exact MO.err (r := (eL, S)) hM isE_L
    · rw [if_pos c8]
      rw [if_neg (by omega)] at e0
      rw [e0]
      obtain ⟨cw, hcw⟩ : ∃ cw, cw = S.ct 0 := ⟨_, rfl⟩
      rw [← hcw] at l0 h8 c8 ⊢
      have hw8 : cw < 8 := by omega
      simp only [s105_27, s105_28, hM.f]
      refine Call.mono (m_changes hM hm hF) ?_
      rintro rv h1 ⟨rfl, ⟨F1, A1, k1, ch⟩, r1⟩
      obtain ⟨h2, e2, k2, r2⟩ := k1.ss (show 164 + 2 * cw < 420 by omega) (nI v)
      obtain ⟨h3, e3, k3, r3⟩ := k2.ss (show 164 + 2 * cw + 1 < 420 by omega) (-1)
      obtain ⟨h4, e4, k4, r4⟩ := k3.ss (show 9 + 26 * v + 1 + 3 * cw < 420 by omega) 1
      obtain ⟨h5, e5, k5, r5⟩ := k4.ss (show 0 < 420 by decide) (nI (cw + 1))
      have e5' : sti h4 424 0 (nI (cw + 1)) = some h5 := e5
      have l0' : ldi h4 424 0 = some (nI cw) := by
        have := k4.ls (i := 0) (by decide)
        rw [u_ne (by omega), u_ne (by omega), u_ne (by omega), hL.1, ← hcw] at this
        exact this
      have e4' : sti h3 424 (nI (9 + 26 * v + 1 + 3 * cw)) (nI 1) = some h4 := e4
      have e3' : sti h2 424 (nI (164 + 2 * cw + 1)) (-nI 1) = some h3 := e3
      obtain ⟨T, hT⟩ : ∃ T, T = sVK (sHE (sHO (sCT S (va_up S.ct 0 (cw + 1))) (va_up S.ho cw v)) (va_up S.he cw (-1))) (va_up S.vk v (kRaise (S.vk v) cw 0 0)) := ⟨_, rfl⟩
      rw [← hT]
      simp only [Option.toList_none, List.nil_append, s105_31, s105_32, s105_35, s105_38, s105_39, s105_40, s105_41, s105_42, s105_43, s105_44, s105_45, s105_46, s105_47, s105_50, s105_53, s105_54, s105_55, s105_56, s105_57, s105_58, s105_59, s105_60, s105_61, s105_62, s105_65, s105_66, s105_69, s105_70, s105_73, s105_74, s105_75, s105_76, s105_79, s105_80, s105_81, s105_82, s105_83, s105_84, s105_85, s105_86, k1.f, k2.f, k3.f, k4.f, oB_some, (show (164 : Int32) = nI 164 from rfl), (show (2 : Int32) = nI 2 from rfl), (show (1 : Int32) = nI 1 from rfl), nI_mul, nI_add, Int32.add_zero, e2, e3', m_knows, m_part, Option.toList_some, List.cons_append, e4', l0', e5']
      rw [hT]
      have rr := (((r1.tr r2).tr r3).tr r4).tr r5
      refine MO.ok (G := G) (r := (nI cw, _)) k5 (isE_nI (by omega)) rr ch ⟨td, came, posted, P, ?_, by omega, by omega, ?_⟩
      · have lo : ∀ i, i ≠ 0 → i ≠ 164 + 2 * cw → i ≠ 164 + 2 * cw + 1 → i ≠ 9 + 26 * v + 1 + 3 * cw → upd (upd (upd (upd s (164 + 2 * cw) (nI v)) (164 + 2 * cw + 1) (-1)) (9 + 26 * v + 1 + 3 * cw) 1) 0 (nI (cw + 1)) i = s i := fun i a1 a2 a3 a4 => by rw [u_ne a1, u_ne a4, u_ne a3, u_ne a2]
        refine hX.keep rfl ?_ (fun i hi => lo i (by omega) (by omega) (by omega) (by omega)) ?_ rfl
        · obtain ⟨z0, zn, zt, z3, z4, z5, z6, z7, z8⟩ := id hL
          have t0 : va_up S.ct 0 (cw + 1) 0 = cw + 1 := up_eq _ _ _
          have tn : ∀ i, i ≠ 0 → va_up S.ct 0 (cw + 1) i = S.ct i := fun i hi => up_ne _ hi _
          refine ⟨?_, by rw [lo _ (by omega) (by omega) (by omega) (by omega)]; exact zn, ?_, ?_, ?_, by rw [lo _ (by omega) (by omega) (by omega) (by omega)]; exact z5, fun u hu => ?_, fun w hw => ?_, ?_⟩
          · show _ = nI (va_up S.ct 0 (cw + 1) 0)
            rw [u_eq, t0]
          · show _ = nI (va_up S.ct 0 (cw + 1) 1)
            rw [lo _ (by omega) (by omega) (by omega) (by omega), tn 1 (by decide)]; exact zt
          · show _ = nI (va_up S.ct 0 (cw + 1) 2)
            rw [lo _ (by omega) (by omega) (by omega) (by omega), tn 2 (by decide)]; exact z3
          · show _ = nI (va_up S.ct 0 (cw + 1) 3)
            rw [lo _ (by omega) (by omega) (by omega) (by omega), tn 3 (by decide)]; exact z4
          · obtain ⟨q1, q2, q3, q4⟩ := z6 u hu
            refine ⟨by rw [lo _ (by omega) (by omega) (by omega) (by omega)]; exact q1, q2, q3, ?_⟩
            show MK _ (9 + 26 * u) (va_up S.vk v (kRaise (S.vk v) cw 0 0) u)
            by_cases e : u = v
            · subst e
              rw [up_eq]
              refine ⟨by rw [lo _ (by omega) (by omega) (by omega) (by omega)]; exact q4.1, fun w hw => ?_⟩
              obtain ⟨p1, p2, p3⟩ := q4.2 w hw
              by_cases ew : w = cw
              · subst ew
                have nw := hi.nw hu hw (by omega)
                refine ⟨?_, ?_, ?_⟩
                · show _ = upd (S.vk u).1 w ((S.vk u).1 w + 1) w
                  rw [u_ne (by omega), u_eq, u_eq, nw.1]; rfl
                · show _ = upd (S.vk u).2.1 w ((S.vk u).2.1 w + 0) w
                  rw [lo _ (by omega) (by omega) (by omega) (by omega), u_eq, Int32.add_zero]; exact p2
                · show _ = upd (S.vk u).2.2.1 w ((S.vk u).2.2.1 w + 0) w
                  rw [lo _ (by omega) (by omega) (by omega) (by omega), u_eq, Int32.add_zero]; exact p3
              · refine ⟨?_, ?_, ?_⟩
                · show _ = upd (S.vk u).1 cw ((S.vk u).1 cw + 1) w
                  rw [lo _ (by omega) (by omega) (by omega) (by omega), u_ne ew]; exact p1
                · show _ = upd (S.vk u).2.1 cw ((S.vk u).2.1 cw + 0) w
                  rw [lo _ (by omega) (by omega) (by omega) (by omega), u_ne ew]; exact p2
                · show _ = upd (S.vk u).2.2.1 cw ((S.vk u).2.2.1 cw + 0) w
                  rw [lo _ (by omega) (by omega) (by omega) (by omega), u_ne ew]; exact p3
            · rw [up_ne _ e]
              exact q4.eq (fun i a1 a2 => lo i (by omega) (by omega) (by omega) (by omega))
          · have hw' : w < cw + 1 := by
              have : w < va_up S.ct 0 (cw + 1) 0 := hw
              rwa [t0] at this
            show _ = nI (va_up S.ho cw v w) ∧ _ = va_up S.he cw (-1) w ∧ va_up S.ho cw v w < 6 ∧ (va_up S.he cw (-1) w = -1 ∨ 0 ≤ va_up S.he cw (-1) w)
            by_cases ew : w = cw
            · subst ew
              rw [up_eq, up_eq]
              refine ⟨?_, ?_, hv6, Or.inl rfl⟩
              · rw [u_ne (by omega), u_ne (by omega), u_ne (by omega), u_eq]
              · rw [show 165 + 2 * w = 164 + 2 * w + 1 by omega, u_ne (by omega), u_ne (by omega), u_eq]
            · rw [up_ne _ ew, up_ne _ ew]
              obtain ⟨p1, p2, p3⟩ := z7 w (by omega)
              exact ⟨by rw [lo _ (by omega) (by omega) (by omega) (by omega)]; exact p1, by rw [lo _ (by omega) (by omega) (by omega) (by omega)]; exact p2, p3⟩
          · show va_up S.ct 0 (cw + 1) 0 ≤ 8
            rw [t0]; omega
        · show va_up S.ct 0 (cw + 1) 1 = S.ct 1
          exact up_ne _ (by decide) _
      · show va_up S.ct 0 (cw + 1) 1 < 2000
        rw [up_ne _ (by decide)]; exact ht
  · rw [if_neg c, if_neg (show ¬ ¬ (0 : Int32) = 0 by decide)]
    exact bad (by rw [e0, if_pos c])
theorem MXG.setK {s' : Nat → Int32} {v : Nat} {K : Kn} (hX : MXG G s S) (hv : v < 6) (hK : MK s' (9 + 26 * v) K) (he : ∀ i, (i < 9 + 26 * v ∨ 9 + 26 * v + 25 ≤ i) → s' i = s i) : MXG (G + 1) s' (sVK S (va_up S.vk v K)) := by
  obtain ⟨td, came, posted, P, hX, hc1, hp1, ht⟩ := hX
  exact ⟨td, came, posted, P, hX.keep rfl (hX.1.setK hv hK he) (fun i hi => he i (by omega)) rfl rfl, by omega, by omega, ht⟩
theorem m_writes (hM : HM h F s A) (hX : MXG G s S) (hi : IV G S) (hG : G + 1 ≤ 40000) (hm : m ≤ 4) (hF : F 4 = nI m) {w i j : Nat} (hw : w < S.ct 0) (hR : rt S w = false) (hi9 : i ≤ 999) (hj9 : j ≤ 999) : Call 107 [.ref 423, .int (nI w), .int (nI i), .int (nI j)] h (MO G m F s A (kSum (kRaise (S.vk (S.ho w)) w (nI i) (nI j)), sVK S (va_up S.vk (S.ho w) (kRaise (S.vk (S.ho w)) w (nI i) (nI j)))) h) := by
  have hX0 := id hX
  obtain ⟨td, came, posted, P, hX, hc1, hp1, ht⟩ := hX
  have hL := hX.1
  have h8 := hL.2.2.2.2.2.2.2.2
  have ho6 := (hL.2.2.2.2.2.2.2.1 w hw).2.2.1
  have hk := (hL.2.2.2.2.2.2.1 _ ho6).2.2.2
  have hw8 : w < 8 := by omega
  obtain ⟨q1, q2, q3⟩ := hk.2 w hw8
  have hi2 := iv_raise hi hw hR hi9 hj9
  simp only [s107_0, s107_1, s107_e, hM.f]
  refine Call.mono (m_changes hM hm hF) ?_
  rintro rv h1 ⟨rfl, ⟨F1, A1, k1, ch⟩, r1⟩
  obtain ⟨b, hb⟩ : ∃ b, b = 9 + 26 * S.ho w + 1 + 3 * w := ⟨_, rfl⟩
  rw [← hb] at q1 q2 q3
  obtain ⟨h2, e2, k2, r2⟩ := k1.ss (show b < 420 by omega) ((S.vk (S.ho w)).1 w + 1)
  obtain ⟨h3, e3, k3, r3⟩ := k2.ss (show b + 1 < 420 by omega) ((S.vk (S.ho w)).2.1 w + nI i)
  obtain ⟨h4, e4, k4, r4⟩ := k3.ss (show b + 2 < 420 by omega) ((S.vk (S.ho w)).2.2.1 w + nI j)
  have l1 : ldi h1 424 (nI b) = some ((S.vk (S.ho w)).1 w) := by rw [← q1]; exact k1.ls (by omega)
  have l2 : ldi h2 424 (nI (b + 1)) = some ((S.vk (S.ho w)).2.1 w) := by rw [k2.ls (by omega), u_ne (by omega), q2]
  have l3 : ldi h3 424 (nI (b + 2)) = some ((S.vk (S.ho w)).2.2.1 w) := by rw [k3.ls (by omega), u_ne (by omega), u_ne (by omega), q3]
  have hu : ∀ i', i' ≠ b → i' ≠ b + 1 → i' ≠ b + 2 → upd (upd (upd s b ((S.vk (S.ho w)).1 w + 1)) (b + 1) ((S.vk (S.ho w)).2.1 w + nI i)) (b + 2) ((S.vk (S.ho w)).2.2.1 w + nI j) i' = s i' := fun i' a1 a2 a3 => by rw [u_ne a3, u_ne a2, u_ne a1]
  have mk : MK (upd (upd (upd s b ((S.vk (S.ho w)).1 w + 1)) (b + 1) ((S.vk (S.ho w)).2.1 w + nI i)) (b + 2) ((S.vk (S.ho w)).2.2.1 w + nI j)) (9 + 26 * S.ho w) (kRaise (S.vk (S.ho w)) w (nI i) (nI j)) := by
    refine ⟨by rw [hu _ (by omega) (by omega) (by omega)]; exact hk.1, fun y hy => ?_⟩
    obtain ⟨p1, p2, p3⟩ := hk.2 y hy
    show _ = upd (S.vk (S.ho w)).1 w ((S.vk (S.ho w)).1 w + 1) y ∧ _ = upd (S.vk (S.ho w)).2.1 w ((S.vk (S.ho w)).2.1 w + nI i) y ∧ _ = upd (S.vk (S.ho w)).2.2.1 w ((S.vk (S.ho w)).2.2.1 w + nI j) y
    by_cases e : y = w
    · subst e
      rw [← hb]
      rw [u_eq, u_eq, u_eq]
      exact ⟨by rw [u_ne (by omega), u_ne (by omega), u_eq], by rw [u_ne (by omega), u_eq], by rw [u_eq]⟩
    · rw [u_ne e, u_ne e, u_ne e, hu _ (by omega) (by omega) (by omega), hu _ (by omega) (by omega) (by omega), hu _ (by omega) (by omega) (by omega)]
      exact ⟨p1, p2, p3⟩
  have oth : ∀ i', (i' < 9 + 26 * S.ho w ∨ 9 + 26 * S.ho w + 25 ≤ i') → upd (upd (upd s b ((S.vk (S.ho w)).1 w + 1)) (b + 1) ((S.vk (S.ho w)).2.1 w + nI i)) (b + 2) ((S.vk (S.ho w)).2.2.1 w + nI j) i' = s i' := fun i' hi' => hu i' (by omega) (by omega) (by omega)
  have hL4 := hL.setK ho6 mk oth
  have hz : KZ (kRaise (S.vk (S.ho w)) w (nI i) (nI j)) := by
    have := (hi2.iz hG).1 (S.ho w) ho6
    have e : (sVK S (va_up S.vk (S.ho w) (kRaise (S.vk (S.ho w)) w (nI i) (nI j)))).vk (S.ho w) = kRaise (S.vk (S.ho w)) w (nI i) (nI j) := up_eq _ _ _
    rwa [e] at this
  have hne : isE (kSum (kRaise (S.vk (S.ho w)) w (nI i) (nI j))) = false := by
    obtain ⟨a, y1, y2, y3, y4, y5⟩ := hi2
    have y := y1 (S.ho w) ho6
    have e : (sVK S (va_up S.vk (S.ho w) (kRaise (S.vk (S.ho w)) w (nI i) (nI j)))).vk (S.ho w) = kRaise (S.vk (S.ho w)) w (nI i) (nI j) := up_eq _ _ _
    rw [e] at y
    exact ne_sum y y3 hG
  have ho : ∀ post, Call 96 [.ref 423, .int (nI w), .int 0] h4 post = post (some (.int (nI (S.ho w)))) h4 := m_home k4 hL4 hw
  have op : ∀ post, Call 106 [.ref 423, .int (nI w)] h1 post = post (some (.int (nI b))) h1 := by rw [hb]; exact m_ownPart k1 hL hw
  have e2' : sti h1 424 (nI b) ((S.vk (S.ho w)).1 w + nI 1) = some h2 := e2
  simp only [Option.toList_none, List.nil_append, s107_4, s107_5, s107_6, s107_9, s107_11, s107_12, s107_15, s107_17, s107_18, s107_19, s107_20, s107_21, s107_22, s107_23, s107_26, s107_28, s107_29, s107_30, s107_31, s107_32, s107_33, s107_34, s107_35, s107_36, s107_39, s107_41, s107_42, s107_43, s107_44, s107_45, s107_46, s107_47, s107_48, s107_49, s107_50, s107_51, s107_52, s107_55, s107_58, s107_59, s107_62, k1.f, k2.f, k3.f, k4.f, oB_some, op, l1, e2', (show (1 : Int32) = nI 1 from rfl), (show (2 : Int32) = nI 2 from rfl), nI_add, l2, e3, l3, e4, ho, m_knows, m_sum0 k4 mk hz (by omega), Option.toList_some, List.cons_append]
  exact MO.ok (G := G) (r := (_, _)) k4 hne (((r1.tr r2).tr r3).tr r4) ch (hX0.setK ho6 mk oth)
end MWR
