/-! The model's changes: views come and go. -/
theorem ff_spec {p : Nat → Bool} : ∀ n v, v ≤ n → (∀ i, i < v → p i = true) → (v < n → p v = false) → ff p n = if v < n then some v else none := by
  intro n
  induction n with
  | zero => intro v hv h1 h2; rw [if_neg (by omega)]; rfl
  | succ n ih =>
    intro v hv h1 h2
    unfold ff
    by_cases e : v < n
    · rw [ih v (by omega) h1 (fun _ => h2 (by omega)), if_pos e]
      exact (if_pos (show v < n + 1 by omega)).symm
    · by_cases e2 : v = n
      · subst e2
        rw [ih v (Nat.le_refl _) h1 (fun q => by omega), if_neg (Nat.lt_irrefl v)]
        show (if p v = true then none else some v) = _
        rw [h2 (by omega), if_neg Bool.false_ne_true, if_pos (Nat.lt_succ_self v)]
      · have : v = n + 1 := by omega
        subst this
        rw [ih n (Nat.le_refl _) (fun i hi => h1 i (by omega)) (fun q => by omega), if_neg (Nat.lt_irrefl n)]
        show (if p n = true then none else some n) = _
        rw [if_pos (h1 n (by omega)), if_neg (Nat.lt_irrefl _)]
theorem srt_map {f : Lt → Lt} (hf : ∀ M, (f M).2.2.1 = M.2.2.1) (l : List Lt) : (srt l).map f = srt (l.map f) := by
  have ins : ∀ (M : Lt) (l : List Lt), (insR M l).map f = insR (f M) (l.map f) := by
    intro M l
    induction l with
    | nil => rfl
    | cons x l ih =>
      rw [List.map_cons]
      unfold insR
      rw [hf, hf]
      by_cases c : x.2.2.1 ≤ M.2.2.1
      · rw [if_pos c, if_pos c, List.map_cons, ih]
      · rw [if_neg c, if_neg c]; rfl
  have key : ∀ (l E : List Lt), (l.foldl (fun acc x => insR x acc) E).map f = (l.map f).foldl (fun acc x => insR x acc) (E.map f) := by
    intro l
    induction l with
    | nil => intro E; rfl
    | cons x l ih =>
      intro E
      rw [List.foldl_cons, ih, List.map_cons, List.foldl_cons, ins]
  exact key l []
section MVV
variable {h h' : AHp} {F s : Nat → Int32} {A : Ar} {S : St} {G m : Nat}
theorem m_view (hM : HM h F s A) (hX : MXG G s S) (hG : G ≤ 40000) (hm : m ≤ 4) (hF : F 4 = nI m) (x : Int32) : Call 113 [.ref 423, .int x] h (MO G m F s A (aView S x) h) := by
  obtain ⟨td, came, posted, P, hX, hc1, hp1, ht⟩ := hX
  have hL := hX.1
  simp only [s113_0, s113_1, s113_2, s113_5, s113_e, hM.f, m_isView hM hL x, Option.toList_some, List.cons_append, List.nil_append]
  have bad : aView S x = (eI, S) → ∀ v2, Ev none 113 8 [.ref 423, .int x, v2] [] h (MO G m F s A (aView S x) h) := by
    intro e v2
    rw [e]
    simp only [s113_8, s113_10]
    exact MO.err (r := (eI, S)) hM isE_I
  rcases ix_cases x 6 with hx | ⟨v, hv6, rfl⟩
  · have e : hv S x = false := by unfold hv; rw [hx]
    rw [e, if_neg (show ¬ false = true by decide), if_neg (show ¬ ¬ (0 : Int32) = 0 by decide)]
    exact bad (by unfold aView; rw [hx]) _
  rw [hv_nI hv6]
  have e0 : aView S (nI v) = if ¬ S.th v = true then (eI, S) else match ff S.th 6 with
    | none => (eL, S)
    | some u => (nI u, sVK (sTH S (va_up S.th u true)) (va_up S.vk u (S.vk v))) := by unfold aView; rw [ix_nI hv6 (by decide)]; cases ff S.th 6 <;> rfl
  by_cases c : S.th v = true
  · rw [if_pos c, if_pos (show ¬ (1 : Int32) = 0 by decide)]
    rw [if_neg (fun q => q c)] at e0
    have at33 : ∀ u, u ≤ 6 → (∀ i, i < u → S.th i = true) → (u < 6 → S.th u = false) → Ev none 113 33 [.ref 423, .int (nI v), .int (nI u)] [] h (MO G m F s A (aView S (nI v)) h) := by
      intro u hu h1 h2
      rw [ff_spec 6 u hu h1 h2] at e0
      simp only [s113_33, s113_34, s113_36, (show (6 : Int32) = nI 6 from rfl), nI_eq (show u < 2147483648 by omega) (show 6 < 2147483648 by decide)]
      by_cases c6 : u = 6
      · rw [if_neg (fun q => q c6)]
        rw [if_neg (by omega)] at e0
        rw [e0]
        simp only [s113_39, s113_41]
        exact MO.err (r := (eL, S)) hM isE_L
      · have hu6 : u < 6 := by omega
        rw [if_pos c6]
        rw [if_pos hu6] at e0
        have e0 : aView S (nI v) = (nI u, sVK (sTH S (va_up S.th u true)) (va_up S.vk u (S.vk v))) := e0
        rw [e0]
        obtain ⟨T, hT⟩ : ∃ T, T = sVK (sTH S (va_up S.th u true)) (va_up S.vk u (S.vk v)) := ⟨_, rfl⟩
        rw [← hT]
        simp only [s113_42, s113_43, hM.f]
        refine Call.mono (m_changes hM hm hF) ?_
        rintro rv h1' ⟨rfl, ⟨F1, A1, k1, cg⟩, r1⟩
        obtain ⟨x1, x2, x3, x4, x5, x6, x7, x8, x9, x10, x11⟩ := id hX
        have l6 : ldi h1' 424 6 = some (nI came) := by rw [← x2]; exact k1.ls (i := 6) (by decide)
        obtain ⟨h2', e2, k2, r2⟩ := k1.ss (show 6 < 420 by decide) (nI (came + 1))
        have e2' : sti h1' 424 6 (nI (came + 1)) = some h2' := e2
        have l6' : ldi h2' 424 6 = some (nI (came + 1)) := by
          have := k2.ls (i := 6) (by decide)
          rw [u_eq] at this; exact this
        obtain ⟨h3, e3, k3, r3⟩ := k2.ss (show 8 + 26 * u < 420 by omega) (nI (came + 1))
        simp only [Option.toList_none, List.nil_append, s113_46, s113_47, s113_50, s113_52, s113_53, s113_54, s113_55, s113_56, s113_57, s113_58, s113_61, s113_63, s113_65, s113_66, s113_67, s113_68, s113_69, s113_70, s113_71, s113_74, s113_76, s113_77, s113_78, s113_79, s113_80, s113_83, s113_84, s113_87, k1.f, k2.f, k3.f, oB_some, l6, (show (8 : Int32) = nI 8 from rfl), (show (26 : Int32) = nI 26 from rfl), nI_mul, nI_add, nI_1, Int32.add_zero, e2', l6', e3, m_knows, Option.toList_some, List.cons_append]
        have hne : v ≠ u := fun q => by have := h2 hu6; rw [← q, c] at this; cases this
        have lo3 : ∀ i, i ≠ 6 → i ≠ 8 + 26 * u → upd (upd s 6 (nI (came + 1))) (8 + 26 * u) (nI (came + 1)) i = s i := fun i q1 q2 => by rw [u_ne q2, u_ne q1]
        have hkv := (x1.2.2.2.2.2.2.1 v hv6).2.2.2
        have hkv3 : MK (upd (upd s 6 (nI (came + 1))) (8 + 26 * u) (nI (came + 1))) (9 + 26 * v) (S.vk v) := hkv.eq (fun i a1 a2 => lo3 i (by omega) (by omega))
        refine Call.mono (m_lays k3 hkv3 (c := 9 + 26 * u) (by omega) (by omega) (by omega)) ?_
        rintro rv h4 ⟨rfl, ⟨s4, k4, m4, e4⟩, r4⟩
        simp only [Option.toList_none, List.nil_append, s113_90, s113_91]
        have lo4 : ∀ i, i ≠ 6 → i ≠ 8 + 26 * u → (i < 9 + 26 * u ∨ 9 + 26 * u + 25 ≤ i) → s4 i = s i := fun i q1 q2 q3 => (e4 i q3).trans (lo3 i q1 q2)
        refine MO.ok (G := G) (r := (nI u, T)) k4 (isE_nI (by omega)) (((r1.tr r2).tr r3).tr r4) cg ⟨va_up td u (came + 1), came + 1, posted, P, ?_, by omega, by omega, by rw [hT]; exact ht⟩
        rw [hT]
        refine ⟨?_, ?_, by rw [lo4 _ (by omega) (by omega) (by omega)]; exact x3, by omega, x5, fun w hw => ?_, x7, fun k q hq => ?_, fun q hq => ?_, x10, x11⟩
        · obtain ⟨z0, zn, zt, z3, z4, z5, z6, z7, z8⟩ := id x1
          refine ⟨by rw [lo4 _ (by omega) (by omega) (by omega)]; exact z0, by rw [lo4 _ (by omega) (by omega) (by omega)]; exact zn, by rw [lo4 _ (by omega) (by omega) (by omega)]; exact zt, by rw [lo4 _ (by omega) (by omega) (by omega)]; exact z3, by rw [lo4 _ (by omega) (by omega) (by omega)]; exact z4, by rw [lo4 _ (by omega) (by omega) (by omega)]; exact z5, fun w hw => ?_, fun y hy => ?_, z8⟩
          · obtain ⟨q1, q2, q3, q4⟩ := z6 w hw
            show _ = nI (va_up td u (came + 1) w) ∧ va_up td u (came + 1) w < 1073741824 ∧ va_up S.th u true w = decide (0 < va_up td u (came + 1) w) ∧ MK s4 (9 + 26 * w) (va_up S.vk u (S.vk v) w)
            by_cases ew : w = u
            · subst ew
              rw [up_eq, up_eq, up_eq]
              refine ⟨?_, by omega, by simp, m4⟩
              rw [e4 _ (by omega), u_eq]
            · rw [up_ne _ ew, up_ne _ ew, up_ne _ ew]
              exact ⟨by rw [lo4 _ (by omega) (by omega) (by omega)]; exact q1, q2, q3, q4.eq (fun i a1 a2 => lo4 i (by omega) (by omega) (by omega))⟩
          · obtain ⟨p1, p2, p3⟩ := z7 y hy
            have hy8 : y < 8 := Nat.lt_of_lt_of_le hy z8
            exact ⟨by rw [lo4 _ (by omega) (by omega) (by omega)]; exact p1, by rw [lo4 _ (by omega) (by omega) (by omega)]; exact p2, p3⟩
        · rw [e4 _ (by omega), u_ne (by omega), u_eq]
        · have := x6 w hw
          by_cases ew : w = u
          · subst ew; rw [up_eq]; exact Nat.le_refl _
          · rw [up_ne _ ew]; omega
        · obtain ⟨y0, y1, y2, y3, y4, y5⟩ := x8 k q hq
          exact ⟨by rw [lo4 _ (by omega) (by omega) (by omega)]; exact y0, by rw [lo4 _ (by omega) (by omega) (by omega)]; exact y1, by rw [lo4 _ (by omega) (by omega) (by omega)]; exact y2, by rw [lo4 _ (by omega) (by omega) (by omega)]; exact y3, by rw [lo4 _ (by omega) (by omega) (by omega)]; exact y4, y5.eq (fun i h1 h2 => lo4 i (by omega) (by omega) (by omega))⟩
        · obtain ⟨w1, w2, w3, w4, w5, w6, w7, w8⟩ := x9 q hq
          refine ⟨w1, w2, w3, by omega, ?_, w6, w7, w8⟩
          by_cases ew : q.2.2.2.1 = u
          · rw [ew, up_eq, w5, ew]
            have t0 : td u = 0 := by
              have := (x1.2.2.2.2.2.2.1 u hu6).2.2.1
              rw [h2 hu6] at this
              have := of_decide_eq_false this.symm
              omega
            rw [t0, decide_eq_true (show ¬ 0 = q.1 by omega), decide_eq_true (show ¬ came + 1 = q.1 by omega)]
          · rw [up_ne _ ew]; exact w5
    have loop : ∀ d u, u + d = 6 → (∀ i, i < u → S.th i = true) → Ev none 113 13 [.ref 423, .int (nI v), .int (nI u)] [] h (MO G m F s A (aView S (nI v)) h) := by
      intro d
      induction d with
      | zero =>
        intro u hu h1
        obtain rfl : u = 6 := by omega
        simp only [s113_13, s113_14, s113_16, if_pos (show (6 : Int32) ≤ nI 6 by decide)]
        exact at33 6 (Nat.le_refl _) h1 (fun q => by omega)
      | succ d ih =>
        intro u hu h1
        have hu6 : u < 6 := by omega
        simp only [s113_13, s113_14, s113_16, if_neg (le6 hu6)]
        simp only [s113_19, s113_20, s113_21, s113_24, hM.f, m_isView hM hL, hv_nI hu6, Option.toList_some, List.cons_append, List.nil_append]
        by_cases cu : S.th u = true
        · rw [if_pos cu, if_neg (show ¬ (1 : Int32) = 0 by decide)]
          simp only [s113_27, s113_30, nI_1]
          refine ih (u + 1) (by omega) (fun i hi => ?_)
          by_cases e : i = u
          · subst e; exact cu
          · exact h1 i (by omega)
        · rw [if_neg cu, if_pos rfl]
          exact at33 u (by omega) h1 (fun _ => by simpa using cu)
    simp only [s113_11, s113_12]
    exact loop 6 0 rfl (fun i hi => by omega)
  · rw [if_neg c, if_neg (show ¬ ¬ (0 : Int32) = 0 by decide)]
    exact bad (by rw [e0, if_pos c]) _
theorem m_onesV {td : Nat → Nat} {n : Nat} (hM : HM h F s A) (hL : ML s S n td) : (∀ post, Call 100 [.ref 423] h post = post (some (.int (obits S.th 6))) h) ∧ (∀ post, Call 99 [.int (obits S.th 6)] h post = post (some (.int (cntI S.th 6))) h) := by
  refine ⟨m_views hM hL, ?_⟩
  have k6 := obits_8 (fun i => decide (i < 6) && S.th i)
  rw [← obits_68] at k6
  have on1 := m_ones h k6
  rwa [bc_6] at on1
theorem m_drop (hM : HM h F s A) (hX : MXG G s S) (hm : m ≤ 4) (hF : F 4 = nI m) (x : Int32) : Call 115 [.ref 423, .int x] h (MO G m F s A (aDrop S x) h) := by
  obtain ⟨td, came, posted, P, hX, hc1, hp1, ht⟩ := hX
  have hL := hX.1
  simp only [s115_0, s115_1, s115_2, s115_5, s115_e, hM.f, m_isView hM hL x, Option.toList_some, List.cons_append, List.nil_append]
  have bad : aDrop S x = (eI, S) → Ev none 115 8 [.ref 423, .int x] [] h (MO G m F s A (aDrop S x) h) := by
    intro e
    rw [e]
    simp only [s115_8, s115_10]
    exact MO.err (r := (eI, S)) hM isE_I
  have bad2 : aDrop S x = (eN, S) → Ev none 115 30 [.ref 423, .int x] [] h (MO G m F s A (aDrop S x) h) := by
    intro e
    rw [e]
    simp only [s115_30, s115_32]
    exact MO.err (r := (eN, S)) hM isE_N
  rcases ix_cases x 6 with hx | ⟨v, hv6, rfl⟩
  · have e : hv S x = false := by unfold hv; rw [hx]
    rw [e, if_neg (show ¬ false = true by decide), if_neg (show ¬ ¬ (0 : Int32) = 0 by decide)]
    exact bad (by unfold aDrop; rw [hx])
  rw [hv_nI hv6]
  have e0 : aDrop S (nI v) = if ¬ S.th v = true then (eI, S) else if ¬ homeSet S v = 0 ∨ cntI S.th 6 = 1 then (eN, S) else
    (cntI (va_up S.th v false) 6, sLT (sTH S (va_up S.th v false)) (S.lt.map (loseTo v))) := by unfold aDrop; rw [ix_nI hv6 (by decide)]
  by_cases c : S.th v = true
  · rw [if_pos c, if_pos (show ¬ (1 : Int32) = 0 by decide)]
    rw [if_neg (fun q => q c)] at e0
    simp only [s115_11, s115_12, s115_13, s115_16, hM.f, m_homers hM hL hv6, Option.toList_some, List.cons_append, List.nil_append]
    by_cases ch : homeSet S v = 0
    · rw [if_neg (fun q => q ch)]
      have ov := m_onesV hM hL
      simp only [s115_19, s115_20, s115_23, s115_26, s115_27, hM.f, ov.1, ov.2, Option.toList_some, List.cons_append, List.nil_append]
      by_cases c1 : cntI S.th 6 = 1
      · rw [if_neg (fun q => q c1)]
        exact bad2 (by rw [e0, if_pos (Or.inr c1)])
      · rw [if_pos c1]
        rw [if_neg (fun q => q.elim (fun q => q ch) c1)] at e0
        rw [e0]
        obtain ⟨T, hT⟩ : ∃ T, T = sLT (sTH S (va_up S.th v false)) (S.lt.map (loseTo v)) := ⟨_, rfl⟩
        rw [← hT]
        simp only [s115_33, s115_34, hM.f]
        refine Call.mono (m_changes hM hm hF) ?_
        rintro rv h1 ⟨rfl, ⟨F1, A1, k1, cg⟩, r1⟩
        obtain ⟨h2, e2, k2, r2⟩ := k1.ss (show 8 + 26 * v < 420 by omega) 0
        obtain ⟨x1, x2, x3, x4, x5, x6, x7, x8, x9, x10, x11⟩ := id hX
        have lo : ∀ i, i ≠ 8 + 26 * v → upd s (8 + 26 * v) 0 i = s i := fun i q => u_ne q
        let P' : List Pt := P.map (fun q => (q.1, q.2.1, loseTo v q.2.2))
        have hP'n : P'.length = P.length := List.length_map _
        have lt1 : ∀ L : Lt, (loseTo v L).1 = L.1 ∧ (loseTo v L).2.1 = L.2.1 ∧ (loseTo v L).2.2.1 = L.2.2.1 ∧ (loseTo v L).2.2.2.2 = L.2.2.2.2 ∧ (loseTo v L).2.2.2.1 = (decide (L.2.1 = v) || L.2.2.2.1) := by
          intro L
          unfold loseTo
          by_cases q : L.2.1 = v
          · rw [if_pos q]; simp [q]
          · rw [if_neg q]; simp [q]
        have hX2 : MX (upd s (8 + 26 * v) 0) T (va_up td v 0) came posted P' := by
          rw [hT]
          refine ⟨?_, by rw [lo _ (by omega)]; exact x2, by rw [lo _ (by omega)]; exact x3, x4, x5, fun w hw => ?_, by rw [hP'n]; exact x7, fun k q hq => ?_, fun q hq => ?_, ?_, ?_⟩
          · obtain ⟨z0, zn, zt, z3, z4, z5, z6, z7, z8⟩ := id x1
            refine ⟨by rw [lo _ (by omega)]; exact z0, by rw [lo _ (by omega), hP'n]; exact zn, by rw [lo _ (by omega)]; exact zt, by rw [lo _ (by omega)]; exact z3, by rw [lo _ (by omega)]; exact z4, by rw [lo _ (by omega)]; exact z5, fun w hw => ?_, fun y hy => ?_, z8⟩
            · obtain ⟨q1, q2, q3, q4⟩ := z6 w hw
              show _ = nI (va_up td v 0 w) ∧ va_up td v 0 w < 1073741824 ∧ va_up S.th v false w = decide (0 < va_up td v 0 w) ∧ MK _ (9 + 26 * w) (S.vk w)
              by_cases ew : w = v
              · subst ew
                rw [up_eq, up_eq, u_eq]
                exact ⟨rfl, by decide, by decide, q4.eq (fun i a1 a2 => lo i (by omega))⟩
              · rw [up_ne _ ew, up_ne _ ew]
                exact ⟨by rw [lo _ (by omega)]; exact q1, q2, q3, q4.eq (fun i a1 a2 => lo i (by omega))⟩
            · obtain ⟨p1, p2, p3⟩ := z7 y hy
              have hy8 : y < 8 := Nat.lt_of_lt_of_le hy z8
              exact ⟨by rw [lo _ (by omega)]; exact p1, by rw [lo _ (by omega)]; exact p2, p3⟩
          · have := x6 w hw
            by_cases ew : w = v
            · subst ew; rw [up_eq]; exact Nat.zero_le _
            · rw [up_ne _ ew]; exact this
          · have hq : (P.map (fun q => (q.1, q.2.1, loseTo v q.2.2)))[k]? = some q := hq
            rw [List.getElem?_map] at hq
            obtain ⟨p, hp, rfl⟩ := Option.map_eq_some_iff.mp hq
            obtain ⟨y0, y1, y2, y3, y4, y5⟩ := x8 k p hp
            obtain ⟨b1, b2, b3, b4, b5⟩ := lt1 p.2.2
            show _ = nI (loseTo v p.2.2).1 ∧ _ = nI (loseTo v p.2.2).2.1 ∧ _ = nI p.1 ∧ _ = nI (loseTo v p.2.2).2.2.1 ∧ _ = nI p.2.1 ∧ MK _ _ (loseTo v p.2.2).2.2.2.2
            rw [b1, b2, b3, b4]
            exact ⟨by rw [lo _ (by omega)]; exact y0, by rw [lo _ (by omega)]; exact y1, by rw [lo _ (by omega)]; exact y2, by rw [lo _ (by omega)]; exact y3, by rw [lo _ (by omega)]; exact y4, y5.eq (fun i h1 h2 => lo i (by omega))⟩
          · obtain ⟨p, hp, rfl⟩ := List.mem_map.mp (show q ∈ P.map (fun q => (q.1, q.2.1, loseTo v q.2.2)) from hq)
            obtain ⟨w1, w2, w3, w4, w5, w6, w7, w8⟩ := x9 p hp
            obtain ⟨b1, b2, b3, b4, b5⟩ := lt1 p.2.2
            show (loseTo v p.2.2).1 < 6 ∧ (loseTo v p.2.2).2.1 < 6 ∧ 1 ≤ p.1 ∧ p.1 ≤ came ∧ (loseTo v p.2.2).2.2.2.1 = decide (¬ va_up td v 0 (loseTo v p.2.2).2.1 = p.1) ∧ S.ct 1 < (loseTo v p.2.2).2.2.1 ∧ (loseTo v p.2.2).2.2.1 ≤ S.ct 1 + 99 ∧ p.2.1 < posted
            rw [b1, b2, b3, b5]
            refine ⟨w1, w2, w3, w4, ?_, w6, w7, w8⟩
            by_cases ew : p.2.2.2.1 = v
            · rw [ew, up_eq, decide_eq_true (show ¬ 0 = p.1 by omega)]; simp
            · rw [up_ne _ ew, w5]; simp [ew]
          · exact List.pairwise_map.mpr x10
          · show S.lt.map (loseTo v) = srt ((P.map (fun q => (q.1, q.2.1, loseTo v q.2.2))).map (fun q => q.2.2))
            rw [x11, srt_map (fun M => (lt1 M).2.2.1), List.map_map, List.map_map]
            rfl
        have ov2 := m_onesV k2 hX2.1
        have eth : T.th = va_up S.th v false := by rw [hT]
        rw [eth] at ov2
        simp only [Option.toList_none, List.nil_append, s115_37, s115_38, s115_41, s115_43, s115_45, s115_46, s115_47, s115_48, s115_49, s115_50, s115_51, s115_52, s115_53, s115_56, s115_59, k1.f, k2.f, oB_some, (show (8 : Int32) = nI 8 from rfl), (show (26 : Int32) = nI 26 from rfl), nI_mul, nI_add, Int32.add_zero, e2, ov2.1, ov2.2, Option.toList_some, List.cons_append]
        exact MO.ok (G := G) (r := (cntI (va_up S.th v false) 6, T)) k2 (by show isE (cntI _ 6) = false; rw [cntI_cn]; exact isE_nI (by have := cn_le (va_up S.th v false) 6; omega)) (r1.tr r2) cg ⟨va_up td v 0, came, posted, P', hX2, by omega, by omega, by rw [hT]; exact ht⟩
    · rw [if_pos ch]
      exact bad2 (by rw [e0, if_pos (Or.inl ch)])
  · rw [if_neg c, if_neg (show ¬ ¬ (0 : Int32) = 0 by decide)]
    exact bad (by rw [e0, if_pos c])
end MVV
