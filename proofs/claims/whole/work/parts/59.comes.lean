/-! The model: a letter comes. -/
/-- the letters as they are posted, while some of them come: of times only that they are small -/
def MY (s : Nat → Int32) (S : St) (td : Nat → Nat) (came posted : Nat) (P : List Pt) : Prop :=
  ML s S P.length td ∧ s 6 = nI came ∧ s 7 = nI posted ∧ came < 1073741824 ∧ posted < 1073741824 ∧ (∀ v, v < 6 → td v ≤ came) ∧ P.length ≤ 8 ∧
  (∀ (k : Nat) (q : Pt), P[k]? = some q → s (180 + 30 * k) = nI q.2.2.1 ∧ s (181 + 30 * k) = nI q.2.2.2.1 ∧ s (182 + 30 * k) = nI q.1 ∧ s (183 + 30 * k) = nI q.2.2.2.2.1 ∧ s (184 + 30 * k) = nI q.2.1 ∧ MK s (185 + 30 * k) q.2.2.2.2.2.2) ∧
  (∀ q ∈ P, q.2.2.1 < 6 ∧ q.2.2.2.1 < 6 ∧ 1 ≤ q.1 ∧ q.1 ≤ came ∧ q.2.2.2.2.2.1 = decide (¬ td q.2.2.2.1 = q.1) ∧ q.2.2.2.2.1 < 1000000000 ∧ q.2.1 < posted) ∧
  P.Pairwise (fun a c => a.2.1 < c.2.1)
theorem MX.my {s : Nat → Int32} {S : St} {td : Nat → Nat} {came posted : Nat} {P : List Pt} (h : MX s S td came posted P) (ht : S.ct 1 < 1000000) : MY s S td came posted P := by
  obtain ⟨x1, x2, x3, x4, x5, x6, x7, x8, x9, x10, x11⟩ := h
  refine ⟨x1, x2, x3, x4, x5, x6, x7, x8, fun q hq => ?_, x10⟩
  obtain ⟨z1, z2, z3, z4, z5, z6, z7, z8⟩ := x9 q hq
  exact ⟨z1, z2, z3, z4, z5, by omega, z8⟩
theorem MY.mx {s : Nat → Int32} {S : St} {td : Nat → Nat} {came posted : Nat} {P : List Pt} (h : MY s S td came posted P) (ht : ∀ q ∈ P, S.ct 1 < q.2.2.2.2.1 ∧ q.2.2.2.2.1 ≤ S.ct 1 + 99) (hl : S.lt = srt (P.map (fun q => q.2.2))) : MX s S td came posted P := by
  obtain ⟨x1, x2, x3, x4, x5, x6, x7, x8, x9, x10⟩ := h
  refine ⟨x1, x2, x3, x4, x5, x6, x7, x8, fun q hq => ?_, x10, hl⟩
  obtain ⟨z1, z2, z3, z4, z5, z6, z7⟩ := x9 q hq
  exact ⟨z1, z2, z3, z4, z5, (ht q hq).1, (ht q hq).2, z7⟩
theorem MK.sh {s s' : Nat → Int32} {b : Nat} {K : Kn} (h : MK s (b + 30) K) (he : ∀ i, b ≤ i → i < b + 25 → s' i = s (i + 30)) : MK s' b K := by
  refine ⟨by rw [he b (Nat.le_refl _) (by omega)]; exact h.1, fun w hw => ?_⟩
  obtain ⟨q1, q2, q3⟩ := h.2 w hw
  refine ⟨?_, ?_, ?_⟩
  · rw [he _ (by omega) (by omega), ← q1]; congr 1; omega
  · rw [he _ (by omega) (by omega), ← q2]; congr 1; omega
  · rw [he _ (by omega) (by omega), ← q3]; congr 1; omega
section MCM
variable {h h' : AHp} {F s : Nat → Int32} {A : Ar} {S : St} {td : Nat → Nat} {came posted : Nat} {P : List Pt}
theorem y_let (hM : HM h F s A) (hX : MY s S td came posted P) {k : Nat} {q : Pt} (hq : P[k]? = some q) :
    (∀ post, Call 117 [.ref 423, .int (nI k), .int 1] h post = post (some (.int (nI q.2.2.2.1))) h) ∧
    (∀ post, Call 117 [.ref 423, .int (nI k), .int 2] h post = post (some (.int (nI q.1))) h) ∧
    (∀ post, Call 117 [.ref 423, .int (nI k), .int 3] h post = post (some (.int (nI q.2.2.2.2.1))) h) := by
  obtain ⟨x1, x2, x3, x4, x5, x6, x7, x8, -⟩ := hX
  obtain ⟨y0, y1, y2, y3, y4, -⟩ := x8 k q hq
  have hk : k < 8 := Nat.lt_of_lt_of_le (List.getElem?_eq_some_iff.mp hq).1 x7
  refine ⟨m_ofLetter hM (j := 1) (by omega) ?_, m_ofLetter hM (j := 2) (by omega) ?_, m_ofLetter hM (j := 3) (by omega) ?_⟩
  · rw [show 180 + 30 * k + 1 = 181 + 30 * k by omega]; exact y1
  · rw [show 180 + 30 * k + 2 = 182 + 30 * k by omega]; exact y2
  · rw [show 180 + 30 * k + 3 = 183 + 30 * k by omega]; exact y3
theorem y_isLost (hM : HM h F s A) (hX : MY s S td came posted P) {k : Nat} {q : Pt} (hq : P[k]? = some q) : ∀ post, Call 119 [.ref 423, .int (nI k)] h post = post (some (.int (bI q.2.2.2.2.2.1))) h := by
  refine call_eq ?_
  have hl := y_let hM hX hq
  obtain ⟨x1, x2, x3, x4, x5, x6, x7, x8, x9, -⟩ := hX
  obtain ⟨z1, z2, z3, z4, z5, -⟩ := x9 q (List.mem_of_getElem? hq)
  have hv := (x1.2.2.2.2.2.2.1 _ z2).1
  have ht := x6 _ z2
  have l1 := hM.ls (show 8 + 26 * q.2.2.2.1 < 420 by omega)
  rw [hv] at l1
  simp only [s119_0, s119_1, s119_4, s119_6, s119_8, s119_9, s119_10, s119_11, s119_14, s119_15, s119_16, s119_17, s119_18, s119_19, s119_20, s119_21, s119_22, s119_25, s119_e, hM.f, hl.1, hl.2.1, Option.toList_some, List.cons_append, List.nil_append, (show (8 : Int32) = nI 8 from rfl), (show (26 : Int32) = nI 26 from rfl), nI_mul, nI_add, Int32.add_zero, oB_some, l1, nI_eq (show td q.2.2.2.1 < 2147483648 by omega) (show q.1 < 2147483648 by omega), z5]
  by_cases c : td q.2.2.2.1 = q.1
  · rw [if_pos c]
    simp only [s119_32, s119_33]
    simp [bI, c]
  · rw [if_neg c]
    simp only [s119_28, s119_29, s119_32, s119_33]
    simp [bI, c]
/-- where letters and numbers of the letters lie is not touched -/
theorem MY.keep {s' : Nat → Int32} {T : St} {n : Nat} (h : MY s S td came posted P) (hn : n = P.length) (hL : ML s' T n td) (he : ∀ i, (i = 6 ∨ i = 7 ∨ 180 ≤ i) → s' i = s i) : MY s' T td came posted P := by
  subst hn
  obtain ⟨x1, x2, x3, x4, x5, x6, x7, x8, x9, x10⟩ := h
  refine ⟨hL, by rw [he _ (by omega)]; exact x2, by rw [he _ (by omega)]; exact x3, x4, x5, x6, x7, fun k q hq => ?_, x9, x10⟩
  obtain ⟨y0, y1, y2, y3, y4, y5⟩ := x8 k q hq
  exact ⟨by rw [he _ (by omega)]; exact y0, by rw [he _ (by omega)]; exact y1, by rw [he _ (by omega)]; exact y2, by rw [he _ (by omega)]; exact y3, by rw [he _ (by omega)]; exact y4, y5.eq (fun i h1 h2 => he i (by omega))⟩
theorem ML.n {s' : Nat → Int32} {n m : Nat} (h : ML s S n td) (h1 : s' 1 = nI m) (he : ∀ i, i ≠ 1 → i < 180 → s' i = s i) : ML s' S m td := by
  obtain ⟨z0, z1, z2, z3, z4, z5, z6, z7, z8⟩ := h
  refine ⟨by rw [he _ (by omega) (by omega)]; exact z0, h1, by rw [he _ (by omega) (by omega)]; exact z2, by rw [he _ (by omega) (by omega)]; exact z3, by rw [he _ (by omega) (by omega)]; exact z4, by rw [he _ (by omega) (by omega)]; exact z5, fun u hu => ?_, fun w hw => ?_, z8⟩
  · obtain ⟨q1, q2, q3, q4⟩ := z6 u hu
    exact ⟨by rw [he _ (by omega) (by omega)]; exact q1, q2, q3, q4.eq (fun i h1 h2 => he i (by omega) (by omega))⟩
  · obtain ⟨q1, q2, q3⟩ := z7 w hw
    have : w < 8 := Nat.lt_of_lt_of_le hw z8
    exact ⟨by rw [he _ (by omega) (by omega)]; exact q1, by rw [he _ (by omega) (by omega)]; exact q2, q3⟩
theorem er_at (l : List Pt) (k j : Nat) : (l.eraseIdx k)[j]? = if j < k then l[j]? else l[j + 1]? := by
  rw [List.getElem?_eraseIdx]
theorem m_comes (hM : HM h F s A) (hX : MY s S td came posted P) {k : Nat} {q : Pt} (hq : P[k]? = some q) : Call 120 [.ref 423, .int (nI k)] h (fun rv h' => rv = some (.int (bI (!q.2.2.2.2.2.1))) ∧ (∃ s', HM h' F s' A ∧ MY s' (recv S q.2.2) td came posted (P.eraseIdx k)) ∧ Fr 423 430 h h') := by
  have hl := y_let hM hX hq
  have hlost := y_isLost hM hX hq
  have hkP := (List.getElem?_eq_some_iff.mp hq).1
  have h8 : P.length ≤ 8 := hX.2.2.2.2.2.2.1
  have hmem := List.mem_of_getElem? hq
  have hto : q.2.2.2.1 < 6 := (hX.2.2.2.2.2.2.2.2.1 q hmem).2.1
  have tail : ∀ (hh : AHp) (s2 : Nat → Int32) (v3 : Value), HM hh F s2 A → MY s2 (recv S q.2.2) td came posted P → Fr 423 430 h hh →
      Ev none 120 58 [.ref 423, .int (nI k), .int (bI q.2.2.2.2.2.1), v3] [] hh (fun rv h' => rv = some (.int (bI (!q.2.2.2.2.2.1))) ∧ (∃ s', HM h' F s' A ∧ MY s' (recv S q.2.2) td came posted (P.eraseIdx k)) ∧ Fr 423 430 h h') := by
    intro hh s2 v3 z1 z2 z3
    obtain ⟨L, hL⟩ : ∃ L, P.length = L + 1 := ⟨P.length - 1, by omega⟩
    have c1 : s2 1 = nI (L + 1) := by rw [← hL]; exact z2.1.2.1
    obtain ⟨h3, e3, k3, r3⟩ := z1.ss (show 1 < 420 by decide) (nI L)
    have e3' : sti hh 424 1 (nI L) = some h3 := e3
    have l1 : ldi hh 424 1 = some (nI (L + 1)) := by rw [← c1]; exact z1.ls (i := 1) (by decide)
    have loop : ∀ d j (h4 : AHp) (s4 : Nat → Int32), j + d = 180 + 30 * L → 180 + 30 * k ≤ j → HM h4 F s4 A → (∀ i, s4 i = if 180 + 30 * k ≤ i ∧ i < j then s2 (i + 30) else upd s2 1 (nI L) i) → Fr 423 430 h h4 →
        Ev none 120 77 [.ref 423, .int (nI k), .int (bI q.2.2.2.2.2.1), .int (nI j)] [] h4 (fun rv h' => rv = some (.int (bI (!q.2.2.2.2.2.1))) ∧ (∃ s', HM h' F s' A ∧ MY s' (recv S q.2.2) td came posted (P.eraseIdx k)) ∧ Fr 423 430 h h') := by
      intro d
      induction d with
      | zero =>
        intro j h4 s4 hj hkj y1 y2 y3
        obtain rfl : j = 180 + 30 * L := by omega
        have m1 : s4 1 = nI L := by rw [y2, if_neg (by omega)]; unfold upd; rw [if_pos rfl]
        have l4 : ldi h4 424 1 = some (nI L) := by rw [← m1]; exact y1.ls (i := 1) (by decide)
        have lo : ∀ i, i ≠ 1 → i < 180 + 30 * k → s4 i = s2 i := by
          intro i h1 h2
          rw [y2, if_neg (by omega)]
          unfold upd; rw [if_neg h1]
        have hi : ∀ i, 180 + 30 * k ≤ i → i < 180 + 30 * L → s4 i = s2 (i + 30) := by
          intro i h1 h2
          rw [y2, if_pos ⟨h1, h2⟩]
        have res : MY s4 (recv S q.2.2) td came posted (P.eraseIdx k) := by
          obtain ⟨x1, x2, x3, x4, x5, x6, x7, x8, x9, x10⟩ := z2
          have hlen : (P.eraseIdx k).length = L := by rw [List.length_eraseIdx, if_pos hkP, hL]; rfl
          refine ⟨?_, by rw [lo _ (by omega) (by omega)]; exact x2, by rw [lo _ (by omega) (by omega)]; exact x3, x4, x5, x6, by omega, fun j p hp => ?_, fun p hp => x9 p (List.mem_of_mem_eraseIdx hp), x10.sublist (List.eraseIdx_sublist _ _)⟩
          · rw [hlen]
            exact x1.n m1 (fun i a1 a2 => lo i a1 (by omega))
          · have hj : j < L := by rw [← hlen]; exact (List.getElem?_eq_some_iff.mp hp).1
            rw [er_at] at hp
            by_cases c : j < k
            · rw [if_pos c] at hp
              obtain ⟨w0, w1, w2, w3, w4, w5⟩ := x8 j p hp
              exact ⟨by rw [lo _ (by omega) (by omega)]; exact w0, by rw [lo _ (by omega) (by omega)]; exact w1, by rw [lo _ (by omega) (by omega)]; exact w2, by rw [lo _ (by omega) (by omega)]; exact w3, by rw [lo _ (by omega) (by omega)]; exact w4, w5.eq (fun i a1 a2 => lo i (by omega) (by omega))⟩
            · rw [if_neg c] at hp
              obtain ⟨w0, w1, w2, w3, w4, w5⟩ := x8 (j + 1) p hp
              refine ⟨by rw [hi _ (by omega) (by omega), ← w0]; congr 1, by rw [hi _ (by omega) (by omega), ← w1]; congr 1, by rw [hi _ (by omega) (by omega), ← w2]; congr 1, by rw [hi _ (by omega) (by omega), ← w3]; congr 1, by rw [hi _ (by omega) (by omega), ← w4]; congr 1, ?_⟩
              rw [show 185 + 30 * (j + 1) = 185 + 30 * j + 30 by omega] at w5
              exact w5.sh (fun i a1 a2 => hi i (by omega) (by omega))
        simp only [s120_77, s120_78, s120_81, s120_83, s120_84, s120_87, s120_88, s120_89, s120_90, s120_91, y1.f, oB_some, l4, (show (180 : Int32) = nI 180 from rfl), (show (30 : Int32) = nI 30 from rfl), nI_mul, nI_add, if_pos (Int32.le_refl _)]
        simp only [s120_115, s120_116]
        cases q.2.2.2.2.2.1 with
        | true =>
          rw [if_pos (show ¬ bI true = 0 by decide)]
          simp only [s120_123, s120_124]
          exact ⟨by first | trivial | decide, by first | trivial | rfl, ⟨s4, y1, res⟩, y3⟩
        | false =>
          rw [if_neg (show ¬ ¬ bI false = 0 by decide)]
          simp only [s120_119, s120_120, s120_124]
          exact ⟨by first | trivial | decide, by first | trivial | rfl, ⟨s4, y1, res⟩, y3⟩
      | succ d ih =>
        intro j h4 s4 hj hkj y1 y2 y3
        have m1 : s4 1 = nI L := by rw [y2, if_neg (by omega)]; unfold upd; rw [if_pos rfl]
        have l4 : ldi h4 424 1 = some (nI L) := by rw [← m1]; exact y1.ls (i := 1) (by decide)
        have lj : ldi h4 424 (nI (j + 30)) = some (s2 (j + 30)) := by
          rw [y1.ls (by omega), y2, if_neg (by omega)]; unfold upd; rw [if_neg (by omega)]
        obtain ⟨h5, e5, k5, r5⟩ := y1.ss (show j < 420 by omega) (s2 (j + 30))
        simp only [s120_77, s120_78, s120_81, s120_83, s120_84, s120_87, s120_88, s120_89, s120_90, s120_91, y1.f, oB_some, l4, (show (180 : Int32) = nI 180 from rfl), (show (30 : Int32) = nI 30 from rfl), nI_mul, nI_add, if_neg (show ¬ nI (180 + 30 * L) ≤ nI j from nI_ge (by omega) (by omega))]
        simp only [s120_94, s120_95, s120_98, s120_99, s120_100, s120_103, s120_104, s120_106, s120_107, s120_108, s120_109, s120_112, y1.f, oB_some, (show (30 : Int32) = nI 30 from rfl), nI_add, lj, e5, nI_1]
        refine ih (j + 1) h5 _ (by omega) (by omega) k5 (fun i => ?_) (y3.tr r5)
        unfold upd
        by_cases e : i = j
        · subst e
          rw [if_pos rfl, if_pos (by omega)]
        · rw [if_neg e, y2 i]
          by_cases e2 : 180 + 30 * k ≤ i ∧ i < j
          · rw [if_pos e2, if_pos (by omega)]
          · rw [if_neg e2, if_neg (by omega)]; rfl
    simp only [s120_58, s120_59, s120_62, s120_63, s120_64, s120_65, s120_66, s120_67, s120_68, s120_71, s120_73, s120_74, s120_75, s120_76, z1.f, oB_some, l1, nI_pred, e3', (show (180 : Int32) = nI 180 from rfl), (show (30 : Int32) = nI 30 from rfl), nI_mul, nI_add]
    exact loop (30 * L - 30 * k) (180 + 30 * k) h3 _ (by omega) (Nat.le_refl _) k3 (fun i => by rw [if_neg (by omega)]) (z3.tr r3)
  simp only [s120_0, s120_1, s120_2, s120_5, s120_6, s120_7, s120_10, s120_11, s120_e, hM.f, hlost, Option.toList_some, List.cons_append, List.nil_append, oB_some]
  obtain ⟨x1, x2⟩ := id hX
  obtain ⟨z0, zn, zt, z3, z4, z5, z6, z7, z8⟩ := id x1
  have l3 : ldi h 424 3 = some (s 3) := hM.ls (i := 3) (by decide)
  have l4 : ldi h 424 4 = some (s 4) := hM.ls (i := 4) (by decide)
  cases hb : q.2.2.2.2.2.1 with
  | true =>
    have er : recv S q.2.2 = sCT S (va_up S.ct 3 (S.ct 3 + 1)) := by unfold recv; rw [if_pos hb]
    rw [if_neg (show ¬ bI true = 0 by decide)]
    obtain ⟨h1, e1, k1, r1⟩ := hM.ss (show 4 < 420 by decide) (s 4 + 1)
    have e1' : sti h 424 4 (s 4 + 1) = some h1 := e1
    have l5 : ldi h1 424 5 = some (s 5) := k1.ls (i := 5) (by decide)
    obtain ⟨h2, e2, k2, r2⟩ := k1.ss (show 5 < 420 by decide) (s 5)
    have e2' : sti h1 424 5 (s 5) = some h2 := e2
    rw [hb] at tail
    simp only [s120_14, s120_15, s120_19, s120_20, s120_21, s120_22, s120_23, s120_24, s120_25, s120_28, s120_29, s120_30, s120_31, s120_32, l4, e1', k1.f, l5, oB_some, if_neg (show ¬ bI true = 0 by decide)]
    simp only [s120_35, s120_36, s120_56, s120_57, Int32.add_zero, e2', oB_some]
    refine tail h2 _ _ k2 (hX.keep rfl ?_ (fun i hi => ?_)) (r1.tr r2)
    · rw [er]
      have u : ∀ i, i ≠ 4 → upd (upd s 4 (s 4 + 1)) 5 (s 5) i = s i := by
        intro i hi
        unfold upd
        by_cases e : i = 5
        · subst e; rw [if_pos rfl]
        · rw [if_neg e, if_neg hi]
      refine ⟨by rw [u _ (by omega)]; exact z0, by rw [u _ (by omega)]; exact zn, by rw [u _ (by omega)]; exact zt, by rw [u _ (by omega)]; exact z3, ?_, by rw [u _ (by omega)]; exact z5, fun v hv => ?_, fun w hw => ?_, z8⟩
      · show upd (upd s 4 (s 4 + 1)) 5 (s 5) 4 = nI (S.ct 3 + 1)
        rw [← nI_1, ← z4]; rfl
      · obtain ⟨q1, q2, q3, q4⟩ := z6 v hv
        exact ⟨by rw [u _ (by omega)]; exact q1, q2, q3, q4.eq (fun i a1 a2 => u i (by omega))⟩
      · obtain ⟨q1, q2, q3⟩ := z7 w hw
        exact ⟨by rw [u _ (by omega)]; exact q1, by rw [u _ (by omega)]; exact q2, q3⟩
    · unfold upd
      rw [if_neg (by omega), if_neg (by omega)]
  | false =>
    have er : recv S q.2.2 = sCT (sOT (sVK S (va_up S.vk q.2.2.2.1 (kTk (S.vk q.2.2.2.1) q.2.2.2.2.2.2))) (S.ot + kCt (S.vk q.2.2.2.1) q.2.2.2.2.2.2)) (va_up S.ct 2 (S.ct 2 + 1)) := by unfold recv; rw [if_neg (by rw [hb]; exact Bool.false_ne_true)]
    rw [if_pos (show bI false = 0 from rfl)]
    obtain ⟨h1, e1, k1, r1⟩ := hM.ss (show 3 < 420 by decide) (s 3 + 1)
    have e1' : sti h 424 3 (s 3 + 1) = some h1 := e1
    have l5 : ldi h1 424 5 = some (s 5) := k1.ls (i := 5) (by decide)
    have u : ∀ i, i ≠ 3 → upd s 3 (s 3 + 1) i = s i := fun i hi => by unfold upd; rw [if_neg hi]
    rw [hb] at tail
    have hX1 : MY (upd s 3 (s 3 + 1)) (sCT S (va_up S.ct 2 (S.ct 2 + 1))) td came posted P := by
      refine hX.keep rfl ?_ (fun i hi => u i (by omega))
      refine ⟨by rw [u _ (by omega)]; exact z0, by rw [u _ (by omega)]; exact zn, by rw [u _ (by omega)]; exact zt, ?_, by rw [u _ (by omega)]; exact z4, by rw [u _ (by omega)]; exact z5, fun v hv => ?_, fun w hw => ?_, z8⟩
      · show upd s 3 (s 3 + 1) 3 = nI (S.ct 2 + 1)
        rw [← nI_1, ← z3]; rfl
      · obtain ⟨q1, q2, q3, q4⟩ := z6 v hv
        exact ⟨by rw [u _ (by omega)]; exact q1, q2, q3, q4.eq (fun i a1 a2 => u i (by omega))⟩
      · obtain ⟨q1, q2, q3⟩ := z7 w hw
        exact ⟨by rw [u _ (by omega)]; exact q1, by rw [u _ (by omega)]; exact q2, q3⟩
    have hl1 := y_let k1 hX1 hq
    have hkv := (hX1.1.2.2.2.2.2.2.1 _ hto).2.2.2
    have hkl := (hX1.2.2.2.2.2.2.2.1 k q hq).2.2.2.2.2
    have hk8 : k < 8 := by omega
    simp only [s120_18, s120_19, s120_20, s120_21, s120_22, s120_23, s120_24, s120_25, s120_28, s120_29, s120_30, s120_31, s120_32, l3, e1', k1.f, l5, oB_some, if_pos (show bI false = 0 from rfl)]
    simp only [s120_39, s120_40, s120_41, s120_42, s120_43, s120_46, s120_49, s120_50, s120_53, k1.f, hl1.1, m_knows, m_knew, Option.toList_some, List.cons_append, List.nil_append]
    refine Call.mono (m_takesIn k1 hkv hkl (by omega) (by omega) (by omega)) ?_
    rintro rv h2 ⟨rfl, ⟨s2, k2, m2, e2⟩, r2⟩
    have hL2 := hX1.1.setK hto m2 e2
    have hs5 : s2 5 = S.ot := by rw [e2 _ (by omega), u _ (by omega)]; exact z5
    obtain ⟨h3, e3, k3, r3⟩ := k2.ss (show 5 < 420 by decide) (s 5 + kCt (S.vk q.2.2.2.1) q.2.2.2.2.2.2)
    have e3' : sti h2 424 5 (s 5 + kCt (S.vk q.2.2.2.1) q.2.2.2.2.2.2) = some h3 := e3
    have e3'' : sti h2 424 5 (s 5 + kCt ((sCT S (va_up S.ct 2 (S.ct 2 + 1))).vk q.2.2.2.1) q.2.2.2.2.2.2) = some h3 := e3
    simp only [Option.toList_some, List.cons_append, List.nil_append, s120_56, s120_57, e3', e3'', oB_some]
    have uu : ∀ i, i ≠ 5 → upd s2 5 (s 5 + kCt (S.vk q.2.2.2.1) q.2.2.2.2.2.2) i = s2 i := fun i hi => by unfold upd; rw [if_neg hi]
    refine tail h3 _ _ k3 (hX1.keep rfl ?_ (fun i hi => ?_)) ((r1.tr r2).tr r3)
    · rw [er]
      obtain ⟨y0, yn, yt, y3, y4, y5, y6, y7, y8⟩ := hL2
      refine ⟨by rw [uu _ (by omega)]; exact y0, by rw [uu _ (by omega)]; exact yn, by rw [uu _ (by omega)]; exact yt, by rw [uu _ (by omega)]; exact y3, by rw [uu _ (by omega)]; exact y4, ?_, fun v hv => ?_, fun w hw => ?_, y8⟩
      · show upd s2 5 (s 5 + kCt (S.vk q.2.2.2.1) q.2.2.2.2.2.2) 5 = S.ot + kCt (S.vk q.2.2.2.1) q.2.2.2.2.2.2
        unfold upd; rw [if_pos rfl, z5]
      · obtain ⟨q1, q2, q3, q4⟩ := y6 v hv
        exact ⟨by rw [uu _ (by omega)]; exact q1, q2, q3, q4.eq (fun i a1 a2 => uu i (by omega))⟩
      · obtain ⟨q1, q2, q3⟩ := y7 w hw
        exact ⟨by rw [uu _ (by omega)]; exact q1, by rw [uu _ (by omega)]; exact q2, q3⟩
    · rw [uu _ (by omega), e2 _ (by omega)]
end MCM
