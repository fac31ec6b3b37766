/-! The law's letters: dropping one, which comes next. -/
/-- the letters' rows hold P -/
def LtP (A : WA) (P : List Pt) : Prop := P.length ≤ 8 ∧ A 0 1 = nI P.length ∧ ∀ (k : Nat) (q : Pt), P[k]? = some q →
  A 8 (6 * k) = nI q.2.2.1 ∧ A 8 (6 * k + 1) = nI q.2.2.2.1 ∧ A 8 (6 * k + 2) = nI q.1 ∧ A 8 (6 * k + 3) = nI q.2.2.2.2.1 ∧ A 8 (6 * k + 4) = nI q.2.1 ∧ A 8 (6 * k + 5) = q.2.2.2.2.2.2.2.2.2 ∧
  ∀ w, w < 8 → A 9 (8 * k + w) = q.2.2.2.2.2.2.1 w ∧ A 10 (8 * k + w) = q.2.2.2.2.2.2.2.1 w ∧ A 11 (8 * k + w) = q.2.2.2.2.2.2.2.2.1 w
/-- the first that comes is taken out -/
theorem srt_pick (l1 l2 : List Lt) (x : Lt) (h1 : ∀ y ∈ l1, x.2.2.1 < y.2.2.1) (h2 : ∀ y ∈ l2, x.2.2.1 ≤ y.2.2.1) : srt (l1 ++ x :: l2) = x :: srt (l1 ++ l2) := by
  have f1 : l1.filter (fun y => decide (y.2.2.1 = x.2.2.1)) = [] := by
    rw [List.filter_eq_nil_iff]
    intro y hy
    have := h1 y hy
    simp
    omega
  have a1 := srt_split (a := x.2.2.1) (l := l1 ++ x :: l2) (fun y hy => by
    rcases List.mem_append.mp hy with q | q
    · have := h1 y q; omega
    · rcases List.mem_cons.mp q with q | q
      · rw [q]; exact Nat.le_refl _
      · exact h2 y q)
  have a2 := srt_split (a := x.2.2.1) (l := l1 ++ l2) (fun y hy => by
    rcases List.mem_append.mp hy with q | q
    · have := h1 y q; omega
    · exact h2 y q)
  rw [a1, a2]
  simp only [List.filter_append, f1, List.nil_append]
  rw [List.filter_cons_of_pos (by simp), List.filter_cons_of_neg (by simp), List.cons_append]
def sh1 (A : WA) (a m : Nat) : WA := fun k j => if k = 8 ∧ a ≤ j ∧ j < m then A 8 (j + 6) else A k j
def sh2 (A : WA) (a m : Nat) : WA := fun k j => if (k = 9 ∨ k = 10 ∨ k = 11) ∧ a ≤ j ∧ j < m then A k (j + 8) else A k j
theorem sh1_s (A : WA) {a m : Nat} (ha : a ≤ m) (k j : Nat) : ua (sh1 A a m) 8 m (A 8 (m + 6)) k j = sh1 A a (m + 1) k j := by
  rw [ua_i]
  unfold sh1
  by_cases c : k = 8 ∧ j = m
  · obtain ⟨rfl, rfl⟩ := c
    rw [if_pos ⟨rfl, rfl⟩, if_pos ⟨rfl, ha, Nat.lt_succ_self _⟩]
  · rw [if_neg c]
    by_cases d : k = 8 ∧ a ≤ j ∧ j < m
    · rw [if_pos d, if_pos ⟨d.1, d.2.1, by omega⟩]
    · rw [if_neg d, if_neg (by omega)]
theorem sh2_s (A : WA) {a m : Nat} (ha : a ≤ m) (k j : Nat) : ua (ua (ua (sh2 A a m) 9 m (A 9 (m + 8))) 10 m (A 10 (m + 8))) 11 m (A 11 (m + 8)) k j = sh2 A a (m + 1) k j := by
  rw [ua_i, ua_i, ua_i]
  unfold sh2
  by_cases e : j = m
  · subst e
    by_cases c11 : k = 11
    · subst c11; rw [if_pos ⟨rfl, rfl⟩, if_pos ⟨by decide, ha, Nat.lt_succ_self _⟩]
    by_cases c10 : k = 10
    · subst c10; rw [if_neg (fun q => absurd q.1 (by decide)), if_pos ⟨rfl, rfl⟩, if_pos ⟨by decide, ha, Nat.lt_succ_self _⟩]
    by_cases c9 : k = 9
    · subst c9; rw [if_neg (fun q => absurd q.1 (by decide)), if_neg (fun q => absurd q.1 (by decide)), if_pos ⟨rfl, rfl⟩, if_pos ⟨by decide, ha, Nat.lt_succ_self _⟩]
    rw [if_neg (fun q => c11 q.1), if_neg (fun q => c10 q.1), if_neg (fun q => c9 q.1), if_neg (by omega), if_neg (by omega)]
  · rw [if_neg (fun q => e q.2), if_neg (fun q => e q.2), if_neg (fun q => e q.2)]
    by_cases d : (k = 9 ∨ k = 10 ∨ k = 11) ∧ a ≤ j ∧ j < m
    · rw [if_pos d, if_pos ⟨d.1, d.2.1, by omega⟩]
    · rw [if_neg d, if_neg (by omega)]
section LT
variable {h h' : AHp} {A : WA} {P : List Pt}
theorem c_dropT (hW : HW h A) (hL : LtP A P) {k : Nat} (hk : k < P.length) : Call 71 [.ref 423, .ref 431, .ref 432, .ref 433, .ref 434, .int (nI k)] h (fun rv h' => rv = none ∧ (∃ A', HW h' A' ∧ LtP A' (P.eraseIdx k) ∧ ∀ k' i, k' < 8 → (k' ≠ 0 ∨ i ≠ 1) → A' k' i = A k' i) ∧ Fr 423 435 h h') := by
  obtain ⟨l8, l1, lr⟩ := hL
  obtain ⟨n, hn⟩ : ∃ n, P.length = n + 1 := ⟨P.length - 1, by omega⟩
  obtain ⟨h1, e1, W1, r1⟩ := hW.s0 (j := 1) (by decide) (nI n)
  have e1' : sti h 423 1 (nI n) = some h1 := e1
  have g1 : ua A 0 1 (nI n) 0 1 = nI n := ua_s _ _ _ _
  have p1 : nI (n + 1) - 1 = nI n := nI_pred n
  simp only [s71_0, s71_1, s71_2, s71_3, s71_4, s71_5, s71_6, s71_7, s71_9, s71_11, s71_12, s71_e, hW.g, oB_some, l1, hn, p1, e1', i6]
  obtain ⟨A1, hA1⟩ : ∃ A1, A1 = ua A 0 1 (nI n) := ⟨_, rfl⟩
  rw [← hA1] at W1 g1
  have done : ∀ (hh : AHp) (v6 : Value), HW hh (sh2 (sh1 A1 (6 * k) (6 * n)) (8 * k) (8 * n)) → Fr 423 435 h hh → Ev none 71 101 [.ref 423, .ref 431, .ref 432, .ref 433, .ref 434, .int (nI k), v6] [] hh (fun rv h' => rv = none ∧ (∃ A', HW h' A' ∧ LtP A' (P.eraseIdx k) ∧ ∀ k' i, k' < 8 → (k' ≠ 0 ∨ i ≠ 1) → A' k' i = A k' i) ∧ Fr 423 435 h h') := by
    intro hh v6 hw r
    simp only [s71_101]
    have el : (P.eraseIdx k).length = n := by rw [List.length_eraseIdx_of_lt hk, hn]; rfl
    have low : ∀ k' i, k' < 8 → sh2 (sh1 A1 (6 * k) (6 * n)) (8 * k) (8 * n) k' i = A1 k' i := by
      intro k' i hk'
      unfold sh2 sh1
      rw [if_neg (by omega), if_neg (by omega)]
    refine ⟨trivial, ⟨_, hw, ⟨by omega, ?_, fun j q hj => ?_⟩, fun k' i hk' hc => ?_⟩, r⟩
    · rw [low 0 1 (by decide), el]; exact g1
    · have hjn : j < n := by rw [← el]; exact (List.getElem?_eq_some_iff.mp hj).1
      rw [List.getElem?_eraseIdx] at hj
      have f8 : ∀ c, c < 6 → sh2 (sh1 A1 (6 * k) (6 * n)) (8 * k) (8 * n) 8 (6 * j + c) = if j < k then A 8 (6 * j + c) else A 8 (6 * (j + 1) + c) := by
        intro c hc
        unfold sh2 sh1
        rw [if_neg (by omega)]
        have e8 : ∀ i, A1 8 i = A 8 i := fun i => by rw [hA1, ua_k (by decide)]
        rw [e8, e8]
        by_cases q : j < k
        · rw [if_neg (by omega), if_pos q]
        · rw [if_pos ⟨rfl, by omega, by omega⟩, if_neg q]
          congr 1; omega
      have f9 : ∀ a, (a = 9 ∨ a = 10 ∨ a = 11) → ∀ w, w < 8 → sh2 (sh1 A1 (6 * k) (6 * n)) (8 * k) (8 * n) a (8 * j + w) = if j < k then A a (8 * j + w) else A a (8 * (j + 1) + w) := by
        intro a ha w hw8
        unfold sh2 sh1
        have e8 : ∀ i, A1 a i = A a i := fun i => by rw [hA1, ua_k (by omega)]
        rw [e8, e8]
        by_cases q : j < k
        · rw [if_neg (by omega), if_neg (by omega), if_pos q]
        · rw [if_pos ⟨ha, by omega, by omega⟩, if_neg (by omega), if_neg q]
          congr 1; omega
      by_cases c : j < k
      · rw [if_pos c] at hj
        obtain ⟨y0, y1, y2, y3, y4, y5, y6⟩ := lr j q hj
        have f0 := f8 0 (by decide)
        have f1 := f8 1 (by decide)
        have f2 := f8 2 (by decide)
        have f3 := f8 3 (by decide)
        have f4 := f8 4 (by decide)
        have f5 := f8 5 (by decide)
        rw [if_pos c] at f0 f1 f2 f3 f4 f5
        refine ⟨f0.trans y0, f1.trans y1, f2.trans y2, f3.trans y3, f4.trans y4, f5.trans y5, fun w hw8 => ?_⟩
        have a9 := f9 9 (by decide) w hw8
        have a10 := f9 10 (by decide) w hw8
        have a11 := f9 11 (by decide) w hw8
        rw [if_pos c] at a9 a10 a11
        obtain ⟨z1, z2, z3⟩ := y6 w hw8
        exact ⟨a9.trans z1, a10.trans z2, a11.trans z3⟩
      · rw [if_neg c] at hj
        obtain ⟨y0, y1, y2, y3, y4, y5, y6⟩ := lr (j + 1) q hj
        have f0 := f8 0 (by decide)
        have f1 := f8 1 (by decide)
        have f2 := f8 2 (by decide)
        have f3 := f8 3 (by decide)
        have f4 := f8 4 (by decide)
        have f5 := f8 5 (by decide)
        rw [if_neg c] at f0 f1 f2 f3 f4 f5
        refine ⟨f0.trans y0, f1.trans y1, f2.trans y2, f3.trans y3, f4.trans y4, f5.trans y5, fun w hw8 => ?_⟩
        have a9 := f9 9 (by decide) w hw8
        have a10 := f9 10 (by decide) w hw8
        have a11 := f9 11 (by decide) w hw8
        rw [if_neg c] at a9 a10 a11
        obtain ⟨z1, z2, z3⟩ := y6 w hw8
        exact ⟨a9.trans z1, a10.trans z2, a11.trans z3⟩
    · rw [low k' i hk', hA1, ua_i, if_neg (by omega)]
  have loop2 : ∀ d m (hh : AHp), 8 * k ≤ m → m + d = 8 * n → HW hh (sh2 (sh1 A1 (6 * k) (6 * n)) (8 * k) m) → Fr 423 435 h hh → Ev none 71 49 [.ref 423, .ref 431, .ref 432, .ref 433, .ref 434, .int (nI k), .int (nI m)] [] hh (fun rv h' => rv = none ∧ (∃ A', HW h' A' ∧ LtP A' (P.eraseIdx k) ∧ ∀ k' i, k' < 8 → (k' ≠ 0 ∨ i ≠ 1) → A' k' i = A k' i) ∧ Fr 423 435 h h') := by
    intro d
    induction d with
    | zero =>
      intro m hh hm1 hm hw r
      obtain rfl : m = 8 * n := by omega
      have g2 : sh2 (sh1 A1 (6 * k) (6 * n)) (8 * k) (8 * n) 0 1 = nI n := by
        unfold sh2 sh1
        rw [if_neg (by omega), if_neg (by omega)]; exact g1
      simp only [s71_49, s71_51, s71_53, s71_54, s71_55, s71_56, s71_57, hw.g, oB_some, g2, i8, if_pos (Int32.le_refl _)]
      exact done hh _ hw r
    | succ d ih =>
      intro m hh hm1 hm hw r
      obtain ⟨A2, hA2⟩ : ∃ A2, A2 = sh1 A1 (6 * k) (6 * n) := ⟨_, rfl⟩
      rw [← hA2] at hw ih
      have g2 : sh2 A2 (8 * k) m 0 1 = nI n := by
        rw [hA2]
        unfold sh2 sh1
        rw [if_neg (by omega), if_neg (by omega)]; exact g1
      have rd : ∀ a, (a = 9 ∨ a = 10 ∨ a = 11) → sh2 A2 (8 * k) m a (m + 8) = A2 a (m + 8) := by
        intro a ha
        unfold sh2
        rw [if_neg (by omega)]
      have m9 := hw.l9 (show m + 8 < 64 by omega)
      rw [rd 9 (by decide)] at m9
      obtain ⟨x1, u1, X1, q1⟩ := hw.s9 (show m < 64 by omega) (A2 9 (m + 8))
      have m10 := X1.l10 (show m + 8 < 64 by omega)
      rw [ua_k (by decide), rd 10 (by decide)] at m10
      obtain ⟨x2, u2, X2, q2⟩ := X1.s10 (show m < 64 by omega) (A2 10 (m + 8))
      have m11 := X2.l11 (show m + 8 < 64 by omega)
      rw [ua_k (by decide), ua_k (by decide), rd 11 (by decide)] at m11
      obtain ⟨x3, u3, X3, q3⟩ := X2.s11 (show m < 64 by omega) (A2 11 (m + 8))
      have X4 : HW x3 (sh2 A2 (8 * k) (m + 1)) := X3.to (fun a _ i _ => sh2_s A2 hm1 a i)
      have e8 : nI m + 8 = nI (m + 8) := nI_add m 8
      simp only [s71_49, s71_51, s71_53, s71_54, s71_55, s71_56, s71_57, hw.g, oB_some, g2, i8, if_neg (nI_ge (show m < 8 * n by omega) (by omega))]
      simp only [s71_60, s71_61, s71_63, s71_64, s71_66, s71_68, s71_69, s71_70, s71_71, s71_72, s71_74, s71_75, s71_77, s71_79, s71_80, s71_81, s71_82, s71_84, s71_86, s71_88, s71_90, s71_92, s71_93, s71_94, s71_95, s71_98, e8, m9, u1, m10, u2, m11, u3, oB_some, i1]
      exact ih (m + 1) x3 (by omega) (by omega) X4 (((r.tr q1).tr q2).tr q3)
  have loop1 : ∀ d m (hh : AHp), 6 * k ≤ m → m + d = 6 * n → HW hh (sh1 A1 (6 * k) m) → Fr 423 435 h hh → Ev none 71 14 [.ref 423, .ref 431, .ref 432, .ref 433, .ref 434, .int (nI k), .int (nI m)] [] hh (fun rv h' => rv = none ∧ (∃ A', HW h' A' ∧ LtP A' (P.eraseIdx k) ∧ ∀ k' i, k' < 8 → (k' ≠ 0 ∨ i ≠ 1) → A' k' i = A k' i) ∧ Fr 423 435 h h') := by
    intro d
    induction d with
    | zero =>
      intro m hh hm1 hm hw r
      obtain rfl : m = 6 * n := by omega
      have g2 : sh1 A1 (6 * k) (6 * n) 0 1 = nI n := by
        unfold sh1
        rw [if_neg (by omega)]; exact g1
      simp only [s71_14, s71_16, s71_18, s71_19, s71_20, s71_21, s71_22, hw.g, oB_some, g2, i6, if_pos (Int32.le_refl _)]
      simp only [s71_42, s71_44, s71_46, s71_47, i8]
      refine loop2 (8 * n - 8 * k) (8 * k) hh (Nat.le_refl _) (by omega) (hw.to (fun a _ i _ => ?_)) r
      unfold sh2
      rw [if_neg (by omega)]
    | succ d ih =>
      intro m hh hm1 hm hw r
      have g2 : sh1 A1 (6 * k) m 0 1 = nI n := by
        unfold sh1
        rw [if_neg (by omega)]; exact g1
      have m8 := hw.l8 (show m + 6 < 48 by omega)
      have rd : sh1 A1 (6 * k) m 8 (m + 6) = A1 8 (m + 6) := by
        unfold sh1
        rw [if_neg (by omega)]
      rw [rd] at m8
      obtain ⟨x1, u1, X1, q1⟩ := hw.s8 (show m < 48 by omega) (A1 8 (m + 6))
      have X4 : HW x1 (sh1 A1 (6 * k) (m + 1)) := X1.to (fun a _ i _ => sh1_s A1 hm1 a i)
      have e6 : nI m + 6 = nI (m + 6) := nI_add m 6
      simp only [s71_14, s71_16, s71_18, s71_19, s71_20, s71_21, s71_22, hw.g, oB_some, g2, i6, if_neg (nI_ge (show m < 6 * n by omega) (by omega))]
      simp only [s71_25, s71_26, s71_28, s71_29, s71_31, s71_33, s71_34, s71_35, s71_36, s71_39, e6, m8, u1, oB_some, i1]
      exact ih (m + 1) x1 (by omega) (by omega) X4 (r.tr q1)
  refine loop1 (6 * n - 6 * k) (6 * k) h1 (Nat.le_refl _) (by omega) (W1.to (fun a _ i _ => ?_)) r1
  unfold sh1
  rw [if_neg (by omega)]
/-- where the letter that comes next lies -/
def nxAt (P : List Pt) (n m : Nat) : Prop := m < n ∧ ∃ q, P[m]? = some q ∧ (∀ i x, i < m → P[i]? = some x → q.2.2.2.2.1 < x.2.2.2.2.1) ∧ ∀ i x, m < i → i < n → P[i]? = some x → q.2.2.2.2.1 ≤ x.2.2.2.2.1
theorem c_nextT (hW : HW h A) (hL : LtP A P) (hb : ∀ q ∈ P, q.2.2.2.2.1 < 100000 ∧ q.2.1 < 100000) (hp : P.Pairwise (fun a c => a.2.1 < c.2.1)) : Call 72 [.ref 423, .ref 431] h (fun rv h' => h' = h ∧ ((P = [] ∧ rv = some (.int (-1))) ∨ ∃ m, rv = some (.int (nI m)) ∧ nxAt P P.length m)) := by
  obtain ⟨l8, l1, lr⟩ := hL
  have loop : ∀ d k (best : Int32) (v4 : Value), k + d = P.length → ((k = 0 ∧ best = -1) ∨ ∃ m, best = nI m ∧ nxAt P k m) → Ev none 72 4 [.ref 423, .ref 431, .int best, .int (nI k), v4] [] h (fun rv h' => h' = h ∧ ((P = [] ∧ rv = some (.int (-1))) ∨ ∃ m, rv = some (.int (nI m)) ∧ nxAt P P.length m)) := by
    intro d
    induction d with
    | zero =>
      intro k best v4 hk hx
      obtain rfl : k = P.length := by omega
      simp only [s72_4, s72_5, s72_6, s72_7, s72_8, hW.g, oB_some, l1, if_pos (Int32.le_refl _), s72_96, s72_97]
      refine ⟨trivial, ?_⟩
      rcases hx with ⟨h0, rfl⟩ | ⟨m, rfl, hm⟩
      · exact Or.inl ⟨List.length_eq_zero_iff.mp h0, rfl⟩
      · exact Or.inr ⟨m, rfl, hm⟩
    | succ d ih =>
      intro k best v4 hk hx
      have hkl : k < P.length := by omega
      have hkq : P[k]? = some P[k] := List.getElem?_eq_getElem hkl
      obtain ⟨q, hq⟩ : ∃ q, P[k] = q := ⟨_, rfl⟩
      rw [hq] at hkq
      obtain ⟨b1, b2⟩ := hb q (List.mem_of_getElem? hkq)
      obtain ⟨y0, y1, y2, y3, y4, -⟩ := lr k q hkq
      have L3 := hW.l8 (show 6 * k + 3 < 48 by omega)
      have L4 := hW.l8 (show 6 * k + 4 < 48 by omega)
      rw [y3] at L3
      rw [y4] at L4
      simp only [s72_4, s72_5, s72_6, s72_7, s72_8, hW.g, oB_some, l1, if_neg (nI_ge hkl (by omega))]
      simp only [s72_11, s72_12]
      have fin1 : nxAt P (k + 1) k → Ev none 72 72 [.ref 423, .ref 431, .int best, .int (nI k), v4] [] h (fun rv h' => h' = h ∧ ((P = [] ∧ rv = some (.int (-1))) ∨ ∃ m, rv = some (.int (nI m)) ∧ nxAt P P.length m)) := by
        intro hn
        simp only [s72_72, s72_73, s72_76, s72_77, s72_79, s72_81, if_neg n10']
        simp only [s72_84, s72_85, s72_88, s72_89, s72_90, s72_93, i1]
        exact ih (k + 1) _ _ (by omega) (Or.inr ⟨k, rfl, hn⟩)
      rcases hx with ⟨rfl, rfl⟩ | ⟨m, rfl, hm1, r, hr, hm2, hm3⟩
      · rw [if_pos (by decide)]
        exact fin1 ⟨Nat.lt_succ_self _, q, hkq, fun i x hi => absurd hi (Nat.not_lt_zero i), fun i x h1 h2 => by omega⟩
      · obtain ⟨c1, c2⟩ := hb r (List.mem_of_getElem? hr)
        obtain ⟨z0, z1, z2, z3, z4, -⟩ := lr m r hr
        have M3 := hW.l8 (show 6 * m + 3 < 48 by omega)
        have M4 := hW.l8 (show 6 * m + 4 < 48 by omega)
        rw [z3] at M3
        rw [z4] at M4
        have fin0 : r.2.2.2.2.1 ≤ q.2.2.2.2.1 → Ev none 72 76 [.ref 423, .ref 431, .int (nI m), .int (nI k), v4] [] h (fun rv h' => h' = h ∧ ((P = [] ∧ rv = some (.int (-1))) ∨ ∃ m, rv = some (.int (nI m)) ∧ nxAt P P.length m)) := by
          intro hn
          simp only [s72_76, s72_77, s72_79, s72_81, if_true]
          simp only [s72_88, s72_89, s72_90, s72_93, i1]
          refine ih (k + 1) _ _ (by omega) (Or.inr ⟨m, rfl, by omega, r, hr, hm2, fun i x h1 h2 hi => ?_⟩)
          by_cases e : i = k
          · subst e; rw [hkq] at hi; cases hi; exact hn
          · exact hm3 i x h1 (by omega) hi
        rw [if_neg (nI_pos (by omega))]
        simp only [s72_15, s72_16, s72_18, s72_19, s72_20, s72_21, s72_22, s72_23, s72_24, s72_26, s72_27, s72_28, s72_29, s72_30, s72_31, i6, i3, L3, M3, oB_some]
        by_cases ca : q.2.2.2.2.1 < r.2.2.2.2.1
        · rw [if_pos (nI_lt ca (by omega))]
          refine fin1 ⟨Nat.lt_succ_self _, q, hkq, fun i x hi hx => ?_, fun i x h1 h2 => by omega⟩
          by_cases e : i = m
          · subst e; rw [hr] at hx; cases hx; exact ca
          · by_cases e2 : i < m
            · have := hm2 i x e2 hx; omega
            · have := hm3 i x (by omega) hi hx; omega
        · rw [if_neg (nI_nlt (by omega) (by omega))]
          simp only [s72_34, s72_35, s72_37, s72_38, s72_39, s72_40, s72_41, s72_42, s72_43, s72_45, s72_46, s72_47, s72_48, s72_49, s72_50, i6, i3, L3, M3, oB_some]
          by_cases cb : q.2.2.2.2.1 = r.2.2.2.2.1
          · rw [if_neg (fun z => z (by rw [cb]))]
            simp only [s72_53, s72_54, s72_56, s72_57, s72_58, s72_59, s72_60, s72_61, s72_62, s72_64, s72_65, s72_66, s72_67, s72_68, s72_69, i6, i4, L4, M4, oB_some]
            have hsq : r.2.1 < q.2.1 := by
              have hml : m < P.length := by omega
              have := List.pairwise_iff_getElem.mp hp m k hml hkl hm1
              have hrm : P[m] = r := (List.getElem?_eq_some_iff.mp hr).2
              rw [hrm, hq] at this
              exact this
            rw [if_pos (nI_le (by omega) (by omega))]
            exact fin0 (by omega)
          · rw [if_pos (fun z => cb ((nI_eq (by omega) (by omega)).mp z))]
            exact fin0 (by omega)
  simp only [s72_0, s72_1, s72_2, s72_3, s72_e]
  exact loop P.length 0 _ _ (Nat.zero_add _) (Or.inl ⟨rfl, rfl⟩)
end LT
