/-! The model: its letters, in the order of posting, against the state's, in the order of coming; the whole relation. -/
abbrev Pt : Type := Nat × Nat × Lt
def srt (l : List Lt) : List Lt := l.foldl (fun acc x => insR x acc) []
/-- the model's cells hold a state: td and came as in ML, P the letters as they were posted, each with which view it goes to and its posting -/
def MX (s : Nat → Int32) (S : St) (td : Nat → Nat) (came posted : Nat) (P : List Pt) : Prop :=
  ML s S P.length td ∧ s 6 = nI came ∧ s 7 = nI posted ∧ came < 1073741824 ∧ posted < 1073741824 ∧ (∀ v, v < 6 → td v ≤ came) ∧ P.length ≤ 8 ∧
  (∀ (k : Nat) (q : Pt), P[k]? = some q → s (180 + 30 * k) = nI q.2.2.1 ∧ s (181 + 30 * k) = nI q.2.2.2.1 ∧ s (182 + 30 * k) = nI q.1 ∧ s (183 + 30 * k) = nI q.2.2.2.2.1 ∧ s (184 + 30 * k) = nI q.2.1 ∧ MK s (185 + 30 * k) q.2.2.2.2.2.2) ∧
  (∀ q ∈ P, q.2.2.1 < 6 ∧ q.2.2.2.1 < 6 ∧ 1 ≤ q.1 ∧ q.1 ≤ came ∧ q.2.2.2.2.2.1 = decide (¬ td q.2.2.2.1 = q.1) ∧ S.ct 1 < q.2.2.2.2.1 ∧ q.2.2.2.2.1 ≤ S.ct 1 + 99 ∧ q.2.1 < posted) ∧
  P.Pairwise (fun a c => a.2.1 < c.2.1) ∧ S.lt = srt (P.map (fun q => q.2.2))
section ML2
variable {h h' : AHp} {F s : Nat → Int32} {A : Ar} {S : St} {n : Nat} {td : Nat → Nat} {came posted : Nat} {P : List Pt}
theorem m_ofLetter (hM : HM h F s A) {k j : Nat} (hk : 180 + 30 * k + j < 420) {x : Int32} (hx : s (180 + 30 * k + j) = x) : ∀ post, Call 117 [.ref 423, .int (nI k), .int (nI j)] h post = post (some (.int x)) h := by
  refine call_eq ?_
  have l1 := hM.ls hk
  rw [hx] at l1
  simp only [s117_e, s117_0, s117_1, s117_4, s117_7, s117_9, s117_10, s117_11, s117_12, s117_13, s117_14, s117_15, (show (180 : Int32) = nI 180 from rfl), (show (30 : Int32) = nI 30 from rfl), nI_mul, nI_add, hM.f, oB_some, l1]
  first | exact ⟨rfl, trivial⟩ | exact ⟨trivial, trivial⟩
theorem m_let (hM : HM h F s A) (hX : MX s S td came posted P) {k : Nat} {q : Pt} (hq : P[k]? = some q) :
    (∀ post, Call 117 [.ref 423, .int (nI k), .int 0] h post = post (some (.int (nI q.2.2.1))) h) ∧
    (∀ post, Call 117 [.ref 423, .int (nI k), .int 1] h post = post (some (.int (nI q.2.2.2.1))) h) ∧
    (∀ post, Call 117 [.ref 423, .int (nI k), .int 2] h post = post (some (.int (nI q.1))) h) ∧
    (∀ post, Call 117 [.ref 423, .int (nI k), .int 3] h post = post (some (.int (nI q.2.2.2.2.1))) h) ∧
    (∀ post, Call 117 [.ref 423, .int (nI k), .int 4] h post = post (some (.int (nI q.2.1))) h) := by
  obtain ⟨x1, x2, x3, x4, x5, x6, x7, x8, -⟩ := hX
  obtain ⟨y0, y1, y2, y3, y4, -⟩ := x8 k q hq
  have hk : k < 8 := Nat.lt_of_lt_of_le (List.getElem?_eq_some_iff.mp hq).1 x7
  refine ⟨m_ofLetter hM (j := 0) (by omega) y0, m_ofLetter hM (j := 1) (by omega) ?_, m_ofLetter hM (j := 2) (by omega) ?_, m_ofLetter hM (j := 3) (by omega) ?_, m_ofLetter hM (j := 4) (by omega) ?_⟩
  · rw [show 180 + 30 * k + 1 = 181 + 30 * k by omega]; exact y1
  · rw [show 180 + 30 * k + 2 = 182 + 30 * k by omega]; exact y2
  · rw [show 180 + 30 * k + 3 = 183 + 30 * k by omega]; exact y3
  · rw [show 180 + 30 * k + 4 = 184 + 30 * k by omega]; exact y4
theorem m_isLost (hM : HM h F s A) (hX : MX s S td came posted P) {k : Nat} {q : Pt} (hq : P[k]? = some q) : ∀ post, Call 119 [.ref 423, .int (nI k)] h post = post (some (.int (bI q.2.2.2.2.2.1))) h := by
  refine call_eq ?_
  have hl := m_let hM hX hq
  obtain ⟨x1, x2, x3, x4, x5, x6, x7, x8, x9, -⟩ := hX
  obtain ⟨z1, z2, z3, z4, z5, -⟩ := x9 q (List.mem_of_getElem? hq)
  have hv := (x1.2.2.2.2.2.2.1 _ z2).1
  have ht := x6 _ z2
  have l1 := hM.ls (show 8 + 26 * q.2.2.2.1 < 420 by omega)
  rw [hv] at l1
  simp only [s119_0, s119_1, s119_4, s119_6, s119_8, s119_9, s119_10, s119_11, s119_14, s119_15, s119_16, s119_17, s119_18, s119_19, s119_20, s119_21, s119_22, s119_25, s119_e, hM.f, hl.2.1, hl.2.2.1, Option.toList_some, List.cons_append, List.nil_append, (show (8 : Int32) = nI 8 from rfl), (show (26 : Int32) = nI 26 from rfl), nI_mul, nI_add, Int32.add_zero, oB_some, l1, nI_eq (show td q.2.2.2.1 < 2147483648 by omega) (show q.1 < 2147483648 by omega), z5]
  by_cases c : td q.2.2.2.1 = q.1
  · rw [if_pos c]
    simp only [s119_32, s119_33]
    simp [bI, c]
  · rw [if_neg c]
    simp only [s119_28, s119_29, s119_32, s119_33]
    simp [bI, c]
end ML2
