/-! The model's object: arrays, single cells, blocks of parts. -/
theorem nI_mul (a b : Nat) : nI a * nI b = nI (a * b) := by
  apply Int32.toBitVec_inj.mp
  rw [Int32.toBitVec_mul]
  show BitVec.ofNat 32 a * BitVec.ofNat 32 b = BitVec.ofNat 32 (a * b)
  exact (BitVec.ofNat_mul ..).symm
/-- the arrays but s: the history, held, tried, the text, the numbers -/
abbrev Ar : Type := (Nat → Int32) × (Nat → Int32) × (Nat → Int32) × (Nat → Int32) × (Nat → Int32)
def HM (h : AHp) (F s : Nat → Int32) (A : Ar) : Prop :=
  HO h 423 5 [.ref 424, .ref 425, .ref 426, .ref 427, .int (F 4), .int (F 5), .ref 428, .int (F 7), .int (F 8), .int (F 9), .int (F 10), .int (F 11), .int (F 12), .int (F 13), .ref 429] ∧
  HA h 424 420 s ∧ HA h 425 1680 A.1 ∧ HA h 426 420 A.2.1 ∧ HA h 427 420 A.2.2.1 ∧ HA h 428 60 A.2.2.2.1 ∧ HA h 429 3 A.2.2.2.2
section MO
variable {h h' : AHp} {F s : Nat → Int32} {A : Ar}
theorem HM.f (hM : HM h F s A) : fldv h 423 5 0 = some (.ref 424) ∧ fldv h 423 5 1 = some (.ref 425) ∧ fldv h 423 5 2 = some (.ref 426) ∧ fldv h 423 5 3 = some (.ref 427) ∧ fldv h 423 5 4 = some (.int (F 4)) ∧ fldv h 423 5 5 = some (.int (F 5)) ∧ fldv h 423 5 6 = some (.ref 428) ∧ fldv h 423 5 7 = some (.int (F 7)) ∧ fldv h 423 5 8 = some (.int (F 8)) ∧ fldv h 423 5 9 = some (.int (F 9)) ∧ fldv h 423 5 10 = some (.int (F 10)) ∧ fldv h 423 5 11 = some (.int (F 11)) ∧ fldv h 423 5 12 = some (.int (F 12)) ∧ fldv h 423 5 13 = some (.int (F 13)) ∧ fldv h 423 5 14 = some (.ref 429) ∧ isO h 423 5 :=
  ⟨hM.1.ld rfl, hM.1.ld rfl, hM.1.ld rfl, hM.1.ld rfl, hM.1.ld rfl, hM.1.ld rfl, hM.1.ld rfl, hM.1.ld rfl, hM.1.ld rfl, hM.1.ld rfl, hM.1.ld rfl, hM.1.ld rfl, hM.1.ld rfl, hM.1.ld rfl, hM.1.ld rfl, hM.1.is⟩
theorem HM.fr {lo hi : Nat} (hM : HM h F s A) (r : Fr lo hi h h') (hd : 430 ≤ lo ∨ hi ≤ 423) : HM h' F s A := by
  obtain ⟨a1, a2, a3, a4, a5, a6, a7⟩ := hM
  exact ⟨a1.fr r (by omega), a2.fr r (by omega), a3.fr r (by omega), a4.fr r (by omega), a5.fr r (by omega), a6.fr r (by omega), a7.fr r (by omega)⟩
theorem HM.ls (hM : HM h F s A) {i : Nat} (hi : i < 420) : ldi h 424 (nI i) = some (s i) := hM.2.1.ld hi (by decide)
theorem HM.ss (hM : HM h F s A) {i : Nat} (hi : i < 420) (x : Int32) : ∃ h', sti h 424 (nI i) x = some h' ∧ HM h' F (upd s i x) A ∧ Fr 423 430 h h' := by
  obtain ⟨a1, a2, a3, a4, a5, a6, a7⟩ := hM
  obtain ⟨h', e, b, r⟩ := a2.st (x := x) hi (by decide)
  exact ⟨h', e, ⟨a1.fr r (by omega), b, a3.fr r (by omega), a4.fr r (by omega), a5.fr r (by omega), a6.fr r (by omega), a7.fr r (by omega)⟩, r.up (by omega) (by omega)⟩
theorem HM.sF (hM : HM h F s A) {k : Nat} (hk : k = 4 ∨ k = 7 ∨ k = 8 ∨ k = 9 ∨ k = 10 ∨ k = 11 ∨ k = 12 ∨ k = 13) (x : Int32) : ∃ h', stf h 423 5 k (.int x) = some h' ∧ HM h' (upd F k x) s A ∧ Fr 423 430 h h' := by
  obtain ⟨a1, a2, a3, a4, a5, a6, a7⟩ := hM
  obtain ⟨h1, e, b, r⟩ := a1.st (k := k) (v := .int x) (by show k < 15; omega) (by rcases hk with rfl | rfl | rfl | rfl | rfl | rfl | rfl | rfl <;> rfl)
  refine ⟨h1, e, ⟨?_, a2.fr r (by omega), a3.fr r (by omega), a4.fr r (by omega), a5.fr r (by omega), a6.fr r (by omega), a7.fr r (by omega)⟩, r.up (by omega) (by omega)⟩
  rcases hk with rfl | rfl | rfl | rfl | rfl | rfl | rfl | rfl <;> exact b
theorem HM.sB (hM : HM h F s A) (x : Int32) (hx : x = 0 ∨ x = 1) : ∃ h', stf h 423 5 5 (.int x) = some h' ∧ HM h' (upd F 5 x) s A ∧ Fr 423 430 h h' := by
  obtain ⟨a1, a2, a3, a4, a5, a6, a7⟩ := hM
  obtain ⟨h1, e, b, r⟩ := a1.st (k := 5) (v := .int x) (by show 5 < 15; decide) (by rcases hx with rfl | rfl <;> rfl)
  exact ⟨h1, e, ⟨b, a2.fr r (by omega), a3.fr r (by omega), a4.fr r (by omega), a5.fr r (by omega), a6.fr r (by omega), a7.fr r (by omega)⟩, r.up (by omega) (by omega)⟩
/-- graves and parts from a place on -/
def MK (s : Nat → Int32) (b : Nat) (K : Kn) : Prop := s b = K.2.2.2 ∧ ∀ w, w < 8 → s (b + 1 + 3 * w) = K.1 w ∧ s (b + 1 + 3 * w + 1) = K.2.1 w ∧ s (b + 1 + 3 * w + 2) = K.2.2.1 w
def KZ (K : Kn) : Prop := ∀ w, w < 8 → K.1 w = 0 → K.2.1 w = 0 ∧ K.2.2.1 w = 0
theorem m_in (x a c : Int32) (h : AHp) : ∀ post, Call 88 [.int x, .int a, .int c] h post = post (some (.int (if a ≤ x ∧ x ≤ c then 1 else 0))) h := by
  refine call_eq ?_
  simp only [s88_e, s88_0, s88_1, s88_2, s88_5, s88_6, s88_7, s88_10, s88_11, s88_14, s88_15]
  by_cases h1 : x < a
  · rw [if_pos h1, if_neg (fun q => Int32.not_lt.mpr q.1 h1)]
    simp
  · rw [if_neg h1]
    by_cases h2 : c < x
    · rw [if_pos h2, if_neg (fun q => Int32.not_lt.mpr q.2 h2)]
      simp
    · rw [if_neg h2, if_pos ⟨Int32.not_lt.mp h1, Int32.not_lt.mp h2⟩]
      simp
theorem m_knows (v : Nat) (h : AHp) : ∀ post, Call 91 [.int (nI v)] h post = post (some (.int (nI (9 + 26 * v)))) h := by
  refine call_eq ?_
  simp only [s91_e, s91_0, s91_2, s91_4, s91_5, s91_6, s91_7, s91_8, s91_9, (show (8 : Int32) = nI 8 from rfl), (show (26 : Int32) = nI 26 from rfl), (show (1 : Int32) = nI 1 from rfl), nI_mul, nI_add]
  rw [show 8 + 26 * v + 1 = 9 + 26 * v by omega]
  first | exact ⟨rfl, trivial⟩ | exact ⟨trivial, trivial⟩
theorem m_knew (v : Nat) (h : AHp) : ∀ post, Call 92 [.int (nI v)] h post = post (some (.int (nI (185 + 30 * v)))) h := by
  refine call_eq ?_
  simp only [s92_e, s92_0, s92_3, s92_5, s92_6, s92_7, s92_8, s92_9, s92_10, (show (180 : Int32) = nI 180 from rfl), (show (30 : Int32) = nI 30 from rfl), (show (5 : Int32) = nI 5 from rfl), nI_mul, nI_add]
  rw [show 180 + 30 * v + 5 = 185 + 30 * v by omega]
  first | exact ⟨rfl, trivial⟩ | exact ⟨trivial, trivial⟩
theorem m_part (b w : Nat) (h : AHp) : ∀ post, Call 93 [.int (nI b), .int (nI w)] h post = post (some (.int (nI (b + 1 + 3 * w)))) h := by
  refine call_eq ?_
  simp only [s93_e, s93_0, s93_1, s93_2, s93_3, s93_4, s93_5, s93_6, s93_7, (show (3 : Int32) = nI 3 from rfl), (show (1 : Int32) = nI 1 from rfl), nI_mul, nI_add]
  first | exact ⟨rfl, trivial⟩ | exact ⟨trivial, trivial⟩
theorem m_forgets (hM : HM h F s A) {i : Nat} (hi : i + 2 < 420) : Call 103 [.ref 423, .int (nI i)] h (fun rv h' => rv = none ∧ HM h' F (upd (upd (upd s i 0) (i + 1) 0) (i + 2) 0) A ∧ Fr 423 430 h h') := by
  obtain ⟨h1, e1, k1, r1⟩ := hM.ss (show i < 420 by omega) 0
  obtain ⟨h2, e2, k2, r2⟩ := k1.ss (show i + 1 < 420 by omega) 0
  obtain ⟨h3, e3, k3, r3⟩ := k2.ss (show i + 2 < 420 by omega) 0
  simp only [s103_e, s103_0, s103_1, s103_4, s103_5, s103_6, s103_7, s103_8, s103_11, s103_12, s103_13, s103_14, s103_15, s103_16, s103_17, s103_20, s103_21, s103_22, s103_23, s103_24, s103_25, hM.f, k1.f, k2.f, oB_some, e1, (show (1 : Int32) = nI 1 from rfl), (show (2 : Int32) = nI 2 from rfl), nI_add, e2, e3]
  exact ⟨trivial, k3, (r1.tr r2).tr r3⟩
end MO
