/-! Sets as bits (the first rows began as kit/laws/BITS.to-paste). -/
def bt (x : Int32) (i : Nat) : Bool := x.toBitVec.getLsbD i
theorem b_ext {x y : Int32} (h : ∀ i, i < 32 → bt x i = bt y i) : x = y := Int32.toBitVec_inj.mp (BitVec.eq_of_getLsbD_eq (fun i hi => h i hi))
theorem b_or (x y : Int32) (i : Nat) : bt (x ||| y) i = (bt x i || bt y i) := by unfold bt; rw [Int32.toBitVec_or, BitVec.getLsbD_or]
theorem b_and (x y : Int32) (i : Nat) : bt (x &&& y) i = (bt x i && bt y i) := by unfold bt; rw [Int32.toBitVec_and, BitVec.getLsbD_and]
theorem s_l : ∀ n, n < 32 → ((nI n &&& 31).toBitVec.smod 32).toNat = n := by decide +kernel
theorem b_sshr (n : Nat) (hn : n < 32) (x : Int32) {i : Nat} (hi : i < 32) : bt (x >>> (nI n &&& 31)) i = if n + i < 32 then bt x (n + i) else bt x 31 := by
  unfold bt
  rw [Int32.toBitVec_shiftRight]
  show (x.toBitVec.sshiftRight ((nI n &&& 31).toBitVec.smod 32).toNat).getLsbD i = _
  rw [s_l n hn, BitVec.getLsbD_sshiftRight, BitVec.msb_eq_getLsbD_last]
  simp [hi]
theorem nf_sh : ∀ l, l < 32 → ((1 : Int32) <<< (nI l &&& 31)).toBitVec = BitVec.twoPow 32 l := by decide +kernel
theorem nf_tp : ∀ l, l < 32 → BitVec.twoPow 32 l ≠ 0#32 := by decide +kernel
theorem b_one {n i : Nat} (hn : n < 32) : bt ((1 : Int32) <<< (nI n &&& 31)) i = decide (i = n) := by
  unfold bt
  rw [nf_sh n hn, BitVec.getLsbD_twoPow]
  by_cases h : n = i
  · subst h; simp [hn]
  · simp [h, Ne.symm h]
theorem b_zero (i : Nat) : bt 0 i = false := by
  unfold bt
  exact BitVec.getLsbD_zero
theorem gb_bt (g : Int32) {w : Nat} (hw : w < 32) : gb g w = bt g w := by
  unfold gb
  have e : g &&& ((1 : Int32) <<< (nI w &&& 31)) = 0 ↔ bt g w = false := by
    rw [← Int32.toBitVec_inj, Int32.toBitVec_and, nf_sh w hw, BitVec.and_twoPow]
    show _ = 0#32 ↔ g.toBitVec.getLsbD w = false
    cases hb : g.toBitVec.getLsbD w with
    | false => simp
    | true => simp [nf_tp w hw]
  cases hb : bt g w with
  | false => simp [e.mpr hb]
  | true =>
    have : ¬ g &&& ((1 : Int32) <<< (nI w &&& 31)) = 0 := fun q => by rw [e.mp q] at hb; cases hb
    simp [this]
theorem bt_obits (p : Nat → Bool) : ∀ (n : Nat), n ≤ 32 → ∀ i, bt (obits p n) i = (decide (i < n) && p i) := by
  intro n
  induction n with
  | zero => intro _ i; simp [obits, b_zero]
  | succ n ih =>
    intro hn i
    have ih := ih (by omega) i
    unfold obits
    by_cases hp : p n = true
    · rw [if_pos hp, b_or, ih, b_one (by omega)]
      by_cases e : i = n
      · subst e; simp [hp]
      · have : (i < n + 1) ↔ (i < n) := by omega
        simp [e, this]
    · rw [if_neg hp, ih]
      by_cases e : i = n
      · subst e; simp [hp]
      · have : (i < n + 1) ↔ (i < n) := by omega
        simp [this]
theorem obits_eq {p q : Nat → Bool} {n : Nat} (hn : n ≤ 32) : obits p n = obits q n ↔ ∀ i, i < n → p i = q i := by
  constructor
  · intro h i hi
    have a := bt_obits p n hn i
    rw [h, bt_obits q n hn i] at a
    simpa [hi] using a.symm
  · intro h
    refine b_ext (fun i _ => ?_)
    rw [bt_obits p n hn, bt_obits q n hn]
    by_cases hi : i < n
    · simp [hi, h i hi]
    · simp [hi]
theorem obits_0 {p : Nat → Bool} {n : Nat} (hn : n ≤ 32) : obits p n = 0 ↔ ∀ i, i < n → p i = false := by
  constructor
  · intro h i hi
    have a := bt_obits p n hn i
    rw [h, b_zero] at a
    simpa [hi] using a.symm
  · intro h
    refine b_ext (fun i _ => ?_)
    rw [bt_obits p n hn, b_zero]
    by_cases hi : i < n
    · simp [hi, h i hi]
    · simp [hi]
theorem gb_obits (p : Nat → Bool) {n i : Nat} (hn : n ≤ 32) (hi : i < n) : gb (obits p n) i = p i := by
  rw [gb_bt _ (by omega), bt_obits p n hn]
  simp [hi]
/-- the model's way to look at a bit -/
theorem shr_bit (g : Int32) {w : Nat} (hw : w < 32) : (g >>> (nI w &&& 31)) &&& 1 = 1 ↔ gb g w = true := by
  rw [gb_bt g hw]
  have e1 : ∀ i, bt (1 : Int32) i = decide (i = 0) := by
    intro i
    have := b_one (n := 0) (i := i) (by decide)
    simpa [show ((1 : Int32) <<< (nI 0 &&& 31)) = 1 by decide] using this
  constructor
  · intro h
    have a : bt ((g >>> (nI w &&& 31)) &&& 1) 0 = bt 1 0 := by rw [h]
    rw [b_and, e1, b_sshr w hw g (by decide), if_pos (by omega)] at a
    simpa using a
  · intro h
    refine b_ext (fun i hi => ?_)
    rw [b_and, e1, b_sshr w hw g hi]
    by_cases e : i = 0
    · subst e
      rw [if_pos (by omega), Nat.add_zero, h]; rfl
    · simp [e]
/-- what Integer.bitCount computes -/
def bcA (x : Int32) : Int32 := x - ((x.toUInt32 >>> ((1 : Int32).toUInt32 &&& Int32.toUInt32 31)).toInt32 &&& 1431655765)
def bcB (x : Int32) : Int32 := (x &&& 858993459) + ((x.toUInt32 >>> ((2 : Int32).toUInt32 &&& Int32.toUInt32 31)).toInt32 &&& 858993459)
def bcC (x : Int32) : Int32 := (x + (x.toUInt32 >>> ((4 : Int32).toUInt32 &&& Int32.toUInt32 31)).toInt32) &&& 252645135
def bcD (x : Int32) : Int32 := x + (x.toUInt32 >>> ((8 : Int32).toUInt32 &&& Int32.toUInt32 31)).toInt32
def bcE (x : Int32) : Int32 := x + (x.toUInt32 >>> ((16 : Int32).toUInt32 &&& Int32.toUInt32 31)).toInt32
def bc (x : Int32) : Int32 := bcE (bcD (bcC (bcB (bcA x)))) &&& 63
theorem c_bitCount (x : Int32) (h : AHp) : ∀ post, Call 62 [.int x] h post = post (some (.int (bc x))) h := by
  refine call_eq ?_
  simp only [s62_e, s62_0, s62_1, s62_2, s62_3, s62_4, s62_7, s62_8, s62_9, s62_10, s62_11, s62_14, s62_15, s62_16, s62_17, s62_18, s62_21, s62_22, s62_23, s62_24, s62_25, s62_26, s62_27, s62_28, s62_29, s62_32, s62_33, s62_34, s62_35, s62_36, s62_38, s62_39, s62_40, s62_41, s62_42, s62_43, s62_45, s62_46, s62_47, s62_48, s62_49, s62_51, s62_52]
  refine ⟨?_, ?_⟩ <;> first | trivial | rfl
set_option maxRecDepth 100000 in
theorem bc_6 (p : Nat → Bool) : bc (obits p 6) = cntI p 6 := by
  simp only [obits, cntI]
  generalize p 0 = b0
  generalize p 1 = b1
  generalize p 2 = b2
  generalize p 3 = b3
  generalize p 4 = b4
  generalize p 5 = b5
  revert b0 b1 b2 b3 b4 b5
  decide +kernel
set_option maxRecDepth 100000 in
theorem bc_8 (p : Nat → Bool) : bc (obits p 8) = cntI p 8 := by
  simp only [obits, cntI]
  generalize p 0 = b0
  generalize p 1 = b1
  generalize p 2 = b2
  generalize p 3 = b3
  generalize p 4 = b4
  generalize p 5 = b5
  generalize p 6 = b6
  generalize p 7 = b7
  revert b0 b1 b2 b3 b4 b5 b6 b7
  decide +kernel
/-- an index within, or not -/
def ix (x : Int32) (n : Nat) : Option Nat := if 0 ≤ x.toInt ∧ x.toInt < n then some x.toInt.toNat else none
theorem ix_some {x : Int32} {n w : Nat} (h : ix x n = some w) : w < n ∧ x = nI w := by
  unfold ix at h
  split at h
  · rename_i hq
    cases h
    refine ⟨by omega, ?_⟩
    apply Int32.toInt_inj.mp
    have h1 := Int32.toInt_lt x
    rw [nI_toInt (by omega)]
    omega
  · cases h
theorem ix_nI {n w : Nat} (hw : w < n) (hn : n < 2147483648) : ix (nI w) n = some w := by
  unfold ix
  rw [nI_toInt (by omega), if_pos (by omega)]
  simp
theorem ix_none {x : Int32} {n : Nat} (hn : n < 2147483648) (h : ix x n = none) : x < 0 ∨ nI n ≤ x := by
  unfold ix at h
  split at h
  · cases h
  · rename_i hq
    rw [Int32.lt_iff_toInt_lt, Int32.le_iff_toInt_le, nI_toInt hn]
    simp only [Int32.toInt_zero]
    omega
theorem ix_cases (x : Int32) (n : Nat) : ix x n = none ∨ ∃ w, w < n ∧ x = nI w := by
  cases h : ix x n with
  | none => exact Or.inl rfl
  | some w => exact Or.inr ⟨w, ix_some h⟩
theorem c_isWithin (x a c : Int32) (h : AHp) : ∀ post, Call 60 [.int x, .int a, .int c] h post = post (some (.int (if a ≤ x ∧ x ≤ c then 1 else 0))) h := by
  refine call_eq ?_
  simp only [s60_e, s60_0, s60_1, s60_2, s60_5, s60_6, s60_7, s60_10, s60_11, s60_14, s60_15]
  by_cases h1 : x < a
  · rw [if_pos h1, if_neg (fun q => Int32.not_lt.mpr q.1 h1)]
    simp
  · rw [if_neg h1]
    by_cases h2 : c < x
    · rw [if_pos h2, if_neg (fun q => Int32.not_lt.mpr q.2 h2)]
      simp
    · rw [if_neg h2, if_pos ⟨Int32.not_lt.mp h1, Int32.not_lt.mp h2⟩]
      simp
theorem i_le (a c : Int32) : a ≤ c ↔ a.toInt ≤ c.toInt := Int32.le_iff_toInt_le
theorem i_lt (a c : Int32) : a < c ↔ a.toInt < c.toInt := Int32.lt_iff_toInt_lt
theorem ix_iff {x : Int32} {n : Nat} (hn : n < 2147483648) : (ix x n).isSome = true ↔ (0 : Int32) ≤ x ∧ x ≤ nI n - 1 := by
  cases n with
  | zero =>
    rw [i_le, i_le]
    unfold ix
    have e : (nI 0 - 1).toInt = -1 := by decide
    rw [e]
    simp only [Int32.toInt_zero]
    split
    · rename_i hq; exact ⟨fun _ => by omega, fun _ => rfl⟩
    · rename_i hq; exact ⟨fun q => (by cases q), fun q => by omega⟩
  | succ n =>
    rw [nI_pred, i_le, i_le, nI_toInt (by omega)]
    unfold ix
    simp only [Int32.toInt_zero]
    split
    · rename_i hq; exact ⟨fun _ => by omega, fun _ => rfl⟩
    · rename_i hq; exact ⟨fun q => (by cases q), fun q => by omega⟩
