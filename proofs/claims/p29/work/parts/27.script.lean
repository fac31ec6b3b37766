/-! The class's text: characters, reading of orders. -/
/-- what the heap holds of the text object: F its numbers by field, f the characters, g the numbers of the order -/
def HC (h : AHp) (F f g : Nat → Int32) : Prop :=
  HO h 144 2 [.ref 145, .int (F 1), .int (F 2), .int (F 3), .int (F 4), .int (F 5), .int (F 6), .ref 146, .int (F 8)] ∧ HA h 145 60 f ∧ HA h 146 3 g
/-- a code of an error -/
def isE (x : Int32) : Bool := decide (eF ≤ x ∧ x ≤ eI)
def nOf (x : Int32) : Nat := if x = 112 then 3 else if x = 97 ∨ x = 116 ∨ x = 114 then 2 else if x = 110 ∨ x = 107 then 1 else 0
/-- digits from a place on, at most d: where they end, and the number -/
def rdN (c : Nat → Int32) (n : Nat) : Nat → Nat → Int32 → Nat × Int32
  | 0, p, x => (p, x)
  | d + 1, p, x => if p < n ∧ 48 ≤ c p ∧ c p ≤ 57 then rdN c n d (p + 1) (x * 10 + c p - 48) else (p, x)
/-- the sign behind the last number, and behind the others -/
def sg (m : Nat) : Int32 := if m = 0 then 59 else 44
/-- m numbers with the signs behind them: whether they are there, where it ends or breaks off, the numbers -/
def rdL (c : Nat → Int32) (n : Nat) : Nat → Nat → Bool × Nat × List Int32
  | 0, p => (true, p, [])
  | m + 1, p => if (rdN c n 3 p 0).1 = p then (false, p, []) else
      if (rdN c n 3 p 0).1 < n ∧ c (rdN c n 3 p 0).1 = sg m then
        ((rdL c n m ((rdN c n 3 p 0).1 + 1)).1, (rdL c n m ((rdN c n 3 p 0).1 + 1)).2.1, (rdN c n 3 p 0).2 :: (rdL c n m ((rdN c n 3 p 0).1 + 1)).2.2)
      else (false, (rdN c n 3 p 0).1, [])
/-- an order from a place on -/
def rdO (c : Nat → Int32) (n p : Nat) : Bool × Nat × List Int32 := if nOf (c p) = 0 then (false, p, []) else rdL c n (nOf (c p)) (p + 1)
theorem rdN_le (c : Nat → Int32) (n : Nat) : ∀ d p x, p ≤ n → p ≤ (rdN c n d p x).1 ∧ (rdN c n d p x).1 ≤ n ∧ (rdN c n d p x).1 ≤ p + d := by
  intro d
  induction d with
  | zero => intro p x hp; exact ⟨Nat.le_refl _, hp, Nat.le_refl _⟩
  | succ d ih =>
    intro p x hp
    unfold rdN
    split
    · rename_i q
      have := ih (p + 1) (x * 10 + c p - 48) (by omega)
      omega
    · exact ⟨Nat.le_refl _, hp, by show p ≤ _; omega⟩
theorem rdL_le (c : Nat → Int32) (n : Nat) : ∀ m p, p ≤ n → p ≤ (rdL c n m p).2.1 ∧ (rdL c n m p).2.1 ≤ n ∧ (rdL c n m p).2.2.length ≤ m ∧ ((rdL c n m p).1 = true → (rdL c n m p).2.2.length = m) := by
  intro m
  induction m with
  | zero => intro p hp; exact ⟨Nat.le_refl _, hp, Nat.le_refl _, fun _ => rfl⟩
  | succ m ih =>
    intro p hp
    have hq := rdN_le c n 3 p 0 hp
    unfold rdL
    by_cases q1 : (rdN c n 3 p 0).1 = p
    · rw [if_pos q1]
      exact ⟨Nat.le_refl _, hp, Nat.zero_le _, fun q => by cases q⟩
    · rw [if_neg q1]
      by_cases q2 : (rdN c n 3 p 0).1 < n ∧ c (rdN c n 3 p 0).1 = sg m
      · rw [if_pos q2]
        have := ih ((rdN c n 3 p 0).1 + 1) (by omega)
        dsimp only [List.length_cons]
        refine ⟨by omega, by omega, by omega, fun q => ?_⟩
        have := this.2.2.2 q
        omega
      · rw [if_neg q2]
        exact ⟨hq.1, hq.2.1, Nat.zero_le _, fun q => by cases q⟩
section CS
variable {h h' : AHp} {F f g : Nat → Int32}
theorem HC.fd (hC : HC h F f g) : fldv h 144 2 0 = some (.ref 145) ∧ fldv h 144 2 1 = some (.int (F 1)) ∧ fldv h 144 2 2 = some (.int (F 2)) ∧ fldv h 144 2 3 = some (.int (F 3)) ∧ fldv h 144 2 4 = some (.int (F 4)) ∧ fldv h 144 2 5 = some (.int (F 5)) ∧ fldv h 144 2 6 = some (.int (F 6)) ∧ fldv h 144 2 7 = some (.ref 146) ∧ fldv h 144 2 8 = some (.int (F 8)) ∧ isO h 144 2 :=
  ⟨hC.1.ld rfl, hC.1.ld rfl, hC.1.ld rfl, hC.1.ld rfl, hC.1.ld rfl, hC.1.ld rfl, hC.1.ld rfl, hC.1.ld rfl, hC.1.ld rfl, hC.1.is⟩
theorem HC.fr {lo hi : Nat} (hC : HC h F f g) (hf : Fr lo hi h h') (hd : 147 ≤ lo ∨ hi ≤ 144) : HC h' F f g := ⟨hC.1.fr hf (by omega), hC.2.1.fr hf (by omega), hC.2.2.fr hf (by omega)⟩
theorem HC.sF (hC : HC h F f g) {k : Nat} (hk : k = 1 ∨ k = 2 ∨ k = 3 ∨ k = 4 ∨ k = 5 ∨ k = 6 ∨ k = 8) (x : Int32) : ∃ h', stf h 144 2 k (.int x) = some h' ∧ HC h' (upd F k x) f g ∧ Fr 144 147 h h' := by
  obtain ⟨a1, a2, a3⟩ := hC
  obtain ⟨h1, e, b, r⟩ := a1.st (k := k) (v := .int x) (by show k < 9; omega) (by rcases hk with rfl | rfl | rfl | rfl | rfl | rfl | rfl <;> rfl)
  refine ⟨h1, e, ⟨?_, a2.fr r (by omega), a3.fr r (by omega)⟩, r.up (by omega) (by omega)⟩
  rcases hk with rfl | rfl | rfl | rfl | rfl | rfl | rfl <;> exact b
theorem HC.lc (hC : HC h F f g) {p : Nat} (hp : p < 60) : ldi h 145 (nI p) = some (f p) := hC.2.1.ld hp (by decide)
theorem HC.ln (hC : HC h F f g) {k : Nat} (hk : k < 3) : ldi h 146 (nI k) = some (g k) := hC.2.2.ld hk (by decide)
theorem HC.sc (hC : HC h F f g) {p : Nat} (hp : p < 60) (x : Int32) : ∃ h', sti h 145 (nI p) x = some h' ∧ HC h' F (upd f p x) g ∧ Fr 144 147 h h' := by
  obtain ⟨a1, a2, a3⟩ := hC
  obtain ⟨h1, e, b, r⟩ := a2.st (x := x) hp (by decide)
  exact ⟨h1, e, ⟨a1.fr r (by omega), b, a3.fr r (by omega)⟩, r.up (by omega) (by omega)⟩
theorem HC.sn (hC : HC h F f g) {k : Nat} (hk : k < 3) (x : Int32) : ∃ h', sti h 146 (nI k) x = some h' ∧ HC h' F f (upd g k x) ∧ Fr 144 147 h h' := by
  obtain ⟨a1, a2, a3⟩ := hC
  obtain ⟨h1, e, b, r⟩ := a3.st (x := x) hk (by decide)
  exact ⟨h1, e, ⟨a1.fr r (by omega), a2.fr r (by omega), b⟩, r.up (by omega) (by omega)⟩
theorem c_isError (x : Int32) (h : AHp) : ∀ post, Call 61 [.int x] h post = post (some (.int (if isE x = true then 1 else 0))) h := by
  refine call_eq ?_
  simp only [s61_e, s61_0, s61_1, s61_3, s61_5, s61_8, c_isWithin, Option.toList_some, List.cons_append, List.nil_append]
  by_cases q : eF ≤ x ∧ x ≤ eI
  · have q' : (-2000000004 : Int32) ≤ x ∧ x ≤ -2000000001 := q
    rw [if_pos q']
    simp [isE, q]
  · have q' : ¬ ((-2000000004 : Int32) ≤ x ∧ x ≤ -2000000001) := q
    rw [if_neg q']
    simp [isE, q]
end CS
