/-! The ring of merges: all agree after at most 30. -/
def pB (b0 b1 b2 b3 b4 b5 : Bool) (i : Nat) : Bool := if i = 0 then b0 else if i = 1 then b1 else if i = 2 then b2 else if i = 3 then b3 else if i = 4 then b4 else if i = 5 then b5 else false
theorem nxt_ext {p q : Nat → Bool} (h : ∀ i, i < 6 → p i = q i) (v : Nat) : nxt p v = nxt q v := by
  have key : ∀ d k, nxF p v d k = nxF q v d k := by
    intro d
    induction d with
    | zero => intro k; rfl
    | succ d ih =>
      intro k
      unfold nxF
      rw [h _ (Nat.mod_lt _ (by decide)), ih]
  exact key 6 1
def ring (p : Nat → Bool) : Nat → Nat → Nat → Nat
  | 0, X, _ => X
  | d + 1, X, v => ring p d (if X.testBit (nxt p v) = true then X ||| (1 <<< v) else X) (nxt p v)
set_option maxRecDepth 100000 in
theorem ring_ok : ∀ b0 b1 b2 b3 b4 b5 : Bool, ∀ j, j < 6 → pB b0 b1 b2 b3 b4 b5 j = true → ∀ v, v < 6 → pB b0 b1 b2 b3 b4 b5 v = true → (ring (pB b0 b1 b2 b3 b4 b5) 30 (1 <<< j) (nxt (pB b0 b1 b2 b3 b4 b5) 5)).testBit v = true := by decide +kernel
