/-! The class's text: an order is read, all orders are run. -/
/-- the run of a text: the fault, how many orders are done, the state -/
def rn (c : Nat → Int32) (n : Nat) : Nat → Nat → Nat → St → Option (Nat × Int32 × Int32) × Nat × St
  | 0, _, k, S => (none, k, S)
  | d + 1, p, k, S => if p < n then
      (if (rdO c n p).1 = true then
        (if isE (aOrd S (c p) (fun i => (rdO c n p).2.2.getD i 0)).1 = true then (some (p, 2, (aOrd S (c p) (fun i => (rdO c n p).2.2.getD i 0)).1), k, (aOrd S (c p) (fun i => (rdO c n p).2.2.getD i 0)).2)
         else rn c n d (rdO c n p).2.1 (k + 1) (aOrd S (c p) (fun i => (rdO c n p).2.2.getD i 0)).2)
       else (some (p, 1, nI (rdO c n p).2.1 - nI p), k, S))
      else (none, k, S)
theorem aOrd_ext {S : St} {k : Int32} {g g' : Nat → Int32} (hk : ¬ nOf k = 0) (he : ∀ i, i < nOf k → g i = g' i) : aOrd S k g = aOrd S k g' := by
  have e0 : g 0 = g' 0 := he 0 (by omega)
  unfold aOrd
  rw [e0]
  by_cases c1 : k = 110
  · rw [if_pos c1, if_pos c1]
  rw [if_neg c1, if_neg c1]
  by_cases c2 : k = 97
  · subst c2
    rw [if_pos rfl, if_pos rfl, he 1 (by decide)]
  rw [if_neg c2, if_neg c2]
  by_cases c3 : k = 116
  · subst c3
    rw [if_pos rfl, if_pos rfl, he 1 (by decide)]
  rw [if_neg c3, if_neg c3]
  by_cases c4 : k = 114
  · subst c4
    rw [if_pos rfl, if_pos rfl, he 1 (by decide)]
  rw [if_neg c4, if_neg c4]
  by_cases c5 : k = 112
  · subst c5
    rw [if_pos rfl, if_pos rfl, he 1 (by decide), he 2 (by decide)]
  rw [if_neg c5, if_neg c5]
theorem nOf_3 (x : Int32) : nOf x ≤ 3 := by
  unfold nOf
  by_cases c1 : x = 112
  · rw [if_pos c1]; decide
  rw [if_neg c1]
  by_cases c2 : x = 97 ∨ x = 116 ∨ x = 114
  · rw [if_pos c2]; decide
  rw [if_neg c2]
  by_cases c3 : x = 110 ∨ x = 107
  · rw [if_pos c3]; decide
  rw [if_neg c3]; decide
def FrT (t : Nat) (h h' : AHp) : Prop := h'.length = h.length ∧ ∀ j, ¬ (t ≤ j ∧ j < t + 69) → ¬ (144 ≤ j ∧ j < 147) → h'[j]? = h[j]?
theorem FrT.rf {t : Nat} {h : AHp} : FrT t h h := ⟨rfl, fun _ _ _ => rfl⟩
theorem FrT.tr {t : Nat} {h h1 h2 : AHp} (a : FrT t h h1) (c : FrT t h1 h2) : FrT t h h2 := ⟨c.1.trans a.1, fun j q1 q2 => (c.2 j q1 q2).trans (a.2 j q1 q2)⟩
theorem FrT.s {t : Nat} {h h' : AHp} (a : Fr t (t + 69) h h') : FrT t h h' := ⟨a.1, fun j q1 _ => a.2 j (by omega)⟩
theorem FrT.c {t : Nat} {h h' : AHp} (a : Fr 144 147 h h') : FrT t h h' := ⟨a.1, fun j _ q2 => a.2 j (by omega)⟩
section RI
variable {h h' : AHp} {F f g : Nat → Int32} {n p : Nat}
end RI
