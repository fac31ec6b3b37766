/-! The rank of a letter among those that are on their way. -/
def cn (p : Nat → Bool) : Nat → Nat
  | 0 => 0
  | n + 1 => if p n = true then cn p n + 1 else cn p n
theorem cntI_cn (p : Nat → Bool) : ∀ n, cntI p n = nI (cn p n) := by
  intro n
  induction n with
  | zero => rfl
  | succ n ih =>
    show (if p n = true then cntI p n + 1 else cntI p n) = nI (if p n = true then cn p n + 1 else cn p n)
    by_cases c : p n = true
    · rw [if_pos c, if_pos c, ih, nI_1]
    · rw [if_neg c, if_neg c, ih]
theorem cn_ext {p q : Nat → Bool} : ∀ n, (∀ i, i < n → p i = q i) → cn p n = cn q n := by
  intro n
  induction n with
  | zero => intro _; rfl
  | succ n ih =>
    intro he
    show (if p n = true then cn p n + 1 else cn p n) = (if q n = true then cn q n + 1 else cn q n)
    rw [ih (fun i hi => he i (by omega)), he n (by omega)]
theorem cn_le (p : Nat → Bool) : ∀ n, cn p n ≤ n := by
  intro n
  induction n with
  | zero => exact Nat.le_refl _
  | succ n ih =>
    show (if p n = true then cn p n + 1 else cn p n) ≤ n + 1
    by_cases c : p n = true
    · rw [if_pos c]; omega
    · rw [if_neg c]; omega
def ar (l : List Lt) (i : Nat) : Nat := match l[i]? with
  | none => 0
  | some x => x.2.2.1
/-- which letters come ahead of the k-th one -/
def bf (l : List Lt) (k i : Nat) : Bool := decide (ar l i < ar l k ∨ (ar l i = ar l k ∧ i < k))
def rk (l : List Lt) (k : Nat) : Nat := cn (bf l k) l.length
theorem ar_l {l : List Lt} {x : Lt} {i : Nat} (h : i < l.length) : ar (l ++ [x]) i = ar l i := by
  unfold ar
  rw [List.getElem?_append_left h]
theorem ar_r {l : List Lt} {x : Lt} : ar (l ++ [x]) l.length = x.2.2.1 := by
  unfold ar
  rw [List.getElem?_append_right (Nat.le_refl _), Nat.sub_self]
  rfl
/-- how many of a list come no later than a -/
def noL (a : Nat) : List Lt → Nat
  | [] => 0
  | x :: l => (if x.2.2.1 ≤ a then 1 else 0) + noL a l
theorem noL_ins (a : Nat) (x : Lt) : ∀ l, noL a (insR x l) = (if x.2.2.1 ≤ a then 1 else 0) + noL a l := by
  intro l
  induction l with
  | nil => rfl
  | cons y l ih =>
    unfold insR
    by_cases c : y.2.2.1 ≤ x.2.2.1
    · rw [if_pos c]
      show _ + noL a (insR x l) = _ + (_ + noL a l)
      rw [ih]; omega
    · rw [if_neg c]; rfl
theorem noL_app (a : Nat) (x : Lt) : ∀ l, noL a (l ++ [x]) = (if x.2.2.1 ≤ a then 1 else 0) + noL a l := by
  intro l
  induction l with
  | nil => rfl
  | cons y l ih =>
    show _ + noL a (l ++ [x]) = _ + (_ + noL a l)
    rw [ih]; omega
theorem noL_le (a : Nat) : ∀ l : List Lt, noL a l ≤ l.length := by
  intro l
  induction l with
  | nil => exact Nat.le_refl _
  | cons y l ih =>
    show (if y.2.2.1 ≤ a then 1 else 0) + noL a l ≤ l.length + 1
    by_cases c : y.2.2.1 ≤ a
    · rw [if_pos c]; omega
    · rw [if_neg c]; omega
/-- in a sorted list, those that come no later are the first ones -/
theorem noL_at (a : Nat) : ∀ l : List Lt, l.Pairwise (fun a c => a.2.2.1 ≤ c.2.2.1) → ∀ (j : Nat) (M : Lt), l[j]? = some M → (j < noL a l ↔ M.2.2.1 ≤ a) := by
  intro l
  induction l with
  | nil => intro _ j M h; cases h
  | cons y l ih =>
    intro hp j M h
    obtain ⟨h1, h2⟩ := List.pairwise_cons.mp hp
    show j < (if y.2.2.1 ≤ a then 1 else 0) + noL a l ↔ _
    cases j with
    | zero =>
      have e : y = M := by simpa using h
      subst e
      by_cases c : y.2.2.1 ≤ a
      · rw [if_pos c]; exact ⟨fun _ => c, fun _ => by omega⟩
      · rw [if_neg c]
        refine ⟨fun q => ?_, fun q => absurd q c⟩
        cases l with
        | nil => exact absurd q (by simp [noL])
        | cons z l =>
          have hz := (ih h2 0 z rfl).mp (by omega)
          have := h1 z (List.mem_cons_self ..)
          omega
    | succ j =>
      have h' : l[j]? = some M := by simpa using h
      have ihj := ih h2 j M h'
      by_cases c : y.2.2.1 ≤ a
      · rw [if_pos c, ← ihj]; omega
      · rw [if_neg c]
        have := h1 M (List.mem_of_getElem? h')
        constructor
        · intro q
          have := ihj.mp (by omega)
          omega
        · intro q; omega
theorem srt_sorted (l : List Lt) : (srt l).Pairwise (fun a c => a.2.2.1 ≤ c.2.2.1) := by
  have key : ∀ (l E : List Lt), E.Pairwise (fun a c => a.2.2.1 ≤ c.2.2.1) → (l.foldl (fun acc x => insR x acc) E).Pairwise (fun a c => a.2.2.1 ≤ c.2.2.1) := by
    intro l
    induction l with
    | nil => intro E h; exact h
    | cons y l ih => intro E h; exact ih _ (insR_sorted y E h)
  exact key l [] List.Pairwise.nil
theorem noL_srt (a : Nat) (l : List Lt) : noL a (srt l) = noL a l := by
  have key : ∀ (l E : List Lt), noL a (l.foldl (fun acc x => insR x acc) E) = noL a l + noL a E := by
    intro l
    induction l with
    | nil => intro E; show noL a E = 0 + noL a E; omega
    | cons y l ih =>
      intro E
      rw [List.foldl_cons, ih, noL_ins]
      show _ = (_ + noL a l) + noL a E
      omega
  have := key l []
  show noL a (l.foldl _ []) = _
  rw [this]; rfl
