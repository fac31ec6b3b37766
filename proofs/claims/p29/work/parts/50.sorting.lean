/-- a letter as it was posted: stamp of the view that it goes to, posting number, letter -/
abbrev Pt : Type := Nat × Nat × Lt
def srt (l : List Lt) : List Lt := l.foldl (fun acc x => insR x acc) []
/-! Letters in the order of coming, out of letters in the order of posting. -/
theorem srt_snoc (l : List Lt) (x : Lt) : srt (l ++ [x]) = insR x (srt l) := by simp [srt]
theorem insR_app (x : Lt) : ∀ (E R : List Lt), (∀ e ∈ E, e.2.2.1 ≤ x.2.2.1) → insR x (E ++ R) = E ++ insR x R := by
  intro E
  induction E with
  | nil => intro R _; rfl
  | cons e E ih =>
    intro R he
    show (if e.2.2.1 ≤ x.2.2.1 then e :: insR x (E ++ R) else x :: e :: (E ++ R)) = e :: (E ++ insR x R)
    rw [if_pos (he e (List.mem_cons_self ..)), ih R (fun y hy => he y (List.mem_cons_of_mem _ hy))]
theorem insR_head (x : Lt) (R : List Lt) (h : ∀ r ∈ R, x.2.2.1 < r.2.2.1) : insR x R = x :: R := by
  cases R with
  | nil => rfl
  | cons r R =>
    show (if r.2.2.1 ≤ x.2.2.1 then r :: insR x R else x :: r :: R) = x :: r :: R
    have := h r (List.mem_cons_self ..)
    rw [if_neg (by omega)]
theorem srt_fold (a : Nat) : ∀ (l E R : List Lt), (∀ e ∈ E, e.2.2.1 = a) → (∀ r ∈ R, a < r.2.2.1) → (∀ x ∈ l, a ≤ x.2.2.1) →
    l.foldl (fun acc x => insR x acc) (E ++ R) = (E ++ l.filter (fun x => decide (x.2.2.1 = a))) ++ (l.filter (fun x => decide (¬ x.2.2.1 = a))).foldl (fun acc x => insR x acc) R := by
  intro l
  induction l with
  | nil => intro E R _ _ _; simp
  | cons x l ih =>
    intro E R hE hR hl
    have hx := hl x (List.mem_cons_self ..)
    have hl' : ∀ y ∈ l, a ≤ y.2.2.1 := fun y hy => hl y (List.mem_cons_of_mem _ hy)
    rw [List.foldl_cons, insR_app x E R (fun e he => by rw [hE e he]; exact hx)]
    by_cases c : x.2.2.1 = a
    · rw [insR_head x R (fun r hr => by rw [c]; exact hR r hr)]
      have e1 : E ++ x :: R = (E ++ [x]) ++ R := by simp
      rw [e1, ih (E ++ [x]) R (fun e he => by
        rcases List.mem_append.mp he with q | q
        · exact hE e q
        · rw [List.mem_singleton.mp q]; exact c) hR hl']
      simp [c]
    · rw [ih E (insR x R) hE (fun r hr => by
        rcases insR_mem hr with q | q
        · rw [q]; omega
        · exact hR r q) hl']
      simp [c]
/-- when all come at a or later, those that come at a are first, in their order -/
theorem srt_split {a : Nat} {l : List Lt} (hl : ∀ x ∈ l, a ≤ x.2.2.1) : srt l = l.filter (fun x => decide (x.2.2.1 = a)) ++ srt (l.filter (fun x => decide (¬ x.2.2.1 = a))) := by
  have := srt_fold a l [] [] (fun e he => by cases he) (fun e he => by cases he) hl
  simpa [srt] using this
theorem srt_mem {x : Lt} : ∀ {l E : List Lt}, x ∈ l.foldl (fun acc x => insR x acc) E → x ∈ l ∨ x ∈ E := by
  intro l
  induction l with
  | nil => intro E h; exact Or.inr h
  | cons y l ih =>
    intro E h
    rcases ih h with q | q
    · exact Or.inl (List.mem_cons_of_mem _ q)
    · rcases insR_mem q with q | q
      · rw [q]; exact Or.inl (List.mem_cons_self ..)
      · exact Or.inr q
theorem srt_mem' {x : Lt} {l : List Lt} (h : x ∈ srt l) : x ∈ l := (srt_mem h).resolve_right (fun q => by cases q)
theorem srt_len (l : List Lt) : (srt l).length = l.length := by
  have key : ∀ (l E : List Lt), (l.foldl (fun acc x => insR x acc) E).length = l.length + E.length := by
    intro l
    induction l with
    | nil => intro E; simp
    | cons y l ih =>
      intro E
      rw [List.foldl_cons, ih, insR_len, List.length_cons]
      omega
  exact key l []
/-- those that come at a are due at a, the others are left -/
theorem due_split {a : Nat} {l : List Lt} (hl : ∀ x ∈ l, a ≤ x.2.2.1) : due a (srt l) = l.filter (fun x => decide (x.2.2.1 = a)) ∧ (srt l).drop (due a (srt l)).length = srt (l.filter (fun x => decide (¬ x.2.2.1 = a))) := by
  have e : due a (srt l) = l.filter (fun x => decide (x.2.2.1 = a)) := by
    rw [srt_split hl]
    unfold due
    rw [List.takeWhile_append_of_pos (fun x hx => by
      have := (List.mem_filter.mp hx).2
      have h2 : x.2.2.1 = a := of_decide_eq_true this
      exact decide_eq_true (by omega))]
    have : (srt (l.filter (fun x => decide (¬ x.2.2.1 = a)))).takeWhile (fun L => decide (L.2.2.1 ≤ a)) = [] := by
      cases hs : srt (l.filter (fun x => decide (¬ x.2.2.1 = a))) with
      | nil => rfl
      | cons y r =>
        have hy : y ∈ srt (l.filter (fun x => decide (¬ x.2.2.1 = a))) := by rw [hs]; exact List.mem_cons_self ..
        have h1 := List.mem_filter.mp (srt_mem' hy)
        have h2 : ¬ y.2.2.1 = a := of_decide_eq_true h1.2
        have h3 := hl y h1.1
        rw [List.takeWhile_cons_of_neg (by simp; omega)]
    rw [this, List.append_nil]
  refine ⟨e, ?_⟩
  rw [e]
  conv => lhs; rw [srt_split hl]
  rw [List.drop_left]
