/-! Runs as a predicate: Ev (from a point), Call (a method); one row for each kind of instruction. -/
def Ev (sc : Scr) (y pc : Nat) (ls stk : List Value) (h : AHp) (post : Option Value → AHp → Prop) : Prop := ∃ (n : Nat) (rv : Option Value) (h' : AHp), run n sc y pc ls stk h = some (rv, h') ∧ post rv h'
def Call (z : Nat) (as : List Value) (h : AHp) (post : Option Value → AHp → Prop) : Prop := Ev none z 0 (ent0 z as) [] h post
def oB {α : Type} (o : Option α) (K : α → Prop) : Prop := ∃ v, o = some v ∧ K v
theorem oB_some {α : Type} (v : α) (K : α → Prop) : oB (some v) K = K v := by
  apply propext
  exact ⟨fun ⟨w, h1, h2⟩ => by cases h1; exact h2, fun h => ⟨v, rfl, h⟩⟩
theorem oB_none {α : Type} (K : α → Prop) : oB none K = False := by
  apply propext
  exact ⟨fun ⟨w, h1, h2⟩ => (by cases h1), fun h => False.elim h⟩
theorem oB_bind {α : Type} {n : Nat} {β : Type} (o : Option α) (f : α → Option β) (P : β → Prop) : (∃ r, o.bind f = some r ∧ P r) ↔ oB o (fun v => ∃ r, f v = some r ∧ P r) := by
  constructor
  · rintro ⟨r, h1, h2⟩
    obtain ⟨v, g1, g2⟩ := Option.bind_eq_some_iff.mp h1
    exact ⟨v, g1, r, g2, h2⟩
  · rintro ⟨v, g1, r, g2, h2⟩
    exact ⟨r, Option.bind_eq_some_iff.mpr ⟨v, g1, g2⟩, h2⟩
theorem run_s (n : Nat) (sc : Scr) (y pc : Nat) (ls stk : List Value) (h : AHp) : run (n + 1) sc y pc ls stk h = match fet y pc with
    | none => none
    | some e =>
      match kindI e.2.1 e.2.2.1 with
      | 0 => (ex1 sc e ls stk h).bind (fun q => run n sc y q.1 q.2.1 q.2.2.1 q.2.2.2)
      | 1 => (zRet y e.2.1 stk).map (fun v => (v, h))
      | _ => (zCall e.2.1 e.2.2.1 stk h).bind (fun q => (run n (scOf e.2.2.1 sc) e.2.2.1 0 (ent0 e.2.2.1 q.1) [] h).bind (fun r => run n sc y (e.1 + 3) ls (r.1.toList ++ q.2) r.2)) := rfl
theorem run_more : ∀ (n k : Nat) {sc : Scr} {y pc : Nat} {ls stk : List Value} {h : AHp} {r : Option Value × AHp}, run n sc y pc ls stk h = some r → run (n + k) sc y pc ls stk h = some r := by
  intro n
  induction n with
  | zero => intro k sc y pc ls stk h r hx; exact absurd hx (by simp [run])
  | succ n ih =>
    intro k sc y pc ls stk h r hx
    rw [Nat.add_right_comm, run_s]
    rw [run_s] at hx
    cases hfe : fet y pc with
    | none => rw [hfe] at hx; cases hx
    | some e =>
      rw [hfe] at hx
      dsimp only at hx ⊢
      cases hk : kindI e.2.1 e.2.2.1 with
      | zero =>
        rw [hk] at hx
        obtain ⟨q, g1, g2⟩ := Option.bind_eq_some_iff.mp hx
        exact Option.bind_eq_some_iff.mpr ⟨q, g1, ih k g2⟩
      | succ k1 =>
        rw [hk] at hx
        cases k1 with
        | zero => exact hx
        | succ k2 =>
          obtain ⟨q, g1, g2⟩ := Option.bind_eq_some_iff.mp hx
          obtain ⟨r1, g3, g4⟩ := Option.bind_eq_some_iff.mp g2
          exact Option.bind_eq_some_iff.mpr ⟨q, g1, Option.bind_eq_some_iff.mpr ⟨r1, ih k g3, ih k g4⟩⟩
theorem run_det {n k : Nat} {sc : Scr} {y pc : Nat} {ls stk : List Value} {h : AHp} {r r' : Option Value × AHp} (h1 : run n sc y pc ls stk h = some r) (h2 : run k sc y pc ls stk h = some r') : r = r' := by
  have a := run_more n k h1
  have c := run_more k n h2
  rw [Nat.add_comm] at c
  exact Option.some.inj (a.symm.trans c)
section EVR
variable {sc : Scr} {y pc : Nat} {ls stk : List Value} {h : AHp} {post post' : Option Value → AHp → Prop} {e : Ent}
theorem Ev.mono (hx : Ev sc y pc ls stk h post) (hp : ∀ rv h', post rv h' → post' rv h') : Ev sc y pc ls stk h post' := by
  obtain ⟨n, rv, h', h1, h2⟩ := hx
  exact ⟨n, rv, h', h1, hp _ _ h2⟩
theorem Call.mono {z : Nat} {as : List Value} (hx : Call z as h post) (hp : ∀ rv h', post rv h' → post' rv h') : Call z as h post' := Ev.mono hx hp
theorem Ev.both (h1 : Ev sc y pc ls stk h post) (h2 : Ev sc y pc ls stk h post') : Ev sc y pc ls stk h (fun rv h' => post rv h' ∧ post' rv h') := by
  obtain ⟨n, rv, h', a1, a2⟩ := h1
  obtain ⟨k, rv2, h2', b1, b2⟩ := h2
  cases run_det a1 b1
  exact ⟨n, rv, h', a1, a2, b2⟩
/-- a call whose end is known -/
theorem call_eq {z : Nat} {as : List Value} {rv : Option Value} {h' : AHp} (hx : Call z as h (fun r g => r = rv ∧ g = h')) : ∀ post, Call z as h post = post rv h' := by
  intro post
  obtain ⟨n, r, g, a1, rfl, rfl⟩ := hx
  apply propext
  constructor
  · rintro ⟨k, r2, g2, b1, b2⟩
    cases run_det a1 b1
    exact b2
  · exact fun hp => ⟨n, r, g, a1, hp⟩
theorem e_x (hf : fet y pc = some e) (hk : kindI e.2.1 e.2.2.1 = 0) : Ev sc y pc ls stk h post = oB (ex1 sc e ls stk h) (fun q => Ev sc y q.1 q.2.1 q.2.2.1 q.2.2.2 post) := by
  apply propext
  constructor
  · rintro ⟨n, rv, h', h1, h2⟩
    cases n with
    | zero => exact absurd h1 (by simp [run])
    | succ n =>
      rw [run_s, hf] at h1
      dsimp only at h1
      rw [hk] at h1
      obtain ⟨q, g1, g2⟩ := Option.bind_eq_some_iff.mp h1
      exact ⟨q, g1, n, rv, h', g2, h2⟩
  · rintro ⟨q, g1, n, rv, h', g2, h2⟩
    refine ⟨n + 1, rv, h', ?_, h2⟩
    rw [run_s, hf]
    dsimp only
    rw [hk]
    exact Option.bind_eq_some_iff.mpr ⟨q, g1, g2⟩
theorem e_1 {q : Cfg} (hf : fet y pc = some e) (hk : kindI e.2.1 e.2.2.1 = 0) (hx : ex1 sc e ls stk h = some q) : Ev sc y pc ls stk h post = Ev sc y q.1 q.2.1 q.2.2.1 q.2.2.2 post := by
  rw [e_x hf hk, hx, oB_some]
theorem e_r {v : Option Value} (hf : fet y pc = some e) (hk : kindI e.2.1 e.2.2.1 = 1) (hx : zRet y e.2.1 stk = some v) : Ev sc y pc ls stk h post = post v h := by
  apply propext
  constructor
  · rintro ⟨n, rv, h', h1, h2⟩
    cases n with
    | zero => exact absurd h1 (by simp [run])
    | succ n =>
      rw [run_s, hf] at h1
      dsimp only at h1
      rw [hk, hx] at h1
      cases h1
      exact h2
  · intro hp
    refine ⟨1, v, h, ?_, hp⟩
    rw [run_s, hf]
    dsimp only
    rw [hk, hx]
    rfl
theorem e_cc {as rest : List Value} (hf : fet y pc = some e) (hk : kindI e.2.1 e.2.2.1 = 2) (hx : zCall e.2.1 e.2.2.1 stk h = some (as, rest)) : Ev sc y pc ls stk h post = Ev (scOf e.2.2.1 sc) e.2.2.1 0 (ent0 e.2.2.1 as) [] h (fun rv h' => Ev sc y (e.1 + 3) ls (rv.toList ++ rest) h' post) := by
  apply propext
  constructor
  · rintro ⟨n, rv, h', h1, h2⟩
    cases n with
    | zero => exact absurd h1 (by simp [run])
    | succ n =>
      rw [run_s, hf] at h1
      dsimp only at h1
      rw [hk, hx] at h1
      obtain ⟨q, g1, g2⟩ := Option.bind_eq_some_iff.mp h1
      cases g1
      obtain ⟨r, g3, g4⟩ := Option.bind_eq_some_iff.mp g2
      exact ⟨n, r.1, r.2, g3, n, rv, h', g4, h2⟩
  · rintro ⟨n, r1, r2, g3, k, rv, h', g4, h2⟩
    refine ⟨n + k + 1, rv, h', ?_, h2⟩
    rw [run_s, hf]
    dsimp only
    rw [hk, hx]
    refine Option.bind_eq_some_iff.mpr ⟨_, rfl, Option.bind_eq_some_iff.mpr ⟨(r1, r2), run_more n k g3, ?_⟩⟩
    have := run_more k n g4
    rwa [Nat.add_comm] at this
theorem e_c {as rest : List Value} (hf : fet y pc = some e) (hk : kindI e.2.1 e.2.2.1 = 2) (hx : zCall e.2.1 e.2.2.1 stk h = some (as, rest)) (hzc : ¬ e.2.2.1 = NCELL) : Ev sc y pc ls stk h post = Call e.2.2.1 as h (fun rv h' => Ev sc y (e.1 + 3) ls (rv.toList ++ rest) h' post) := by
  rw [e_cc hf hk hx, scOf_ne hzc]
  rfl
end EVR
def fldv (h : AHp) (a c k : Nat) : Option Value := match h[a]? with
  | some (.inr (c', fs)) => if c' = c then fs[k]? else none
  | _ => none
def stf (h : AHp) (a c k : Nat) (v : Value) : Option AHp := match h[a]? with
  | some (.inr (c', fs)) => if c' = c ∧ k < fs.length ∧ vOk (tyAt c' k) v = true then some (h.set a (.inr (c', fs.set k v))) else none
  | _ => none
def ldi (h : AHp) (a : Nat) (j : Int32) : Option Int32 := match h[a]? with
  | some (.inl (0, n, .inl f)) => if j < 0 ∨ n ≤ j.toNatClampNeg then none else some (f j.toNatClampNeg)
  | _ => none
def sti (h : AHp) (a : Nat) (j x : Int32) : Option AHp := match h[a]? with
  | some (.inl (0, n, .inl f)) => if j < 0 ∨ n ≤ j.toNatClampNeg then none else some (h.set a (.inl (0, n, .inl (upd f j.toNatClampNeg x))))
  | _ => none
def ldq (h : AHp) (a : Nat) (j : Int32) : Option Value := match h[a]? with
  | some (.inl (k, n, .inr f)) => if k = 0 ∨ 4 ≤ k ∨ j < 0 ∨ n ≤ j.toNatClampNeg then none else some (arf (f j.toNatClampNeg))
  | _ => none
def stq (h : AHp) (a : Nat) (j : Int32) (v : Nat) : Option AHp := match h[a]?, h[v]? with
  | some (.inl (k, n, .inr f)), some (.inr (c, _)) => if k = 0 ∨ 4 ≤ k ∨ ¬ c = kindC k ∨ j < 0 ∨ n ≤ j.toNatClampNeg then none else some (h.set a (.inl (k, n, .inr (va_up f j.toNatClampNeg (some v)))))
  | _, _ => none
def acp (h : AHp) (a0 : Nat) (sp : Int32) (a : Nat) (dp n : Int32) : Option AHp := match h[a0]?, h[a]? with
  | some (.inl (0, n0, .inl f)), some (.inl (0, n1, .inl g)) => if sp < 0 ∨ dp < 0 ∨ n < 0 ∨ n0 < sp.toNatClampNeg + n.toNatClampNeg ∨ n1 < dp.toNatClampNeg + n.toNatClampNeg then none else some (h.set a (.inl (0, n1, .inl (va_cpy f g sp.toNatClampNeg dp.toNatClampNeg n.toNatClampNeg))))
  | _, _ => none
def isO (h : AHp) (a c : Nat) : Prop := ∃ fs, h[a]? = some (.inr (c, fs))
section EVK
variable {sc : Scr} {y pc : Nat} {ls stk : List Value} {h : AHp} {post : Option Value → AHp → Prop}
theorem e_get {i r1 : Nat} {r2 : Int} {a : Nat} (hf : fet y pc = some (pc, .getfield i, r1, r2)) : Ev sc y pc ls (.ref a :: stk) h post = oB (fldv h a r1 r2.toNat) (fun v => Ev sc y (pc + 3) ls (v :: stk) h post) := by
  rw [e_x hf rfl]
  dsimp only [ex1, fldv]
  generalize h[a]? = o
  rcases o with _ | (⟨k, n, f⟩ | ⟨c, fs⟩)
  · rw [oB_none, oB_none]
  · (try dsimp only); rw [oB_none, oB_none]
  · dsimp only
    by_cases hc : c = r1
    · rw [if_pos hc, if_pos hc]
      cases hk : fs[r2.toNat]? with
      | none => rw [oB_none, oB_none]
      | some v => rw [oB_some, oB_some]
    · rw [if_neg hc, if_neg hc, oB_none, oB_none]
theorem e_put {i r1 : Nat} {r2 : Int} {a : Nat} {v : Value} (hf : fet y pc = some (pc, .putfield i, r1, r2)) : Ev sc y pc ls (v :: .ref a :: stk) h post = oB (stf h a r1 r2.toNat v) (fun h' => Ev sc y (pc + 3) ls stk h' post) := by
  rw [e_x hf rfl]
  dsimp only [ex1, stf]
  generalize h[a]? = o
  rcases o with _ | (⟨k, n, f⟩ | ⟨c, fs⟩)
  · rw [oB_none, oB_none]
  · (try dsimp only); rw [oB_none, oB_none]
  · dsimp only
    split
    · rw [oB_some, oB_some]
    · rw [oB_none, oB_none]
theorem e_ldi {r1 : Nat} {r2 : Int} {a : Nat} {j : Int32} (hf : fet y pc = some (pc, .iaload, r1, r2)) : Ev sc y pc ls (.int j :: .ref a :: stk) h post = oB (ldi h a j) (fun x => Ev sc y (pc + 1) ls (.int x :: stk) h post) := by
  rw [e_x hf rfl]
  dsimp only [ex1, ldi]
  generalize h[a]? = o
  rcases o with _ | (⟨k, n, f | f⟩ | ⟨c, fs⟩)
  · rw [oB_none, oB_none]
  · cases k with
    | zero =>
      show oB (if j < 0 ∨ n ≤ j.toNatClampNeg then none else some _) _ = oB (if j < 0 ∨ n ≤ j.toNatClampNeg then none else some _) _
      split
      · rw [oB_none, oB_none]
      · rw [oB_some, oB_some]
    | succ k => show oB none _ = oB none _; rw [oB_none, oB_none]
  · cases k <;> (show oB none _ = oB none _; rw [oB_none, oB_none])
  · (try dsimp only); rw [oB_none, oB_none]
theorem e_sti {r1 : Nat} {r2 : Int} {a : Nat} {j x : Int32} (hf : fet y pc = some (pc, .iastore, r1, r2)) : Ev sc y pc ls (.int x :: .int j :: .ref a :: stk) h post = oB (sti h a j x) (fun h' => Ev sc y (pc + 1) ls stk h' post) := by
  rw [e_x hf rfl]
  dsimp only [ex1, sti]
  generalize h[a]? = o
  rcases o with _ | (⟨k, n, f | f⟩ | ⟨c, fs⟩)
  · rw [oB_none, oB_none]
  · cases k with
    | zero =>
      show oB (if j < 0 ∨ n ≤ j.toNatClampNeg then none else some _) _ = oB (if j < 0 ∨ n ≤ j.toNatClampNeg then none else some _) _
      split
      · rw [oB_none, oB_none]
      · rw [oB_some, oB_some]
    | succ k => show oB none _ = oB none _; rw [oB_none, oB_none]
  · cases k <;> (show oB none _ = oB none _; rw [oB_none, oB_none])
  · (try dsimp only); rw [oB_none, oB_none]
theorem e_ldq {r1 : Nat} {r2 : Int} {a : Nat} {j : Int32} (hf : fet y pc = some (pc, .aaload, r1, r2)) : Ev sc y pc ls (.int j :: .ref a :: stk) h post = oB (ldq h a j) (fun v => Ev sc y (pc + 1) ls (v :: stk) h post) := by
  rw [e_x hf rfl]
  dsimp only [ex1, ldq]
  generalize h[a]? = o
  rcases o with _ | (⟨k, n, f | f⟩ | ⟨c, fs⟩)
  · rw [oB_none, oB_none]
  · (try dsimp only); rw [oB_none, oB_none]
  · dsimp only
    split
    · rw [oB_none, oB_none]
    · rw [oB_some, oB_some]
  · (try dsimp only); rw [oB_none, oB_none]
theorem e_stq {r1 : Nat} {r2 : Int} {a v : Nat} {j : Int32} (hf : fet y pc = some (pc, .aastore, r1, r2)) : Ev sc y pc ls (.ref v :: .int j :: .ref a :: stk) h post = oB (stq h a j v) (fun h' => Ev sc y (pc + 1) ls stk h' post) := by
  rw [e_x hf rfl]
  dsimp only [ex1, stq]
  generalize h[a]? = o
  generalize h[v]? = o2
  rcases o with _ | (⟨k, n, f | f⟩ | ⟨c, fs⟩)
  · rw [oB_none, oB_none]
  · rcases o2 with _ | (⟨k2, n2, f2⟩ | ⟨c2, fs2⟩) <;> ((try dsimp only); rw [oB_none, oB_none])
  · rcases o2 with _ | (⟨k2, n2, f2⟩ | ⟨c2, fs2⟩)
    · rw [oB_none, oB_none]
    · (try dsimp only); rw [oB_none, oB_none]
    · dsimp only
      split
      · rw [oB_none, oB_none]
      · rw [oB_some, oB_some]
  · (try dsimp only); rw [oB_none, oB_none]
theorem e_acp {i : Nat} {r2 : Int} {a a0 : Nat} {sp dp n : Int32} (hf : fet y pc = some (pc, .invokestatic i, 1000, r2)) (hs : stk.length ≤ 8 ∧ stk.all (fun v => v.category == 1) = true) : Ev sc y pc ls (.int n :: .int dp :: .ref a :: .int sp :: .ref a0 :: stk) h post = oB (acp h a0 sp a dp n) (fun h' => Ev sc y (pc + 3) ls stk h' post) := by
  rw [e_x hf rfl]
  dsimp only [ex1, acp]
  rw [if_pos (show 1000 = ACP from rfl)]
  have key : ∀ (n0 : Nat) (f : Nat → Int32) (n1 : Nat) (g : Nat → Int32), oB (if sp < 0 ∨ dp < 0 ∨ n < 0 ∨ n0 < sp.toNatClampNeg + n.toNatClampNeg ∨ n1 < dp.toNatClampNeg + n.toNatClampNeg ∨ ¬ (stk.length ≤ 8 ∧ stk.all (fun v => v.category == 1) = true) then none
        else some (pc + 3, ls, stk, h.set a (.inl (0, n1, .inl (va_cpy f g sp.toNatClampNeg dp.toNatClampNeg n.toNatClampNeg))))) (fun q : Cfg => Ev sc y q.1 q.2.1 q.2.2.1 q.2.2.2 post) = oB (if sp < 0 ∨ dp < 0 ∨ n < 0 ∨ n0 < sp.toNatClampNeg + n.toNatClampNeg ∨ n1 < dp.toNatClampNeg + n.toNatClampNeg then none else some (h.set a (.inl (0, n1, .inl (va_cpy f g sp.toNatClampNeg dp.toNatClampNeg n.toNatClampNeg))))) (fun h' => Ev sc y (pc + 3) ls stk h' post) := by
    intro n0 f n1 g
    by_cases hq : sp < 0 ∨ dp < 0 ∨ n < 0 ∨ n0 < sp.toNatClampNeg + n.toNatClampNeg ∨ n1 < dp.toNatClampNeg + n.toNatClampNeg
    · rw [if_pos hq, if_pos, oB_none, oB_none]
      rcases hq with q | q | q | q | q
      · exact Or.inl q
      · exact Or.inr (Or.inl q)
      · exact Or.inr (Or.inr (Or.inl q))
      · exact Or.inr (Or.inr (Or.inr (Or.inl q)))
      · exact Or.inr (Or.inr (Or.inr (Or.inr (Or.inl q))))
    · rw [if_neg hq, if_neg, oB_some, oB_some]
      rintro (q | q | q | q | q | q)
      · exact hq (Or.inl q)
      · exact hq (Or.inr (Or.inl q))
      · exact hq (Or.inr (Or.inr (Or.inl q)))
      · exact hq (Or.inr (Or.inr (Or.inr (Or.inl q))))
      · exact hq (Or.inr (Or.inr (Or.inr (Or.inr q))))
      · exact q hs
  generalize h[a0]? = o
  generalize h[a]? = o2
  rcases o with _ | (⟨k, n, f | f⟩ | ⟨c, fs⟩)
  · show oB none _ = oB none _; rw [oB_none, oB_none]
  · cases k with
    | zero =>
      rcases o2 with _ | (⟨k2, n2, f2 | f2⟩ | ⟨c2, fs2⟩)
      · show oB none _ = oB none _; rw [oB_none, oB_none]
      · cases k2 with
        | zero => exact key _ _ _ _
        | succ k2 => show oB none _ = oB none _; rw [oB_none, oB_none]
      · cases k2 <;> (show oB none _ = oB none _; rw [oB_none, oB_none])
      · show oB none _ = oB none _; rw [oB_none, oB_none]
    | succ k => show oB none _ = oB none _; rw [oB_none, oB_none]
  · cases k <;> (show oB none _ = oB none _; rw [oB_none, oB_none])
  · show oB none _ = oB none _; rw [oB_none, oB_none]
theorem e_if {c : ClassFile.Cond} {o : Int} {r1 : Nat} {r2 : Int} {x : Int32} (hf : fet y pc = some (pc, .ifCond c o, r1, r2)) : Ev sc y pc ls (.int x :: stk) h post = if cB c x 0 = true then Ev sc y (pcT pc o) ls stk h post else Ev sc y (pc + 3) ls stk h post := by
  rw [e_x hf rfl]
  dsimp only [ex1]
  rw [oB_some]
  dsimp only
  split <;> rfl
theorem e_icmp {c : ClassFile.Cond} {o : Int} {r1 : Nat} {r2 : Int} {x z : Int32} (hf : fet y pc = some (pc, .if_icmp c o, r1, r2)) : Ev sc y pc ls (.int z :: .int x :: stk) h post = if cB c x z = true then Ev sc y (pcT pc o) ls stk h post else Ev sc y (pc + 3) ls stk h post := by
  rw [e_x hf rfl]
  dsimp only [ex1]
  rw [oB_some]
  dsimp only
  split <;> rfl
theorem cb_eq (x z : Int32) : (cB .eq x z = true) ↔ (x = z) := by simp [cB]
theorem cb_ne (x z : Int32) : (cB .ne x z = true) ↔ (¬ x = z) := by simp [cB]
theorem cb_lt (x z : Int32) : (cB .lt x z = true) ↔ (x < z) := by simp [cB]
theorem cb_ge (x z : Int32) : (cB .ge x z = true) ↔ (z ≤ x) := by simp [cB]
theorem cb_gt (x z : Int32) : (cB .gt x z = true) ↔ (z < x) := by simp [cB]
theorem cb_le (x z : Int32) : (cB .le x z = true) ↔ (x ≤ z) := by simp [cB]
theorem e_if_eq {o : Int} {r1 : Nat} {r2 : Int} {x : Int32} (t : Nat) (hf : fet y pc = some (pc, .ifCond .eq o, r1, r2)) (ht : pcT pc o = t) : Ev sc y pc ls (.int x :: stk) h post = if x = 0 then Ev sc y t ls stk h post else Ev sc y (pc + 3) ls stk h post := by
  rw [e_if hf, ht]
  by_cases hq : x = 0
  · rw [if_pos hq, if_pos ((cb_eq _ _).mpr hq)]
  · rw [if_neg hq, if_neg (fun w => hq ((cb_eq _ _).mp w))]
theorem e_if_ne {o : Int} {r1 : Nat} {r2 : Int} {x : Int32} (t : Nat) (hf : fet y pc = some (pc, .ifCond .ne o, r1, r2)) (ht : pcT pc o = t) : Ev sc y pc ls (.int x :: stk) h post = if ¬ x = 0 then Ev sc y t ls stk h post else Ev sc y (pc + 3) ls stk h post := by
  rw [e_if hf, ht]
  by_cases hq : ¬ x = 0
  · rw [if_pos hq, if_pos ((cb_ne _ _).mpr hq)]
  · rw [if_neg hq, if_neg (fun w => hq ((cb_ne _ _).mp w))]
theorem e_if_lt {o : Int} {r1 : Nat} {r2 : Int} {x : Int32} (t : Nat) (hf : fet y pc = some (pc, .ifCond .lt o, r1, r2)) (ht : pcT pc o = t) : Ev sc y pc ls (.int x :: stk) h post = if x < 0 then Ev sc y t ls stk h post else Ev sc y (pc + 3) ls stk h post := by
  rw [e_if hf, ht]
  by_cases hq : x < 0
  · rw [if_pos hq, if_pos ((cb_lt _ _).mpr hq)]
  · rw [if_neg hq, if_neg (fun w => hq ((cb_lt _ _).mp w))]
theorem e_if_ge {o : Int} {r1 : Nat} {r2 : Int} {x : Int32} (t : Nat) (hf : fet y pc = some (pc, .ifCond .ge o, r1, r2)) (ht : pcT pc o = t) : Ev sc y pc ls (.int x :: stk) h post = if 0 ≤ x then Ev sc y t ls stk h post else Ev sc y (pc + 3) ls stk h post := by
  rw [e_if hf, ht]
  by_cases hq : 0 ≤ x
  · rw [if_pos hq, if_pos ((cb_ge _ _).mpr hq)]
  · rw [if_neg hq, if_neg (fun w => hq ((cb_ge _ _).mp w))]
theorem e_if_gt {o : Int} {r1 : Nat} {r2 : Int} {x : Int32} (t : Nat) (hf : fet y pc = some (pc, .ifCond .gt o, r1, r2)) (ht : pcT pc o = t) : Ev sc y pc ls (.int x :: stk) h post = if 0 < x then Ev sc y t ls stk h post else Ev sc y (pc + 3) ls stk h post := by
  rw [e_if hf, ht]
  by_cases hq : 0 < x
  · rw [if_pos hq, if_pos ((cb_gt _ _).mpr hq)]
  · rw [if_neg hq, if_neg (fun w => hq ((cb_gt _ _).mp w))]
theorem e_if_le {o : Int} {r1 : Nat} {r2 : Int} {x : Int32} (t : Nat) (hf : fet y pc = some (pc, .ifCond .le o, r1, r2)) (ht : pcT pc o = t) : Ev sc y pc ls (.int x :: stk) h post = if x ≤ 0 then Ev sc y t ls stk h post else Ev sc y (pc + 3) ls stk h post := by
  rw [e_if hf, ht]
  by_cases hq : x ≤ 0
  · rw [if_pos hq, if_pos ((cb_le _ _).mpr hq)]
  · rw [if_neg hq, if_neg (fun w => hq ((cb_le _ _).mp w))]
theorem e_icmp_eq {o : Int} {r1 : Nat} {r2 : Int} {x z : Int32} (t : Nat) (hf : fet y pc = some (pc, .if_icmp .eq o, r1, r2)) (ht : pcT pc o = t) : Ev sc y pc ls (.int z :: .int x :: stk) h post = if x = z then Ev sc y t ls stk h post else Ev sc y (pc + 3) ls stk h post := by
  rw [e_icmp hf, ht]
  by_cases hq : x = z
  · rw [if_pos hq, if_pos ((cb_eq _ _).mpr hq)]
  · rw [if_neg hq, if_neg (fun w => hq ((cb_eq _ _).mp w))]
theorem e_icmp_ne {o : Int} {r1 : Nat} {r2 : Int} {x z : Int32} (t : Nat) (hf : fet y pc = some (pc, .if_icmp .ne o, r1, r2)) (ht : pcT pc o = t) : Ev sc y pc ls (.int z :: .int x :: stk) h post = if ¬ x = z then Ev sc y t ls stk h post else Ev sc y (pc + 3) ls stk h post := by
  rw [e_icmp hf, ht]
  by_cases hq : ¬ x = z
  · rw [if_pos hq, if_pos ((cb_ne _ _).mpr hq)]
  · rw [if_neg hq, if_neg (fun w => hq ((cb_ne _ _).mp w))]
theorem e_icmp_lt {o : Int} {r1 : Nat} {r2 : Int} {x z : Int32} (t : Nat) (hf : fet y pc = some (pc, .if_icmp .lt o, r1, r2)) (ht : pcT pc o = t) : Ev sc y pc ls (.int z :: .int x :: stk) h post = if x < z then Ev sc y t ls stk h post else Ev sc y (pc + 3) ls stk h post := by
  rw [e_icmp hf, ht]
  by_cases hq : x < z
  · rw [if_pos hq, if_pos ((cb_lt _ _).mpr hq)]
  · rw [if_neg hq, if_neg (fun w => hq ((cb_lt _ _).mp w))]
theorem e_icmp_ge {o : Int} {r1 : Nat} {r2 : Int} {x z : Int32} (t : Nat) (hf : fet y pc = some (pc, .if_icmp .ge o, r1, r2)) (ht : pcT pc o = t) : Ev sc y pc ls (.int z :: .int x :: stk) h post = if z ≤ x then Ev sc y t ls stk h post else Ev sc y (pc + 3) ls stk h post := by
  rw [e_icmp hf, ht]
  by_cases hq : z ≤ x
  · rw [if_pos hq, if_pos ((cb_ge _ _).mpr hq)]
  · rw [if_neg hq, if_neg (fun w => hq ((cb_ge _ _).mp w))]
theorem e_icmp_gt {o : Int} {r1 : Nat} {r2 : Int} {x z : Int32} (t : Nat) (hf : fet y pc = some (pc, .if_icmp .gt o, r1, r2)) (ht : pcT pc o = t) : Ev sc y pc ls (.int z :: .int x :: stk) h post = if z < x then Ev sc y t ls stk h post else Ev sc y (pc + 3) ls stk h post := by
  rw [e_icmp hf, ht]
  by_cases hq : z < x
  · rw [if_pos hq, if_pos ((cb_gt _ _).mpr hq)]
  · rw [if_neg hq, if_neg (fun w => hq ((cb_gt _ _).mp w))]
theorem e_icmp_le {o : Int} {r1 : Nat} {r2 : Int} {x z : Int32} (t : Nat) (hf : fet y pc = some (pc, .if_icmp .le o, r1, r2)) (ht : pcT pc o = t) : Ev sc y pc ls (.int z :: .int x :: stk) h post = if x ≤ z then Ev sc y t ls stk h post else Ev sc y (pc + 3) ls stk h post := by
  rw [e_icmp hf, ht]
  by_cases hq : x ≤ z
  · rw [if_pos hq, if_pos ((cb_le _ _).mpr hq)]
  · rw [if_neg hq, if_neg (fun w => hq ((cb_le _ _).mp w))]
theorem e_retb {r1 : Nat} {r2 : Int} {x : Int32} (hf : fet y pc = some (pc, .ireturn, r1, r2)) (hb : mRet y = some .boolean) : Ev sc y pc ls [.int x] h post = ((x = 0 ∨ x = 1) ∧ post (some (.int x)) h) := by
  by_cases hx : x = 0 ∨ x = 1
  · rw [e_r (e := (pc, .ireturn, r1, r2)) (v := some (.int x)) hf rfl (by simp [zRet, hb, hx])]
    simp [hx]
  · simp only [hx, false_and]
    apply propext
    constructor
    · rintro ⟨n, rv, h', h1, h2⟩
      cases n with
      | zero => exact absurd h1 (by simp [run])
      | succ n =>
        rw [run_s, hf] at h1
        simp [kindI, zRet, hb, hx] at h1
    · exact fun q => q.elim
/-- virtual: the receiver's class is the callee's -/
theorem e_v {i z a : Nat} {r2 : Int} {as rest : List Value} (hf : fet y pc = some (pc, .invokevirtual i, z, r2)) (hs : stk = as.reverse ++ .ref a :: rest) (hn : as.length = mArgs z) (h8 : stk.length ≤ mArgs z + rB z) (hc : stk.all (fun v => v.category == 1) = true) (ho : isO h a (mCi z)) (hzc : ¬ z = NCELL) : Ev sc y pc ls stk h post = Call z (.ref a :: as) h (fun rv h' => Ev sc y (pc + 3) ls (rv.toList ++ rest) h' post) := by
  obtain ⟨fs, hv⟩ := ho
  refine e_c (e := (pc, .invokevirtual i, z, r2)) hf rfl ?_ hzc
  have e1 : stk.take (mArgs z) = as.reverse := by rw [hs, List.take_left' (by rw [List.length_reverse, hn])]
  have e2 : stk.drop (mArgs z) = .ref a :: rest := by rw [hs, List.drop_left' (by rw [List.length_reverse, hn])]
  have e3 : mArgs z ≤ stk.length := by rw [hs, List.length_append, List.length_reverse, hn]; omega
  unfold zCall
  rw [if_neg (fun q => q ⟨e3, h8, hc⟩)]
  dsimp only
  rw [e2, e1]
  dsimp only
  rw [hv]
  dsimp only
  rw [if_pos rfl, List.reverse_reverse]
theorem e_i {i z a : Nat} {r2 : Int} {as rest : List Value} (hf : fet y pc = some (pc, .invokespecial i, z, r2)) (hz : kindI (.invokespecial i) z = 2) (hs : stk = as.reverse ++ .ref a :: rest) (hn : as.length = mArgs z) (h8 : stk.length ≤ mArgs z + rB z) (hc : stk.all (fun v => v.category == 1) = true) (hzc : ¬ z = NCELL) : Ev sc y pc ls stk h post = Call z (.ref a :: as) h (fun rv h' => Ev sc y (pc + 3) ls (rv.toList ++ rest) h' post) := by
  refine e_c (e := (pc, .invokespecial i, z, r2)) hf hz ?_ hzc
  have e1 : stk.take (mArgs z) = as.reverse := by rw [hs, List.take_left' (by rw [List.length_reverse, hn])]
  have e2 : stk.drop (mArgs z) = .ref a :: rest := by rw [hs, List.drop_left' (by rw [List.length_reverse, hn])]
  have e3 : mArgs z ≤ stk.length := by rw [hs, List.length_append, List.length_reverse, hn]; omega
  unfold zCall
  rw [if_neg (fun q => q ⟨e3, h8, hc⟩)]
  dsimp only
  rw [e2, e1]
  dsimp only
  rw [List.reverse_reverse]
theorem e_s {i z : Nat} {r2 : Int} {as rest : List Value} (hf : fet y pc = some (pc, .invokestatic i, z, r2)) (hz : kindI (.invokestatic i) z = 2) (hs : stk = as.reverse ++ rest) (hn : as.length = mArgs z) (h8 : stk.length ≤ mArgs z + rB z) (hc : stk.all (fun v => v.category == 1) = true) (hzc : ¬ z = NCELL) : Ev sc y pc ls stk h post = Call z as h (fun rv h' => Ev sc y (pc + 3) ls (rv.toList ++ rest) h' post) := by
  refine e_c (e := (pc, .invokestatic i, z, r2)) hf hz ?_ hzc
  have e1 : stk.take (mArgs z) = as.reverse := by rw [hs, List.take_left' (by rw [List.length_reverse, hn])]
  have e2 : stk.drop (mArgs z) = rest := by rw [hs, List.drop_left' (by rw [List.length_reverse, hn])]
  have e3 : mArgs z ≤ stk.length := by rw [hs, List.length_append, List.length_reverse, hn]; omega
  unfold zCall
  rw [if_neg (fun q => q ⟨e3, h8, hc⟩)]
  dsimp only
  rw [e2, e1, List.reverse_reverse]
theorem e_sc {i z : Nat} {r2 : Int} {as rest : List Value} (hf : fet y pc = some (pc, .invokestatic i, z, r2)) (hz : kindI (.invokestatic i) z = 2) (hs : stk = as.reverse ++ rest) (hn : as.length = mArgs z) (h8 : stk.length ≤ mArgs z + rB z) (hc : stk.all (fun v => v.category == 1) = true) (hzc : z = NCELL) : Ev sc y pc ls stk h post = Ev sc z 0 (ent0 z as) [] h (fun rv h' => Ev sc y (pc + 3) ls (rv.toList ++ rest) h' post) := by
  have key := e_cc (sc := sc) (y := y) (pc := pc) (ls := ls) (stk := stk) (h := h) (post := post) (e := (pc, .invokestatic i, z, r2)) (as := as) (rest := rest) hf hz ?_
  · rw [key]
    dsimp only
    have e9 : scOf z sc = sc := by rw [hzc]; exact scOf_eq
    rw [e9]
  have e1 : stk.take (mArgs z) = as.reverse := by rw [hs, List.take_left' (by rw [List.length_reverse, hn])]
  have e2 : stk.drop (mArgs z) = rest := by rw [hs, List.drop_left' (by rw [List.length_reverse, hn])]
  have e3 : mArgs z ≤ stk.length := by rw [hs, List.length_append, List.length_reverse, hn]; omega
  unfold zCall
  rw [if_neg (fun q => q ⟨e3, h8, hc⟩)]
  dsimp only
  rw [e2, e1, List.reverse_reverse]
end EVK
theorem tsw_d {sc : Scr} {ls stk : List Value} {h : AHp} {pc r1 t : Nat} {r2 d lo hi : Int} {os : Array Int} {x : Int32} (hx : x.toInt < lo ∨ hi < x.toInt) (ht : pcT pc d = t) : ex1 sc (pc, .tableswitch d lo hi os, r1, r2) ls (.int x :: stk) h = some (t, ls, stk, h) := by
  dsimp only [ex1]
  rw [if_pos (by simp [swOk, hx])]
  simp [swT, hx, ht]
theorem lsw_d {sc : Scr} {ls stk : List Value} {h : AHp} {pc r1 t : Nat} {r2 d : Int} {ps : Array (Int × Int)} {x : Int32} (ht : pcT pc (Op.lookupswitch.offset ps.toList d x.toInt) = t) : ex1 sc (pc, .lookupswitch d ps, r1, r2) ls (.int x :: stk) h = some (t, ls, stk, h) := by
  dsimp only [ex1]
  rw [ht]
