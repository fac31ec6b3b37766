/-! The class's outer object: the ten changes. -/
/-- a change settled: the state and the history behind it -/
def sS (S : St) (r : Int32 × St) : St := if isE r.1 = true then S else r.2
def sH (S : St) (H : List St) (r : Int32 × St) : List St := if isE r.1 = true then H else pushH H S
section MU
variable {h h' : AHp} {S T : St} {H : List St} {tn a : Nat} {tc : Nat → Int32}
theorem HPT.is (hP : HPT h a S H T tn tc) : isO h 0 4 := by
  obtain ⟨q, C, K, F, g, h0, -⟩ := hP
  exact h0.1.is
theorem HPT.op (hP : HPT h a S H T tn tc) {T' : St} (hS : HS h' a T') (r : Fr a (a + 69) h h') : HPT h' a S H T' tn tc := by
  have hb := hP.st
  have hP' := hP
  obtain ⟨q, C, K, F, g, h0, h1, -⟩ := hP
  exact hP'.run hS (FrT.s r) (h0.2.2.2.2.1.fr r (by omega)) h1
theorem HP.is (hP : HP h S H tn tc) : isO h 0 4 := by
  obtain ⟨a, T, hT⟩ := hP
  exact hT.is
theorem p_writer (hP : HP h S H tn tc) (x : Int32) : Call 43 [.ref 0, .int x] h (fun rv h' => rv = some (.int (aWriter S x).1) ∧ HP h' (sS S (aWriter S x)) (sH S H (aWriter S x)) tn tc ∧ Fr 0 423 h h') := by
  simp only [s43_0, s43_1, s43_2, s43_e, hP.is]
  refine Call.mono (c_fresh hP) ?_
  rintro rv h1 ⟨a, rfl, k1, r1⟩
  have hb := k1.st
  simp only [Option.toList_some, List.cons_append, List.nil_append, s43_5, s43_6, hb.1.f]
  refine Call.mono (c_bringWriter hb.1 x) ?_
  rintro rv h2 ⟨rfl, k2, r2⟩
  have k3 := k1.op k2 r2
  simp only [Option.toList_some, List.cons_append, List.nil_append, s43_9, k3.is]
  refine Call.mono (c_settle k3 _) ?_
  rintro rv h3 ⟨rfl, k4, r4⟩
  simp only [Option.toList_some, List.cons_append, List.nil_append, s43_12]
  exact ⟨trivial, k4, (r1.tr (r2.up (by omega) (by omega))).tr r4⟩
theorem p_add (hP : HP h S H tn tc) (x y : Int32) : Call 44 [.ref 0, .int x, .int y] h (fun rv h' => rv = some (.int (aAdd S x y).1) ∧ HP h' (sS S (aAdd S x y)) (sH S H (aAdd S x y)) tn tc ∧ Fr 0 423 h h') := by
  simp only [s44_0, s44_1, s44_2, s44_e, hP.is]
  refine Call.mono (c_fresh hP) ?_
  rintro rv h1 ⟨a, rfl, k1, r1⟩
  have hb := k1.st
  simp only [Option.toList_some, List.cons_append, List.nil_append, s44_5, s44_6, s44_7, hb.1.f]
  refine Call.mono (c_addAmount hb.1 x y) ?_
  rintro rv h2 ⟨rfl, k2, r2⟩
  have k3 := k1.op k2 r2
  simp only [Option.toList_some, List.cons_append, List.nil_append, s44_10, k3.is]
  refine Call.mono (c_settle k3 _) ?_
  rintro rv h3 ⟨rfl, k4, r4⟩
  simp only [Option.toList_some, List.cons_append, List.nil_append, s44_13]
  exact ⟨trivial, k4, (r1.tr (r2.up (by omega) (by omega))).tr r4⟩
theorem p_take (hP : HP h S H tn tc) (x y : Int32) : Call 45 [.ref 0, .int x, .int y] h (fun rv h' => rv = some (.int (aTake S x y).1) ∧ HP h' (sS S (aTake S x y)) (sH S H (aTake S x y)) tn tc ∧ Fr 0 423 h h') := by
  simp only [s45_0, s45_1, s45_2, s45_e, hP.is]
  refine Call.mono (c_fresh hP) ?_
  rintro rv h1 ⟨a, rfl, k1, r1⟩
  have hb := k1.st
  simp only [Option.toList_some, List.cons_append, List.nil_append, s45_5, s45_6, s45_7, hb.1.f]
  refine Call.mono (c_takeAmount hb.1 x y) ?_
  rintro rv h2 ⟨rfl, k2, r2⟩
  have k3 := k1.op k2 r2
  simp only [Option.toList_some, List.cons_append, List.nil_append, s45_10, k3.is]
  refine Call.mono (c_settle k3 _) ?_
  rintro rv h3 ⟨rfl, k4, r4⟩
  simp only [Option.toList_some, List.cons_append, List.nil_append, s45_13]
  exact ⟨trivial, k4, (r1.tr (r2.up (by omega) (by omega))).tr r4⟩
theorem p_retire (hP : HP h S H tn tc) (x y : Int32) : Call 46 [.ref 0, .int x, .int y] h (fun rv h' => rv = some (.int (aRetire S x y).1) ∧ HP h' (sS S (aRetire S x y)) (sH S H (aRetire S x y)) tn tc ∧ Fr 0 423 h h') := by
  simp only [s46_0, s46_1, s46_2, s46_e, hP.is]
  refine Call.mono (c_fresh hP) ?_
  rintro rv h1 ⟨a, rfl, k1, r1⟩
  have hb := k1.st
  simp only [Option.toList_some, List.cons_append, List.nil_append, s46_5, s46_6, s46_7, hb.1.f]
  refine Call.mono (c_retireWriter hb.1 x y) ?_
  rintro rv h2 ⟨rfl, k2, r2⟩
  have k3 := k1.op k2 r2
  simp only [Option.toList_some, List.cons_append, List.nil_append, s46_10, k3.is]
  refine Call.mono (c_settle k3 _) ?_
  rintro rv h3 ⟨rfl, k4, r4⟩
  simp only [Option.toList_some, List.cons_append, List.nil_append, s46_13]
  exact ⟨trivial, k4, (r1.tr (r2.up (by omega) (by omega))).tr r4⟩
theorem p_move (hP : HP h S H tn tc) (x y : Int32) : Call 47 [.ref 0, .int x, .int y] h (fun rv h' => rv = some (.int (aMove S x y).1) ∧ HP h' (sS S (aMove S x y)) (sH S H (aMove S x y)) tn tc ∧ Fr 0 423 h h') := by
  simp only [s47_0, s47_1, s47_2, s47_e, hP.is]
  refine Call.mono (c_fresh hP) ?_
  rintro rv h1 ⟨a, rfl, k1, r1⟩
  have hb := k1.st
  simp only [Option.toList_some, List.cons_append, List.nil_append, s47_5, s47_6, s47_7, hb.1.f]
  refine Call.mono (c_moveWriter hb.1 x y) ?_
  rintro rv h2 ⟨rfl, k2, r2⟩
  have k3 := k1.op k2 r2
  simp only [Option.toList_some, List.cons_append, List.nil_append, s47_10, k3.is]
  refine Call.mono (c_settle k3 _) ?_
  rintro rv h3 ⟨rfl, k4, r4⟩
  simp only [Option.toList_some, List.cons_append, List.nil_append, s47_13]
  exact ⟨trivial, k4, (r1.tr (r2.up (by omega) (by omega))).tr r4⟩
theorem p_view (hP : HP h S H tn tc) (x : Int32) : Call 48 [.ref 0, .int x] h (fun rv h' => rv = some (.int (aView S x).1) ∧ HP h' (sS S (aView S x)) (sH S H (aView S x)) tn tc ∧ Fr 0 423 h h') := by
  simp only [s48_0, s48_1, s48_2, s48_e, hP.is]
  refine Call.mono (c_fresh hP) ?_
  rintro rv h1 ⟨a, rfl, k1, r1⟩
  have hb := k1.st
  simp only [Option.toList_some, List.cons_append, List.nil_append, s48_5, s48_6, hb.1.f]
  refine Call.mono (c_copyView hb.1 x) ?_
  rintro rv h2 ⟨rfl, k2, r2⟩
  have k3 := k1.op k2 r2
  simp only [Option.toList_some, List.cons_append, List.nil_append, s48_9, k3.is]
  refine Call.mono (c_settle k3 _) ?_
  rintro rv h3 ⟨rfl, k4, r4⟩
  simp only [Option.toList_some, List.cons_append, List.nil_append, s48_12]
  exact ⟨trivial, k4, (r1.tr (r2.up (by omega) (by omega))).tr r4⟩
theorem p_drop (hP : HP h S H tn tc) (x : Int32) : Call 49 [.ref 0, .int x] h (fun rv h' => rv = some (.int (aDrop S x).1) ∧ HP h' (sS S (aDrop S x)) (sH S H (aDrop S x)) tn tc ∧ Fr 0 423 h h') := by
  simp only [s49_0, s49_1, s49_2, s49_e, hP.is]
  refine Call.mono (c_fresh hP) ?_
  rintro rv h1 ⟨a, rfl, k1, r1⟩
  have hb := k1.st
  simp only [Option.toList_some, List.cons_append, List.nil_append, s49_5, s49_6, hb.1.f]
  refine Call.mono (c_dropView hb.1 x) ?_
  rintro rv h2 ⟨rfl, k2, r2⟩
  have k3 := k1.op k2 r2
  simp only [Option.toList_some, List.cons_append, List.nil_append, s49_9, k3.is]
  refine Call.mono (c_settle k3 _) ?_
  rintro rv h3 ⟨rfl, k4, r4⟩
  simp only [Option.toList_some, List.cons_append, List.nil_append, s49_12]
  exact ⟨trivial, k4, (r1.tr (r2.up (by omega) (by omega))).tr r4⟩
theorem p_merge (hP : HP h S H tn tc) (x y : Int32) : Call 50 [.ref 0, .int x, .int y] h (fun rv h' => rv = some (.int (aMerge S x y).1) ∧ HP h' (sS S (aMerge S x y)) (sH S H (aMerge S x y)) tn tc ∧ Fr 0 423 h h') := by
  simp only [s50_0, s50_1, s50_2, s50_e, hP.is]
  refine Call.mono (c_fresh hP) ?_
  rintro rv h1 ⟨a, rfl, k1, r1⟩
  have hb := k1.st
  simp only [Option.toList_some, List.cons_append, List.nil_append, s50_5, s50_6, s50_7, hb.1.f]
  refine Call.mono (c_mergeViews hb.1 x y) ?_
  rintro rv h2 ⟨rfl, k2, r2⟩
  have k3 := k1.op k2 r2
  simp only [Option.toList_some, List.cons_append, List.nil_append, s50_10, k3.is]
  refine Call.mono (c_settle k3 _) ?_
  rintro rv h3 ⟨rfl, k4, r4⟩
  simp only [Option.toList_some, List.cons_append, List.nil_append, s50_13]
  exact ⟨trivial, k4, (r1.tr (r2.up (by omega) (by omega))).tr r4⟩
theorem p_post (hP : HP h S H tn tc) (x y z : Int32) : Call 51 [.ref 0, .int x, .int y, .int z] h (fun rv h' => rv = some (.int (aPost S x y z).1) ∧ HP h' (sS S (aPost S x y z)) (sH S H (aPost S x y z)) tn tc ∧ Fr 0 423 h h') := by
  simp only [s51_0, s51_1, s51_2, s51_e, hP.is]
  refine Call.mono (c_fresh hP) ?_
  rintro rv h1 ⟨a, rfl, k1, r1⟩
  have hb := k1.st
  simp only [Option.toList_some, List.cons_append, List.nil_append, s51_5, s51_6, s51_7, s51_8, hb.1.f]
  refine Call.mono (c_postLetter hb.1 x y z) ?_
  rintro rv h2 ⟨rfl, k2, r2⟩
  have k3 := k1.op k2 r2
  simp only [Option.toList_some, List.cons_append, List.nil_append, s51_11, k3.is]
  refine Call.mono (c_settle k3 _) ?_
  rintro rv h3 ⟨rfl, k4, r4⟩
  simp only [Option.toList_some, List.cons_append, List.nil_append, s51_14]
  exact ⟨trivial, k4, (r1.tr (r2.up (by omega) (by omega))).tr r4⟩
theorem p_tick (hP : HP h S H tn tc) (x : Int32) : Call 52 [.ref 0, .int x] h (fun rv h' => rv = some (.int (aTick S x).1) ∧ HP h' (sS S (aTick S x)) (sH S H (aTick S x)) tn tc ∧ Fr 0 423 h h') := by
  simp only [s52_0, s52_1, s52_2, s52_e, hP.is]
  refine Call.mono (c_fresh hP) ?_
  rintro rv h1 ⟨a, rfl, k1, r1⟩
  have hb := k1.st
  simp only [Option.toList_some, List.cons_append, List.nil_append, s52_5, s52_6, hb.1.f]
  refine Call.mono (c_passTicks hb.1 x) ?_
  rintro rv h2 ⟨rfl, k2, r2⟩
  have k3 := k1.op k2 r2
  simp only [Option.toList_some, List.cons_append, List.nil_append, s52_9, k3.is]
  refine Call.mono (c_settle k3 _) ?_
  rintro rv h3 ⟨rfl, k4, r4⟩
  simp only [Option.toList_some, List.cons_append, List.nil_append, s52_12]
  exact ⟨trivial, k4, (r1.tr (r2.up (by omega) (by omega))).tr r4⟩
/-- the run of the present text in a copy of the present state -/
def run0 (S : St) (tn : Nat) (tc : Nat → Int32) : Option (Nat × Int32 × Int32) × Nat × St := rn tc tn 60 0 0 S
def aPlay (S : St) (tn : Nat) (tc : Nat → Int32) : Int32 × St := (match (run0 S tn tc).1 with
  | none => nI (run0 S tn tc).2.1
  | some _ => eN, (run0 S tn tc).2.2)
def aFault (S : St) (tn : Nat) (tc : Nat → Int32) (x : Int32) : Int32 := if ¬ (0 ≤ x ∧ x ≤ 2) then eI else match (run0 S tn tc).1 with
  | none => eF
  | some q => if x = 0 then nI q.1 else if x = 1 then q.2.1 else q.2.2
theorem nI_m1 {a : Nat} (ha : a < 2147483648) : ¬ nI a = -1 := by
  intro q
  have := congrArg Int32.toInt q
  rw [nI_toInt ha] at this
  have e : (-1 : Int32).toInt = -1 := by decide
  omega
theorem rn_at {c : Nat → Int32} {n : Nat} : ∀ d p k (S : St) q, (rn c n d p k S).1 = some q → q.1 < n := by
  intro d
  induction d with
  | zero => intro p k S q h; cases h
  | succ d ih =>
    intro p k S q h
    unfold rn at h
    by_cases c1 : p < n
    · rw [if_pos c1] at h
      by_cases c2 : (rdO c n p).1 = true
      · rw [if_pos c2] at h
        by_cases c3 : isE (aOrd S (c p) (fun i => (rdO c n p).2.2.getD i 0)).1 = true
        · rw [if_pos c3] at h
          cases h
          exact c1
        · rw [if_neg c3] at h
          exact ih _ _ _ q h
      · rw [if_neg c2] at h
        cases h
        exact c1
    · rw [if_neg c1] at h
      cases h
end MU
