/-! The class's outer object: the ten changes. -/
/-- a change settled: the state and the history behind it -/
def sS (S : St) (r : Int32 × St) : St := if isE r.1 = true then S else r.2
def sH (S : St) (H : List St) (r : Int32 × St) : List St := if isE r.1 = true then H else pushH H S
section MU
variable {h h' : AHp} {S T : St} {H : List St} {tn a : Nat} {tc : Nat → Int32}
theorem HPT.is (hP : HPT h a S H T tn tc) : isO h 0 4 := by
  obtain ⟨q, C, K, F, g, h0, -⟩ := hP
  exact h0.1.is
theorem HPT.op (hP : HPT h a S H T tn tc) {T' : St} (hS : HS h' a T') (r : Fr a (a + 69) h h') : HPT h' a S H T' tn tc := by
  have hb := hP.st
  have hP' := hP
  obtain ⟨q, C, K, F, g, h0, h1, -⟩ := hP
  exact hP'.run hS (FrT.s r) (h0.2.2.2.2.1.fr r (by omega)) h1
theorem HP.is (hP : HP h S H tn tc) : isO h 0 4 := by
  obtain ⟨a, T, hT⟩ := hP
  exact hT.is
theorem p_writer (hP : HP h S H tn tc) (x : Int32) : Call 55 [.ref 0, .int x] h (fun rv h' => rv = some (.int (aWriter S x).1) ∧ HP h' (sS S (aWriter S x)) (sH S H (aWriter S x)) tn tc ∧ Fr 0 423 h h') := by
  simp only [s55_0, s55_1, s55_2, s55_e, hP.is]
  refine Call.mono (c_fresh hP) ?_
  rintro rv h1 ⟨a, rfl, k1, r1⟩
  have hb := k1.st
  simp only [Option.toList_some, List.cons_append, List.nil_append, s55_5, s55_6, hb.1.f]
  refine Call.mono (c_bringWriter hb.1 x) ?_
  rintro rv h2 ⟨rfl, k2, r2⟩
  have k3 := k1.op k2 r2
  simp only [Option.toList_some, List.cons_append, List.nil_append, s55_9, k3.is]
  refine Call.mono (c_settle k3 _) ?_
  rintro rv h3 ⟨rfl, k4, r4⟩
  simp only [Option.toList_some, List.cons_append, List.nil_append, s55_12]
  exact ⟨trivial, k4, (r1.tr (r2.up (by omega) (by omega))).tr r4⟩
theorem p_add (hP : HP h S H tn tc) (x y : Int32) : Call 56 [.ref 0, .int x, .int y] h (fun rv h' => rv = some (.int (aAdd S x y).1) ∧ HP h' (sS S (aAdd S x y)) (sH S H (aAdd S x y)) tn tc ∧ Fr 0 423 h h') := by
  simp only [s56_0, s56_1, s56_2, s56_e, hP.is]
  refine Call.mono (c_fresh hP) ?_
  rintro rv h1 ⟨a, rfl, k1, r1⟩
  have hb := k1.st
  simp only [Option.toList_some, List.cons_append, List.nil_append, s56_5, s56_6, s56_7, hb.1.f]
  refine Call.mono (c_addAmount hb.1 x y) ?_
  rintro rv h2 ⟨rfl, k2, r2⟩
  have k3 := k1.op k2 r2
  simp only [Option.toList_some, List.cons_append, List.nil_append, s56_10, k3.is]
  refine Call.mono (c_settle k3 _) ?_
  rintro rv h3 ⟨rfl, k4, r4⟩
  simp only [Option.toList_some, List.cons_append, List.nil_append, s56_13]
  exact ⟨trivial, k4, (r1.tr (r2.up (by omega) (by omega))).tr r4⟩
theorem p_take (hP : HP h S H tn tc) (x y : Int32) : Call 57 [.ref 0, .int x, .int y] h (fun rv h' => rv = some (.int (aTake S x y).1) ∧ HP h' (sS S (aTake S x y)) (sH S H (aTake S x y)) tn tc ∧ Fr 0 423 h h') := by
  simp only [s57_0, s57_1, s57_2, s57_e, hP.is]
  refine Call.mono (c_fresh hP) ?_
  rintro rv h1 ⟨a, rfl, k1, r1⟩
  have hb := k1.st
  simp only [Option.toList_some, List.cons_append, List.nil_append, s57_5, s57_6, s57_7, hb.1.f]
  refine Call.mono (c_takeAmount hb.1 x y) ?_
  rintro rv h2 ⟨rfl, k2, r2⟩
  have k3 := k1.op k2 r2
  simp only [Option.toList_some, List.cons_append, List.nil_append, s57_10, k3.is]
  refine Call.mono (c_settle k3 _) ?_
  rintro rv h3 ⟨rfl, k4, r4⟩
  simp only [Option.toList_some, List.cons_append, List.nil_append, s57_13]
  exact ⟨trivial, k4, (r1.tr (r2.up (by omega) (by omega))).tr r4⟩
theorem p_retire (hP : HP h S H tn tc) (x y : Int32) : Call 58 [.ref 0, .int x, .int y] h (fun rv h' => rv = some (.int (aRetire S x y).1) ∧ HP h' (sS S (aRetire S x y)) (sH S H (aRetire S x y)) tn tc ∧ Fr 0 423 h h') := by
  simp only [s58_0, s58_1, s58_2, s58_e, hP.is]
  refine Call.mono (c_fresh hP) ?_
  rintro rv h1 ⟨a, rfl, k1, r1⟩
  have hb := k1.st
  simp only [Option.toList_some, List.cons_append, List.nil_append, s58_5, s58_6, s58_7, hb.1.f]
  refine Call.mono (c_retireWriter hb.1 x y) ?_
  rintro rv h2 ⟨rfl, k2, r2⟩
  have k3 := k1.op k2 r2
  simp only [Option.toList_some, List.cons_append, List.nil_append, s58_10, k3.is]
  refine Call.mono (c_settle k3 _) ?_
  rintro rv h3 ⟨rfl, k4, r4⟩
  simp only [Option.toList_some, List.cons_append, List.nil_append, s58_13]
  exact ⟨trivial, k4, (r1.tr (r2.up (by omega) (by omega))).tr r4⟩
theorem p_move (hP : HP h S H tn tc) (x y : Int32) : Call 59 [.ref 0, .int x, .int y] h (fun rv h' => rv = some (.int (aMove S x y).1) ∧ HP h' (sS S (aMove S x y)) (sH S H (aMove S x y)) tn tc ∧ Fr 0 423 h h') := by
  simp only [s59_0, s59_1, s59_2, s59_e, hP.is]
  refine Call.mono (c_fresh hP) ?_
  rintro rv h1 ⟨a, rfl, k1, r1⟩
  have hb := k1.st
  simp only [Option.toList_some, List.cons_append, List.nil_append, s59_5, s59_6, s59_7, hb.1.f]
  refine Call.mono (c_moveWriter hb.1 x y) ?_
  rintro rv h2 ⟨rfl, k2, r2⟩
  have k3 := k1.op k2 r2
  simp only [Option.toList_some, List.cons_append, List.nil_append, s59_10, k3.is]
  refine Call.mono (c_settle k3 _) ?_
  rintro rv h3 ⟨rfl, k4, r4⟩
  simp only [Option.toList_some, List.cons_append, List.nil_append, s59_13]
  exact ⟨trivial, k4, (r1.tr (r2.up (by omega) (by omega))).tr r4⟩
theorem p_view (hP : HP h S H tn tc) (x : Int32) : Call 60 [.ref 0, .int x] h (fun rv h' => rv = some (.int (aView S x).1) ∧ HP h' (sS S (aView S x)) (sH S H (aView S x)) tn tc ∧ Fr 0 423 h h') := by
  simp only [s60_0, s60_1, s60_2, s60_e, hP.is]
  refine Call.mono (c_fresh hP) ?_
  rintro rv h1 ⟨a, rfl, k1, r1⟩
  have hb := k1.st
  simp only [Option.toList_some, List.cons_append, List.nil_append, s60_5, s60_6, hb.1.f]
  refine Call.mono (c_copyView hb.1 x) ?_
  rintro rv h2 ⟨rfl, k2, r2⟩
  have k3 := k1.op k2 r2
  simp only [Option.toList_some, List.cons_append, List.nil_append, s60_9, k3.is]
  refine Call.mono (c_settle k3 _) ?_
  rintro rv h3 ⟨rfl, k4, r4⟩
  simp only [Option.toList_some, List.cons_append, List.nil_append, s60_12]
  exact ⟨trivial, k4, (r1.tr (r2.up (by omega) (by omega))).tr r4⟩
theorem p_drop (hP : HP h S H tn tc) (x : Int32) : Call 61 [.ref 0, .int x] h (fun rv h' => rv = some (.int (aDrop S x).1) ∧ HP h' (sS S (aDrop S x)) (sH S H (aDrop S x)) tn tc ∧ Fr 0 423 h h') := by
  simp only [s61_0, s61_1, s61_2, s61_e, hP.is]
  refine Call.mono (c_fresh hP) ?_
  rintro rv h1 ⟨a, rfl, k1, r1⟩
  have hb := k1.st
  simp only [Option.toList_some, List.cons_append, List.nil_append, s61_5, s61_6, hb.1.f]
  refine Call.mono (c_dropView hb.1 x) ?_
  rintro rv h2 ⟨rfl, k2, r2⟩
  have k3 := k1.op k2 r2
  simp only [Option.toList_some, List.cons_append, List.nil_append, s61_9, k3.is]
  refine Call.mono (c_settle k3 _) ?_
  rintro rv h3 ⟨rfl, k4, r4⟩
  simp only [Option.toList_some, List.cons_append, List.nil_append, s61_12]
  exact ⟨trivial, k4, (r1.tr (r2.up (by omega) (by omega))).tr r4⟩
theorem p_merge (hP : HP h S H tn tc) (x y : Int32) : Call 62 [.ref 0, .int x, .int y] h (fun rv h' => rv = some (.int (aMerge S x y).1) ∧ HP h' (sS S (aMerge S x y)) (sH S H (aMerge S x y)) tn tc ∧ Fr 0 423 h h') := by
  simp only [s62_0, s62_1, s62_2, s62_e, hP.is]
  refine Call.mono (c_fresh hP) ?_
  rintro rv h1 ⟨a, rfl, k1, r1⟩
  have hb := k1.st
  simp only [Option.toList_some, List.cons_append, List.nil_append, s62_5, s62_6, s62_7, hb.1.f]
  refine Call.mono (c_mergeViews hb.1 x y) ?_
  rintro rv h2 ⟨rfl, k2, r2⟩
  have k3 := k1.op k2 r2
  simp only [Option.toList_some, List.cons_append, List.nil_append, s62_10, k3.is]
  refine Call.mono (c_settle k3 _) ?_
  rintro rv h3 ⟨rfl, k4, r4⟩
  simp only [Option.toList_some, List.cons_append, List.nil_append, s62_13]
  exact ⟨trivial, k4, (r1.tr (r2.up (by omega) (by omega))).tr r4⟩
theorem p_post (hP : HP h S H tn tc) (x y z : Int32) : Call 63 [.ref 0, .int x, .int y, .int z] h (fun rv h' => rv = some (.int (aPost S x y z).1) ∧ HP h' (sS S (aPost S x y z)) (sH S H (aPost S x y z)) tn tc ∧ Fr 0 423 h h') := by
  simp only [s63_0, s63_1, s63_2, s63_e, hP.is]
  refine Call.mono (c_fresh hP) ?_
  rintro rv h1 ⟨a, rfl, k1, r1⟩
  have hb := k1.st
  simp only [Option.toList_some, List.cons_append, List.nil_append, s63_5, s63_6, s63_7, s63_8, hb.1.f]
  refine Call.mono (c_postLetter hb.1 x y z) ?_
  rintro rv h2 ⟨rfl, k2, r2⟩
  have k3 := k1.op k2 r2
  simp only [Option.toList_some, List.cons_append, List.nil_append, s63_11, k3.is]
  refine Call.mono (c_settle k3 _) ?_
  rintro rv h3 ⟨rfl, k4, r4⟩
  simp only [Option.toList_some, List.cons_append, List.nil_append, s63_14]
  exact ⟨trivial, k4, (r1.tr (r2.up (by omega) (by omega))).tr r4⟩
theorem p_tick (hP : HP h S H tn tc) (x : Int32) : Call 64 [.ref 0, .int x] h (fun rv h' => rv = some (.int (aTick S x).1) ∧ HP h' (sS S (aTick S x)) (sH S H (aTick S x)) tn tc ∧ Fr 0 423 h h') := by
  simp only [s64_0, s64_1, s64_2, s64_e, hP.is]
  refine Call.mono (c_fresh hP) ?_
  rintro rv h1 ⟨a, rfl, k1, r1⟩
  have hb := k1.st
  simp only [Option.toList_some, List.cons_append, List.nil_append, s64_5, s64_6, hb.1.f]
  refine Call.mono (c_passTicks hb.1 x) ?_
  rintro rv h2 ⟨rfl, k2, r2⟩
  have k3 := k1.op k2 r2
  simp only [Option.toList_some, List.cons_append, List.nil_append, s64_9, k3.is]
  refine Call.mono (c_settle k3 _) ?_
  rintro rv h3 ⟨rfl, k4, r4⟩
  simp only [Option.toList_some, List.cons_append, List.nil_append, s64_12]
  exact ⟨trivial, k4, (r1.tr (r2.up (by omega) (by omega))).tr r4⟩
theorem p_rounds (hP : HP h S H tn tc) : Call 72 [.ref 0] h (fun rv h' => rv = some (.int (nI (mu 1000 S (nxt S.th 5) 0))) ∧ HP h' S H tn tc ∧ Fr 0 423 h h') := by
  simp only [s72_0, s72_1, s72_e, hP.is]
  refine Call.mono (c_fresh hP) ?_
  rintro rv h1 ⟨a, rfl, k1, r1⟩
  have hb := k1.st
  simp only [Option.toList_some, List.cons_append, List.nil_append, s72_4, hb.1.f]
  refine Call.mono (c_ring hb.1) ?_
  rintro rv h2 ⟨rfl, ⟨S', k2⟩, r2⟩
  have k3 := k1.op k2 r2
  simp only [Option.toList_some, List.cons_append, List.nil_append, s72_7]
  exact ⟨trivial, ⟨_, _, k3⟩, r1.tr (r2.up (by omega) (by omega))⟩
theorem p_type (hP : HP h S H tn tc) (x : Int32) : Call 77 [.ref 0, .int x] h (fun rv h' => rv = some (.int (if 32 ≤ x ∧ x ≤ 126 then (if tn < 60 then nI (tn + 1) else eL) else eI)) ∧ HP h' S H (if 32 ≤ x ∧ x ≤ 126 then (if tn < 60 then tn + 1 else tn) else tn) (if 32 ≤ x ∧ x ≤ 126 then (if tn < 60 then upd tc tn x else tc) else tc) ∧ Fr 0 423 h h') := by
  simp only [s77_0, s77_1, s77_3, s77_5, s77_8, s77_e, c_isWithin, Option.toList_some, List.cons_append, List.nil_append]
  by_cases c : 32 ≤ x ∧ x ≤ 126
  · obtain ⟨hb, F, g, hC, hF⟩ := hP.C
    obtain ⟨a, b, hS, -, -, -, f0, f1, f2, f3, f4, f5, fo⟩ := hP.f
    simp only [if_pos c, if_pos (show ¬ (1 : Int32) = 0 by decide), s77_14, s77_15, s77_18, s77_19, f5, oB_some, hC.fd]
    refine Call.mono (c_append hC hF hb x) ?_
    rintro rv h2 ⟨rfl, k2, r2⟩
    simp only [Option.toList_some, List.cons_append, List.nil_append, s77_22]
    refine ⟨trivial, ?_, r2.up (by omega) (by omega)⟩
    by_cases q : tn < 60
    · simp only [if_pos q] at k2 ⊢
      exact hP.setC k2 rfl (by omega) r2
    · simp only [if_neg q] at k2 ⊢
      exact hP.setC k2 hF hb r2
  · simp only [if_neg c, if_neg (show ¬ ¬ (0 : Int32) = 0 by decide), s77_11, s77_13]
    exact ⟨rfl, hP, Fr.rf⟩
theorem p_clearText (hP : HP h S H tn tc) : Call 78 [.ref 0] h (fun rv h' => rv = some (.int (nI tn)) ∧ HP h' S H 0 tc ∧ Fr 0 423 h h') := by
  obtain ⟨hb, F, g, hC, hF⟩ := hP.C
  obtain ⟨a, b, hS, -, -, -, f0, f1, f2, f3, f4, f5, fo⟩ := hP.f
  obtain ⟨h1, e1, k1, r1⟩ := hC.sF (k := 1) (by decide) 0
  simp only [s78_e, s78_0, s78_1, s78_4, s78_7, s78_8, s78_9, s78_12, s78_13, s78_16, s78_17, f5, oB_some, hC.fd, hF, e1]
  exact ⟨trivial, hP.setC k1 rfl (by decide) r1, r1.up (by omega) (by omega)⟩
/-- the run of the present text in a copy of the present state -/
def run0 (S : St) (tn : Nat) (tc : Nat → Int32) : Option (Nat × Int32 × Int32) × Nat × St := rn tc tn 60 0 0 S
def aPlay (S : St) (tn : Nat) (tc : Nat → Int32) : Int32 × St := (match (run0 S tn tc).1 with
  | none => nI (run0 S tn tc).2.1
  | some _ => eN, (run0 S tn tc).2.2)
def aFault (S : St) (tn : Nat) (tc : Nat → Int32) (x : Int32) : Int32 := if ¬ (0 ≤ x ∧ x ≤ 2) then eI else match (run0 S tn tc).1 with
  | none => eF
  | some q => if x = 0 then nI q.1 else if x = 1 then q.2.1 else q.2.2
theorem nI_m1 {a : Nat} (ha : a < 2147483648) : ¬ nI a = -1 := by
  intro q
  have := congrArg Int32.toInt q
  rw [nI_toInt ha] at this
  have e : (-1 : Int32).toInt = -1 := by decide
  omega
theorem rn_at {c : Nat → Int32} {n : Nat} : ∀ d p k (S : St) q, (rn c n d p k S).1 = some q → q.1 < n := by
  intro d
  induction d with
  | zero => intro p k S q h; cases h
  | succ d ih =>
    intro p k S q h
    unfold rn at h
    by_cases c1 : p < n
    · rw [if_pos c1] at h
      by_cases c2 : (rdO c n p).1 = true
      · rw [if_pos c2] at h
        by_cases c3 : isE (aOrd S (c p) (fun i => (rdO c n p).2.2.getD i 0)).1 = true
        · rw [if_pos c3] at h
          cases h
          exact c1
        · rw [if_neg c3] at h
          exact ih _ _ _ q h
      · rw [if_neg c2] at h
        cases h
        exact c1
    · rw [if_neg c1] at h
      cases h
/-- freshTrial and runIn, as fault and play begin -/
theorem p_play (hP : HP h S H tn tc) : Call 80 [.ref 0] h (fun rv h' => rv = some (.int (aPlay S tn tc).1) ∧ HP h' (sS S (aPlay S tn tc)) (sH S H (aPlay S tn tc)) tn tc ∧ Fr 0 423 h h') := by
  obtain ⟨a0, b0, hS0, -, -, -, f0, f1, f2, f3, f4, f5, fo⟩ := hP.f
  simp only [s80_0, s80_1, s80_4, s80_5, s80_e, f5, oB_some, fo]
  refine Call.mono (c_fresh hP) ?_
  rintro rv h1 ⟨a, rfl, k1, r1⟩
  have hb := k1.st
  have hP1 : HP h1 S H tn tc := ⟨_, _, k1⟩
  obtain ⟨htn, F, g, hC, hF⟩ := hP1.C
  simp only [Option.toList_some, List.cons_append, List.nil_append, s80_8, hC.fd]
  refine Call.mono (c_runIn hC hF htn hb.1 (by omega)) ?_
  rintro rv h2 ⟨rfl, ⟨F2', g2, kC, eF1, rf⟩, k2, r2⟩
  have k3 := k1.run k2 r2 kC (eF1.trans hF)
  have hP2 : HP h2 S H tn tc := ⟨_, _, k3⟩
  have r12 : Fr 0 423 h h2 := ⟨r2.1.trans r1.1, fun j hj => (r2.2 j (by omega) (by omega)).trans (r1.2 j hj)⟩
  obtain ⟨a2, b2, hS2, -, -, -, f0, f1, f2, f3, f4, f5, fo⟩ := hP2.f
  have hd : ∀ x y z, F2' 3 = x → (if ¬ x = -1 then y else z) = (aPlay S tn tc).1 → True := fun _ _ _ _ _ => trivial
  have fin : ∀ x, (aPlay S tn tc).1 = x → Ev none 80 35 [.ref 0] [.int x, .ref 0] h2 (fun rv h' => rv = some (.int (aPlay S tn tc).1) ∧ HP h' (sS S (aPlay S tn tc)) (sH S H (aPlay S tn tc)) tn tc ∧ Fr 0 423 h h') := by
    intro x hx
    subst hx
    simp only [s80_35, fo]
    refine Call.mono (c_settle k3 _) ?_
    rintro rv h3 ⟨rfl, k4, r4⟩
    simp only [Option.toList_some, List.cons_append, List.nil_append, s80_38]
    exact ⟨trivial, k4, r12.tr r4⟩
  simp only [Option.toList_none, List.nil_append, s80_11, s80_12, s80_13, s80_16, s80_19, s80_20, f5, kC.fd, oB_some]
  have e0 : run0 S tn tc = rn tc tn 60 0 0 S := rfl
  cases hr : (rn tc tn 60 0 0 S).1 with
  | none =>
    unfold RF at rf
    rw [hr] at rf
    have rf' : F2' 3 = -1 ∧ F2' 2 = nI (rn tc tn 60 0 0 S).2.1 := rf
    have ea : (aPlay S tn tc).1 = F2' 2 := by unfold aPlay; rw [e0, hr]; exact rf'.2.symm
    rw [if_neg (show ¬ ¬ F2' 3 = -1 from fun q => q rf'.1)]
    simp only [s80_23, s80_24, s80_27, s80_30, f5, kC.fd, oB_some]
    exact fin _ ea
  | some q =>
    unfold RF at rf
    rw [hr] at rf
    have rf' : F2' 3 = nI q.1 ∧ F2' 4 = q.2.1 ∧ F2' 5 = q.2.2 := rf
    have hq := rn_at 60 0 0 S q hr
    have ea : (aPlay S tn tc).1 = -2000000002 := by unfold aPlay; rw [e0, hr]; rfl
    rw [if_pos (show ¬ F2' 3 = -1 by rw [rf'.1]; exact nI_m1 (by omega))]
    simp only [s80_33]
    exact fin _ ea
theorem p_fault (hP : HP h S H tn tc) (x : Int32) : Call 79 [.ref 0, .int x] h (fun rv h' => rv = some (.int (aFault S tn tc x)) ∧ HP h' S H tn tc ∧ Fr 0 423 h h') := by
  simp only [s79_0, s79_1, s79_2, s79_3, s79_6, s79_e, c_isWithin, Option.toList_some, List.cons_append, List.nil_append]
  unfold aFault
  by_cases c : 0 ≤ x ∧ x ≤ 2
  · rw [if_pos c, if_pos (show ¬ (1 : Int32) = 0 by decide), if_neg (show ¬ ¬ (0 ≤ x ∧ x ≤ 2) from fun q => q c)]
    obtain ⟨a0, b0, hS0, -, -, -, f0, f1, f2, f3, f4, f5, fo⟩ := hP.f
    simp only [s79_12, s79_13, s79_16, s79_17, f5, oB_some, fo]
    refine Call.mono (c_fresh hP) ?_
    rintro rv h1 ⟨a, rfl, k1, r1⟩
    have hb := k1.st
    have hP1 : HP h1 S H tn tc := ⟨_, _, k1⟩
    obtain ⟨htn, F, g, hC, hF⟩ := hP1.C
    simp only [Option.toList_some, List.cons_append, List.nil_append, s79_20, hC.fd]
    refine Call.mono (c_runIn hC hF htn hb.1 (by omega)) ?_
    rintro rv h2 ⟨rfl, ⟨F2', g2, kC, eF1, rf⟩, k2, r2⟩
    have k3 := k1.run k2 r2 kC (eF1.trans hF)
    have hP2 : HP h2 S H tn tc := ⟨_, _, k3⟩
    have r12 : Fr 0 423 h h2 := ⟨r2.1.trans r1.1, fun j hj => (r2.2 j (by omega) (by omega)).trans (r1.2 j hj)⟩
    obtain ⟨a2, b2, hS2, -, -, -, f0, f1, f2, f3, f4, f5, fo⟩ := hP2.f
    simp only [Option.toList_none, List.nil_append, s79_23, s79_24, s79_27, s79_30, s79_31, f5, kC.fd, oB_some]
    have e0 : run0 S tn tc = rn tc tn 60 0 0 S := rfl
    rw [e0]
    unfold RF at rf
    cases hr : (rn tc tn 60 0 0 S).1 with
    | none =>
      rw [hr] at rf
      have rf' : F2' 3 = -1 ∧ F2' 2 = nI (rn tc tn 60 0 0 S).2.1 := rf
      rw [if_neg (show ¬ ¬ F2' 3 = -1 from fun q => q rf'.1)]
      simp only [s79_34, s79_36]
      exact ⟨rfl, hP2, r12⟩
    | some q =>
      rw [hr] at rf
      have rf' : F2' 3 = nI q.1 ∧ F2' 4 = q.2.1 ∧ F2' 5 = q.2.2 := rf
      have hq := rn_at 60 0 0 S q hr
      rw [if_pos (show ¬ F2' 3 = -1 by rw [rf'.1]; exact nI_m1 (by omega))]
      by_cases x0 : x = 0
      · subst x0
        simp only [s79_37, s79_38_0, s79_38_1, s79_64, s79_65, s79_68, s79_71, f5, kC.fd, oB_some, rf'.1]
        exact ⟨rfl, hP2, r12⟩
      · by_cases x1 : x = 1
        · subst x1
          simp only [s79_37, s79_38_1, s79_72, s79_73, s79_76, s79_79, f5, kC.fd, oB_some, rf'.2.1]
          exact ⟨rfl, hP2, r12⟩
        · simp only [s79_37, s79_38_d x0 x1, s79_80, s79_81, s79_84, s79_87, f5, kC.fd, oB_some, rf'.2.2]
          refine ⟨?_, hP2, r12⟩
          show _ = some (Value.int (if x = 0 then nI q.1 else if x = 1 then q.2.1 else q.2.2))
          rw [if_neg x0, if_neg x1]
  · rw [if_neg c, if_neg (show ¬ ¬ (0 : Int32) = 0 by decide), if_pos c]
    simp only [s79_9, s79_11]
    exact ⟨rfl, hP, Fr.rf⟩
end MU
