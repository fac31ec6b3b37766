/-! The class's text: the run. -/
def RF (F : Nat → Int32) (R : Option (Nat × Int32 × Int32) × Nat × St) : Prop := match R.1 with
  | none => F 3 = -1 ∧ F 2 = nI R.2.1
  | some q => F 3 = nI q.1 ∧ F 4 = q.2.1 ∧ F 5 = q.2.2
theorem rdO_le {c : Nat → Int32} {n p : Nat} (hp : p < n) : p ≤ (rdO c n p).2.1 ∧ (rdO c n p).2.1 ≤ n ∧ ((rdO c n p).1 = true → p < (rdO c n p).2.1 ∧ ¬ nOf (c p) = 0 ∧ (rdO c n p).2.2.length = nOf (c p)) := by
  unfold rdO
  by_cases c0 : nOf (c p) = 0
  · rw [if_pos c0]
    exact ⟨Nat.le_refl _, Nat.le_of_lt hp, fun q => by cases q⟩
  · rw [if_neg c0]
    have := rdL_le c n (nOf (c p)) (p + 1) hp
    exact ⟨by omega, this.2.1, fun q => ⟨by omega, c0, this.2.2.2 q⟩⟩
theorem c_runIn {h : AHp} {F f g : Nat → Int32} {n t : Nat} {S : St} (hC : HC h F f g) (hn : F 1 = nI n) (hb : n ≤ 60) (hS : HS h t S) (ht : t + 69 ≤ 144 ∨ 147 ≤ t) : Call 18 [.ref 144, .ref t] h (fun rv h' => rv = none ∧ (∃ F' g', HC h' F' f g' ∧ F' 1 = F 1 ∧ RF F' (rn f n 60 0 0 S)) ∧ HS h' t (rn f n 60 0 0 S).2.2 ∧ FrT t h h') := by
  obtain ⟨h1, e1, k1, r1⟩ := hC.sF (k := 3) (by decide) (-1)
  obtain ⟨h2, e2, k2, r2⟩ := k1.sF (k := 2) (by decide) 0
  simp only [s18_0, s18_1, s18_2, s18_5, s18_6, s18_7, s18_8, s18_9, s18_e, e1, e2, oB_some]
  obtain ⟨R, hR⟩ : ∃ R, rn f n 60 0 0 S = R := ⟨_, rfl⟩
  rw [hR]
  have loop : ∀ d p k (T : St) (hh : AHp) (F' g' : Nat → Int32) (v3 : Value), n ≤ p + d → p ≤ n → k ≤ p → HC hh F' f g' → F' 1 = F 1 → F' 2 = nI k → F' 3 = -1 → HS hh t T → rn f n d p k T = R → FrT t h hh →
      Ev none 18 12 [.ref 144, .ref t, .int (nI p), v3] [] hh (fun rv h' => rv = none ∧ (∃ F' g', HC h' F' f g' ∧ F' 1 = F 1 ∧ RF F' R) ∧ HS h' t R.2.2 ∧ FrT t h h') := by
    have fin : ∀ (p k : Nat) (T : St) (hh : AHp) (F' g' : Nat → Int32) (v3 : Value), HC hh F' f g' → F' 1 = F 1 → F' 2 = nI k → F' 3 = -1 → HS hh t T → (none, k, T) = R → FrT t h hh →
      Ev none 18 89 [.ref 144, .ref t, .int (nI p), v3] [] hh (fun rv h' => rv = none ∧ (∃ F' g', HC h' F' f g' ∧ F' 1 = F 1 ∧ RF F' R) ∧ HS h' t R.2.2 ∧ FrT t h h') := by
      intro p k T hh F' g' v3 a4 a5 a6 a7 a8 a9 a10
      subst a9
      simp only [s18_89]
      exact ⟨trivial, ⟨F', g', a4, a5, a7, a6⟩, a8, a10⟩
    intro d
    induction d with
    | zero =>
      intro p k T hh F' g' v3 a1 a2 a3 a4 a5 a6 a7 a8 a9 a10
      have hn' : F' 1 = nI n := a5.trans hn
      have f89 := fin p k T hh F' g' v3 a4 a5 a6 a7 a8 a9 a10
      simp only [s18_12, s18_13, s18_16, s18_18, a4.fd, oB_some, a6]
      by_cases q : (60 : Int32) ≤ nI k
      · rw [if_pos q]; exact f89
      · rw [if_neg q]
        simp only [s18_21, s18_22, s18_23, s18_26, a4.fd, oB_some, hn', if_pos (show nI n ≤ nI p by rw [le_nI (by omega) (by omega)]; omega)]
        exact f89
    | succ d ih =>
      intro p k T hh F' g' v3 a1 a2 a3 a4 a5 a6 a7 a8 a9 a10
      have hn' : F' 1 = nI n := a5.trans hn
      by_cases hpn : p < n
      · unfold rn at a9
        rw [if_pos hpn] at a9
        simp only [s18_12, s18_13, s18_16, s18_18, a4.fd, oB_some, a6, if_neg (le60 (show k < 60 by omega))]
        simp only [s18_21, s18_22, s18_23, s18_26, s18_29, s18_30, s18_31, a4.fd, oB_some, hn', if_neg (show ¬ nI n ≤ nI p from nI_ge hpn (by omega))]
        refine Call.mono (c_readOrder a4 hn' hb hpn) ?_
        rintro rv h3 ⟨rfl, ⟨F3, g3, k3, b1, b2, b3, b4⟩, r3⟩
        have hT3 : HS h3 t T := a8.fr r3 (by omega)
        have hle := rdO_le (c := f) hpn
        simp only [s18_34, Option.toList_some, List.cons_append, List.nil_append]
        by_cases ok : (rdO f n p).1 = true
        · rw [if_pos ok] at a9
          rw [if_pos ok, if_pos (show ¬ (1 : Int32) = 0 by decide)]
          obtain ⟨z1, z2, z3⟩ := hle.2.2 ok
          have hx := aOrd_ext (S := T) z2 (b4 ok)
          rw [← b2] at hx
          simp only [s18_50, s18_51, s18_52, k3.fd]
          refine Call.mono (c_doOrder k3 hT3) ?_
          rintro rv h4 ⟨rfl, k4, r4⟩
          rw [hx] at k4 ⊢
          rw [b2] at k4 ⊢
          have hC4 : HC h4 F3 f g3 := k3.fr r4 (by omega)
          have b38 : F3 3 = -1 := (b3 3 (by decide) (by decide)).trans a7
          have b28 : F3 2 = nI k := (b3 2 (by decide) (by decide)).trans a6
          have b18 : F3 1 = F 1 := (b3 1 (by decide) (by decide)).trans a5
          have fr4 : FrT t h h4 := (a10.tr (FrT.c r3)).tr (FrT.s r4)
          simp only [s18_55, s18_56, s18_57, c_isError, Option.toList_some, List.cons_append, List.nil_append, s18_60]
          by_cases er : isE (aOrd T (f p) (fun i => (rdO f n p).2.2.getD i 0)).1 = true
          · rw [if_pos er] at a9
            rw [if_pos er, if_neg (show ¬ (1 : Int32) = 0 by decide)]
            simp only [s18_63, s18_64, s18_65, s18_66, s18_67, hC4.fd]
            refine Call.mono (c_noteFault hC4 _ _ _) ?_
            rintro rv h5 ⟨rfl, k5, r5⟩
            subst a9
            simp only [s18_70, Option.toList_none, List.nil_append]
            exact ⟨trivial, ⟨_, _, k5, b18, rfl, rfl, rfl⟩, k4.fr r5 (by omega), fr4.tr (FrT.c r5)⟩
          · rw [if_neg er] at a9
            rw [if_neg er, if_pos rfl]
            obtain ⟨h5, e5, k5, r5⟩ := hC4.sF (k := 2) (by decide) (nI (k + 1))
            simp only [s18_71, s18_72, s18_75, s18_76, s18_77, s18_78, s18_81, s18_82, s18_83, s18_86, hC4.fd, b1, b28, oB_some, nI_s, e5]
            refine ih (rdO f n p).2.1 (k + 1) _ h5 _ _ _ (by omega) hle.2.1 (by omega) k5 ?_ rfl ?_ (k4.fr r5 (by omega)) a9 (fr4.tr (FrT.c r5))
            · exact b18
            · exact b38
        · rw [if_neg ok] at a9
          rw [if_neg ok, if_neg (show ¬ ¬ (0 : Int32) = 0 by decide)]
          simp only [s18_37, s18_38, s18_39, s18_40, s18_41, s18_44, s18_45, s18_46, k3.fd, oB_some, b1]
          refine Call.mono (c_noteFault k3 _ _ _) ?_
          rintro rv h5 ⟨rfl, k5, r5⟩
          subst a9
          simp only [s18_49, Option.toList_none, List.nil_append]
          exact ⟨trivial, ⟨_, _, k5, (b3 1 (by decide) (by decide)).trans a5, rfl, rfl, rfl⟩, hT3.fr r5 (by omega), (a10.tr (FrT.c r3)).tr (FrT.c r5)⟩
      · unfold rn at a9
        rw [if_neg hpn] at a9
        have f89 := fin p k T hh F' g' v3 a4 a5 a6 a7 a8 a9 a10
        simp only [s18_12, s18_13, s18_16, s18_18, a4.fd, oB_some, a6]
        by_cases q : (60 : Int32) ≤ nI k
        · rw [if_pos q]; exact f89
        · rw [if_neg q]
          simp only [s18_21, s18_22, s18_23, s18_26, a4.fd, oB_some, hn', if_pos (show nI n ≤ nI p by rw [le_nI (by omega) (by omega)]; omega)]
          exact f89
  exact loop 60 0 0 S h2 _ _ _ (by omega) (Nat.zero_le _) (Nat.le_refl _) k2 rfl rfl rfl ((hS.fr r1 (by omega)).fr r2 (by omega)) hR (FrT.c (r1.tr r2))
