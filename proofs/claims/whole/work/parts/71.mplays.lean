/-! The model's text: all orders are done. -/
def PK (F : Nat → Int32) (A : Ar) (F' : Nat → Int32) (A' : Ar) : Prop := (∀ j, j = 4 ∨ j = 7 → F' j = F j) ∧ A'.1 = A.1 ∧ A'.2.1 = A.2.1 ∧ A'.2.2.1 = A.2.2.1 ∧ A'.2.2.2.1 = A.2.2.2.1
theorem PK.tr {F F1 F2 : Nat → Int32} {A A1 A2 : Ar} (a : PK F A F1 A1) (b : PK F1 A1 F2 A2) : PK F A F2 A2 :=
  ⟨fun j h => (b.1 j h).trans (a.1 j h), b.2.1.trans a.2.1, b.2.2.1.trans a.2.2.1, b.2.2.2.1.trans a.2.2.2.1, b.2.2.2.2.trans a.2.2.2.2⟩
theorem PK.u {F F1 : Nat → Int32} {A A1 : Ar} (a : PK F A F1 A1) {k : Nat} (hk : k ≠ 4 ∧ k ≠ 7) (x : Int32) : PK F A (upd F1 k x) A1 :=
  ⟨fun j h => (u_ne (by omega)).trans (a.1 j h), a.2⟩
theorem PK.rf {F : Nat → Int32} {A : Ar} : PK F A F A := ⟨fun _ _ => rfl, rfl, rfl, rfl, rfl⟩
theorem PK.sk {F F1 : Nat → Int32} {A A1 : Ar} (a : SK F A F1 A1) : PK F A F1 A1 := ⟨fun j h => a.1 j (by omega) (by omega), a.2⟩
theorem TX.pk {F F' : Nat → Int32} {A A' : Ar} {c : Nat → Int32} {n : Nat} (h : TX F A c n) (k : PK F A F' A') : TX F' A' c n :=
  ⟨(k.1 7 (by decide)).trans h.1, h.2.1, fun i hi => by rw [k.2.2.2.2]; exact h.2.2 i hi⟩
/-- what a run of the text leaves -/
def PL (G : Nat) (F : Nat → Int32) (A : Ar) (h : AHp) (R : Option (Nat × Int32 × Int32) × Nat × St) (rv : Option Value) (h' : AHp) : Prop :=
  ∃ F' s' A', HM h' F' s' A' ∧ Fr 423 430 h h' ∧ PK F A F' A' ∧ F' 5 = 0 ∧ match R.1 with
    | none => rv = some (.int 1) ∧ F' 12 = nI R.2.1 ∧ MXG G s' R.2.2 ∧ IV G R.2.2
    | some q => rv = some (.int 0) ∧ F' 9 = nI q.1 ∧ F' 10 = q.2.1 ∧ F' 11 = q.2.2
section MPL
variable {h h' : AHp} {F s : Nat → Int32} {A : Ar} {S : St} {c : Nat → Int32} {n p G m : Nat}
theorem m_plays (hM : HM h F s A) (hT : TX F A c n) (hX : MXG G s S) (hi : IV G S) (hG : G + 61 ≤ 40000) (hm : m ≤ 4) (hF : F 4 = nI m) : Call 150 [.ref 423] h (PL (G + 60) F A h (rn c n 60 0 0 S)) := by
  obtain ⟨R, hR⟩ : ∃ R, R = rn c n 60 0 0 S := ⟨_, rfl⟩
  rw [← hR]
  have h60 := hT.2.1
  -- the end
  have fin : ∀ (x : Int32) (hh : AHp) (F1 s1 : Nat → Int32) (A1 : Ar) (v2 v3 : Value), HM hh F1 s1 A1 → PK F A F1 A1 → Fr 423 430 h hh → (match R.1 with
      | none => x = 1 ∧ F1 12 = nI R.2.1 ∧ MXG (G + 60) s1 R.2.2 ∧ IV (G + 60) R.2.2
      | some q => x = 0 ∧ F1 9 = nI q.1 ∧ F1 10 = q.2.1 ∧ F1 11 = q.2.2) → Ev none 150 126 [.ref 423, .int x, v2, v3] [] hh (PL (G + 60) F A h R) := by
    intro x hh F1 s1 A1 v2 v3 y1 y2 y3 y4
    obtain ⟨h1, e1, k1, r1⟩ := y1.sB 0 (Or.inl rfl)
    have hx : x = 0 ∨ x = 1 := by
      cases hq : R.1 with
      | none => rw [hq] at y4; exact Or.inr y4.1
      | some q => rw [hq] at y4; exact Or.inl y4.1
    have z : PL (G + 60) F A h R (some (.int x)) h1 := by
      refine ⟨_, s1, A1, k1, y3.tr r1, y2.u (by decide) 0, u_eq, ?_⟩
      cases hq : R.1 with
      | none =>
        rw [hq] at y4
        obtain ⟨rfl, z2, z3⟩ := y4
        exact ⟨rfl, (u_ne (by decide)).trans z2, z3⟩
      | some q =>
        rw [hq] at y4
        obtain ⟨rfl, z2, z3, z4⟩ := y4
        exact ⟨rfl, (u_ne (by decide)).trans z2, (u_ne (by decide)).trans z3, (u_ne (by decide)).trans z4⟩
    simp only [s150_126, s150_127, s150_128, s150_131, s150_132, y1.f, e1, oB_some]
    exact ⟨hx, z⟩
  have loop : ∀ d p k (T : St) (g : Nat) (hh : AHp) (F1 s1 : Nat → Int32) (A1 : Ar) (v2 v3 : Value), n ≤ p + d → p ≤ n → rn c n d p k T = R → g + d ≤ G + 60 → HM hh F1 s1 A1 → PK F A F1 A1 → F1 5 = 1 → F1 8 = nI p → F1 12 = nI k → MXG g s1 T → IV g T → Fr 423 430 h hh →
      Ev none 150 22 [.ref 423, .int 1, v2, v3] [] hh (PL (G + 60) F A h R) := by
    intro d
    induction d with
    | zero =>
      intro p k T g hh F1 s1 A1 v2 v3 hnd hpn hr hg y1 y2 y3 y4 y5 y6 y7 y8
      have hT1 := hT.pk y2
      have hr : (none, k, T) = R := hr
      simp only [s150_22, s150_23, s150_26, s150_27, s150_30, y1.f, oB_some, y4, hT1.1, if_pos (show nI n ≤ nI p by rw [le_nI (by omega) (by omega)]; omega)]
      refine fin 1 hh F1 s1 A1 _ _ y1 y2 y8 ?_
      subst hr
      exact ⟨rfl, y5, y6.mono (by omega), y7.mono (by omega)⟩
    | succ d ih =>
      intro p k T g hh F1 s1 A1 v2 v3 hnd hpn hr hg y1 y2 y3 y4 y5 y6 y7 y8
      have hT1 := hT.pk y2
      unfold rn at hr
      by_cases hp : p < n
      · rw [if_pos hp] at hr
        obtain ⟨h1, e1, k1, r1⟩ := y1.sF (k := 9) (by decide) (nI p)
        simp only [s150_22, s150_23, s150_26, s150_27, s150_30, s150_33, s150_34, y1.f, oB_some, y4, hT1.1, if_neg (show ¬ nI n ≤ nI p from nI_ge hp (by omega)), if_neg (show ¬ (1 : Int32) = 0 by decide)]
        simp only [s150_37, s150_38, s150_39, s150_42, s150_45, s150_46, y1.f, oB_some, y4, e1, k1.f]
        have pk1 := y2.u (k := 9) (by decide) (nI p)
        have hT2 := hT.pk pk1
        have e8 : upd F1 9 (nI p) 8 = nI p := (u_ne (by decide)).trans y4
        refine Call.mono (m_reads k1 hT2 e8 hp) ?_
        rintro rv h2 ⟨rfl, ⟨F2, A2, k2, s2, e2, e2', g2⟩, r2⟩
        have pk2 := pk1.tr (PK.sk s2)
        have f9 : F2 9 = nI p := (s2.1 9 (by decide) (by decide)).trans u_eq
        have f12 : F2 12 = nI k := (s2.1 12 (by decide) (by decide)).trans ((u_ne (by decide)).trans y5)
        have f5 : F2 5 = 1 := (s2.1 5 (by decide) (by decide)).trans ((u_ne (by decide)).trans y3)
        have hle := rdO_le (c := c) hp
        simp only [Option.toList_some, List.cons_append, List.nil_append, s150_49, s150_50, s150_51]
        by_cases cf : (rdO c n p).1 = true
        · rw [if_pos cf] at hr ⊢
          obtain ⟨l1, l2, l3⟩ := hle.2.2 cf
          have fo : F2 13 = c p := e2' l2
          have f4 : F2 4 = nI m := (pk2.1 4 (by decide)).trans hF
          have eo : aOrd T (F2 13) A2.2.2.2.2 = aOrd T (c p) (fun i => (rdO c n p).2.2.getD i 0) := by
            rw [fo]; exact aOrd_ext l2 (fun i hi => g2 cf i hi)
          rw [if_neg (show ¬ (1 : Int32) = 0 by decide)]
          simp only [s150_54, s150_55, k2.f]
          have mc := m_calls (G := g) (m := m) k2 y6 y7 (by omega) hm f4
          rw [eo] at mc
          have hgt : isE (aOrd T (c p) (fun i => (rdO c n p).2.2.getD i 0)).1 = true ∨ eI < (aOrd T (c p) (fun i => (rdO c n p).2.2.getD i 0)).1 := by
            obtain ⟨td, came, posted, P, hX2, -, -, ht⟩ := y6
            have hl2 := hX2.2.2.2.2.2.2.2.2.2.2
            refine hi_ord y7 (by omega) hX2.1.2.2.2.2.2.2.2.2 (fun w hw => (hX2.1.2.2.2.2.2.2.2.1 w hw).2.2.1) ht (fun M hM => ?_) ?_ _ _
            · rw [hl2] at hM
              obtain ⟨p', hp', rfl⟩ := List.mem_map.mp (srt_mem' hM)
              exact (hX2.2.2.2.2.2.2.2.2.1 p' hp').2.2.2.2.2.1
            · rw [hl2, srt_len, List.length_map]; exact hX2.2.2.2.2.2.2.1
          have iv2 := iv_ord y7 (c p) (fun i => (rdO c n p).2.2.getD i 0)
          obtain ⟨r, hrr⟩ : ∃ r, r = aOrd T (c p) (fun i => (rdO c n p).2.2.getD i 0) := ⟨_, rfl⟩
          rw [← hrr] at hr mc hgt iv2
          refine Call.mono mc ?_
          rintro rv h3 ⟨rfl, r3, F3, s3, A3, k3, mo⟩
          have same : F3 = F2 ∧ A3 = A2 := by
            by_cases ce : isE r.1 = true
            · rw [if_pos ce] at mo; exact ⟨mo.1, mo.2.2⟩
            · rw [if_neg ce] at mo
              exact mo.1.1 (by rw [f5]; decide)
          obtain ⟨rfl, rfl⟩ := same
          simp only [Option.toList_some, List.cons_append, List.nil_append, s150_58, s150_62, s150_63, s150_64, if_neg (show ¬ (1 : Int32) = 0 by decide)]
          have at78 : ∀ x : Int32, (x = 1 ∨ (x = 0 ∧ ∃ q, R.1 = some q ∧ q.1 = p ∧ q.2.1 = 2 ∧ q.2.2 = r.1)) → (x = 1 → n ≤ (rdO c n p).2.1 + d ∧ rn c n d (rdO c n p).2.1 (k + 1) r.2 = R ∧ MXG (g + 1) s3 r.2 ∧ IV (g + 1) r.2) →
              Ev none 150 78 [.ref 423, .int 1, .int 1, .int r.1] [.int x] h3 (PL (G + 60) F A h R) := by
            intro x hx1 hx2
            obtain ⟨h4, e4, k4, r4⟩ := k3.sF (k := 10) (by decide) 2
            obtain ⟨h5, e5, k5, r5⟩ := k4.sF (k := 11) (by decide) r.1
            obtain ⟨h6, e6, k6, r6⟩ := k5.sF (k := 12) (by decide) (nI (k + 1))
            have f12' : upd (upd F3 10 2) 11 r.1 12 = nI k := (u_ne (by decide)).trans ((u_ne (by decide)).trans f12)
            simp only [s150_78, s150_79, s150_80, s150_81, if_neg (show ¬ (1 : Int32) = 0 by decide), s150_84, s150_85, s150_89, s150_92, s150_93, s150_94, e4, oB_some]
            simp only [s150_97, s150_98, s150_110, s150_113, s150_114, s150_115, s150_118, s150_119, s150_120, s150_123, k5.f, e5, oB_some, f12', nI_1, e6]
            have pk6 : PK F A (upd (upd (upd F3 10 2) 11 r.1) 12 (nI (k + 1))) A3 := ((pk2.u (by decide) _).u (by decide) _).u (by decide) _
            have hT6 := hT.pk pk6
            have e8' : upd (upd (upd F3 10 2) 11 r.1) 12 (nI (k + 1)) 8 = nI (rdO c n p).2.1 := (u_ne (by decide)).trans ((u_ne (by decide)).trans ((u_ne (by decide)).trans e2))
            have f5' : upd (upd (upd F3 10 2) 11 r.1) 12 (nI (k + 1)) 5 = 1 := (u_ne (by decide)).trans ((u_ne (by decide)).trans ((u_ne (by decide)).trans f5))
            have rr := (((((y8.tr r1).tr r2).tr r3).tr r4).tr r5).tr r6
            by_cases x1 : x = 1
            · subst x1
              obtain ⟨a1, a2, a3, a4⟩ := hx2 rfl
              exact ih (rdO c n p).2.1 (k + 1) r.2 (g + 1) h6 _ s3 A3 _ _ a1 hle.2.1 a2 (by omega) k6 pk6 f5' e8' u_eq a3 a4 rr
            · obtain ⟨rfl, q, hq, b1, b2, b3⟩ := hx1.resolve_left x1
              · have exit : Ev none 150 126 [.ref 423, .int 0, .int 1, .int r.1] [] h6 (PL (G + 60) F A h R) := by
                  refine fin 0 h6 _ s3 A3 _ _ k6 pk6 rr ?_
                  rw [hq]
                  refine ⟨rfl, ?_, ?_, ?_⟩
                  · rw [b1]; exact (u_ne (by decide)).trans ((u_ne (by decide)).trans ((u_ne (by decide)).trans f9))
                  · rw [b2]; exact (u_ne (by decide)).trans ((u_ne (by decide)).trans u_eq)
                  · rw [b3]; exact (u_ne (by decide)).trans u_eq
                simp only [s150_22, s150_23, s150_26, s150_27, s150_30, k6.f, oB_some, e8', hT6.1]
                by_cases ce : nI n ≤ nI (rdO c n p).2.1
                · rw [if_pos ce]; exact exit
                · rw [if_neg ce]
                  simp only [s150_33, s150_34, if_true]
                  exact exit
          by_cases ce : isE r.1 = true
          · rw [if_pos ce] at hr
            have hle2 : r.1 ≤ eI := by
              have := of_decide_eq_true (show decide (eF ≤ r.1 ∧ r.1 ≤ eI) = true from ce)
              exact this.2
            have hle3 : r.1 ≤ (-2000000001 : Int32) := hle2
            simp only [s150_67, s150_68, s150_70, if_pos hle3, s150_77]
            refine at78 0 (Or.inr ⟨rfl, ?_⟩) (fun q => absurd q (by decide))
            rw [← hr]
            exact ⟨_, rfl, rfl, rfl, rfl⟩
          · rw [if_neg ce] at hr mo
            have hlt := hgt.resolve_left ce
            have hle3 : ¬ r.1 ≤ (-2000000001 : Int32) := Int32.not_le.mpr hlt
            simp only [s150_67, s150_68, s150_70, if_neg hle3, s150_73, s150_74]
            exact at78 1 (Or.inl rfl) (fun _ => ⟨by omega, hr, mo.2, iv2⟩)
        · rw [if_neg cf] at hr ⊢
          rw [if_pos rfl]
          obtain ⟨h4, e4, k4, r4⟩ := k2.sF (k := 10) (by decide) 1
          have f8' : upd F2 10 1 8 = nI (rdO c n p).2.1 := (u_ne (by decide)).trans e2
          have f9' : upd F2 10 1 9 = nI p := (u_ne (by decide)).trans f9
          obtain ⟨h5, e5, k5, r5⟩ := k4.sF (k := 11) (by decide) (nI (rdO c n p).2.1 - nI p)
          have f12' : upd (upd F2 10 1) 11 (nI (rdO c n p).2.1 - nI p) 12 = nI k := (u_ne (by decide)).trans ((u_ne (by decide)).trans f12)
          obtain ⟨h6, e6, k6, r6⟩ := k5.sF (k := 12) (by decide) (nI (k + 1))
          simp only [s150_61, s150_62, s150_63, s150_64, if_true, s150_77, s150_78, s150_79, s150_80, s150_81, s150_88, s150_89, s150_92, s150_93, s150_94, e4, oB_some]
          simp only [s150_101, s150_102, s150_105, s150_106, s150_109, s150_110, s150_113, s150_114, s150_115, s150_118, s150_119, s150_120, s150_123, k4.f, k5.f, f8', f9', e5, oB_some, f12', nI_1, e6]
          have pk6 : PK F A (upd (upd (upd F2 10 1) 11 (nI (rdO c n p).2.1 - nI p)) 12 (nI (k + 1))) A2 := ((pk2.u (by decide) _).u (by decide) _).u (by decide) _
          have hT6 := hT.pk pk6
          have e8' : upd (upd (upd F2 10 1) 11 (nI (rdO c n p).2.1 - nI p)) 12 (nI (k + 1)) 8 = nI (rdO c n p).2.1 := (u_ne (by decide)).trans ((u_ne (by decide)).trans f8')
          have exit : Ev none 150 126 [.ref 423, .int 0, .int 0, .int 0] [] h6 (PL (G + 60) F A h R) := by
            refine fin 0 h6 _ s1 A2 _ _ k6 pk6 (((((y8.tr r1).tr r2).tr r4).tr r5).tr r6) ?_
            rw [← hr]
            refine ⟨rfl, ?_, ?_, ?_⟩
            · exact (u_ne (by decide)).trans ((u_ne (by decide)).trans f9')
            · exact (u_ne (by decide)).trans ((u_ne (by decide)).trans u_eq)
            · exact (u_ne (by decide)).trans u_eq
          simp only [s150_22, s150_23, s150_26, s150_27, s150_30, k6.f, oB_some, e8', hT6.1]
          by_cases ce : nI n ≤ nI (rdO c n p).2.1
          · rw [if_pos ce]; exact exit
          · rw [if_neg ce]
            simp only [s150_33, s150_34, if_true]
            exact exit
      · rw [if_neg hp] at hr
        simp only [s150_22, s150_23, s150_26, s150_27, s150_30, y1.f, oB_some, y4, hT1.1, if_pos (show nI n ≤ nI p by rw [le_nI (by omega) (by omega)]; omega)]
        refine fin 1 hh F1 s1 A1 _ _ y1 y2 y8 ?_
        subst hr
        exact ⟨rfl, y5, y6.mono (by omega), y7.mono (by omega)⟩
  obtain ⟨h1, e1, k1, r1⟩ := hM.sB 1 (Or.inr rfl)
  obtain ⟨h2, e2, k2, r2⟩ := k1.sF (k := 8) (by decide) 0
  obtain ⟨h3, e3, k3, r3⟩ := k2.sF (k := 9) (by decide) 0
  obtain ⟨h4, e4, k4, r4⟩ := k3.sF (k := 12) (by decide) 0
  simp only [s150_0, s150_1, s150_2, s150_5, s150_6, s150_7, s150_10, s150_11, s150_12, s150_15, s150_16, s150_17, s150_20, s150_21, s150_e, hM.f, k1.f, k2.f, k3.f, e1, e2, e3, e4, oB_some]
  exact loop 60 0 0 S G h4 _ s A _ _ (by omega) (Nat.zero_le _) hR.symm (by omega) k4 (((PK.rf.u (by decide) _).u (by decide) _).u (by decide) _ |>.u (by decide) _) ((u_ne (by decide)).trans ((u_ne (by decide)).trans ((u_ne (by decide)).trans u_eq))) ((u_ne (by decide)).trans ((u_ne (by decide)).trans u_eq)) u_eq hX hi (((r1.tr r2).tr r3).tr r4)
end MPL
