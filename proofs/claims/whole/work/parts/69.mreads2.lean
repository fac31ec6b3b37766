/-! The model's text: an order is read, and done. -/
section MR2
variable {h h' : AHp} {F s : Nat → Int32} {A : Ar} {S : St} {c : Nat → Int32} {n p G m : Nat}
theorem m_reads (hM : HM h F s A) (hT : TX F A c n) (hp : F 8 = nI p) (hpn : p < n) : Call 148 [.ref 423] h (fun rv h' => rv = some (.int (if (rdO c n p).1 = true then 1 else 0)) ∧ (∃ F' A', HM h' F' s A' ∧ SK F A F' A' ∧ F' 8 = nI (rdO c n p).2.1 ∧ (¬ nOf (c p) = 0 → F' 13 = c p) ∧ ((rdO c n p).1 = true → ∀ i, i < nOf (c p) → A'.2.2.2.2 i = (rdO c n p).2.2.getD i 0)) ∧ Fr 423 430 h h') := by
  have h60 := hT.2.1
  have l1 := hM.lx (show p < 60 by omega)
  rw [hT.2.2 p hpn] at l1
  -- the order
  have at25 : ∀ x : Int32, nOf x = nOf (c p) → (¬ nOf (c p) = 0 → x = c p) → Ev none 148 25 [.ref 423, .long 0, .long 0, .long 0] [.int x, .ref 423] h (fun rv h' => rv = some (.int (if (rdO c n p).1 = true then 1 else 0)) ∧ (∃ F' A', HM h' F' s A' ∧ SK F A F' A' ∧ F' 8 = nI (rdO c n p).2.1 ∧ (¬ nOf (c p) = 0 → F' 13 = c p) ∧ ((rdO c n p).1 = true → ∀ i, i < nOf (c p) → A'.2.2.2.2 i = (rdO c n p).2.2.getD i 0)) ∧ Fr 423 430 h h') := by
    intro x hx hx2
    obtain ⟨h1, e1, k1, r1⟩ := hM.sF (k := 13) (by decide) x
    have e13 : upd F 13 x 13 = x := u_eq
    have e8 : upd F 13 x 8 = nI p := (u_ne (by decide)).trans hp
    have hn3 := nOf_3 (c p)
    simp only [s148_25, s148_28, s148_29, s148_32, s148_35, s148_36, s148_37, e1, oB_some, k1.f, e13, m_numbersOf, hx, Option.toList_some, List.cons_append, List.nil_append, (show (nI (nOf (c p)) = 0) = (nOf (c p) = 0) from propext (nI_eq (show nOf (c p) < 2147483648 by omega) (show 0 < 2147483648 by decide)))]
    by_cases c0 : nOf (c p) = 0
    · rw [if_neg (fun q => q c0)]
      have er : rdO c n p = (false, p, []) := by unfold rdO; rw [if_pos c0]
      rw [er]
      simp only [s148_40, s148_41]
      exact ⟨by first | trivial | decide, by first | trivial | rfl, ⟨_, A, k1, SK.or _, e8, fun q => absurd c0 q, fun q => by cases q⟩, r1⟩
    · rw [if_pos c0]
      obtain ⟨M, hMn⟩ : ∃ M, nOf (c p) = M + 1 := ⟨nOf (c p) - 1, by omega⟩
      have er : rdO c n p = rdL c n (M + 1) (p + 1) := by unfold rdO; rw [if_neg c0, hMn]
      have e13' : upd F 13 x 13 = c p := e13.trans (hx2 c0)
      obtain ⟨RL, hRL⟩ : ∃ RL, RL = rdL c n (M + 1) (p + 1) := ⟨_, rfl⟩
      rw [er, hMn, ← hRL]
      obtain ⟨h2, e2, k2, r2⟩ := k1.sF (k := 8) (by decide) (nI (p + 1))
      simp only [s148_42, s148_43, s148_44, s148_47, s148_48, s148_49, s148_52, s148_53, s148_54, k1.f, k2.f, oB_some, e8, nI_1, e2]
      have sk2 : SK F A (upd (upd F 13 x) 8 (nI (p + 1))) A := (SK.or x).tr (SK.sp _)
      have fin : ∀ (v : Bool) (q : Nat) (hh : AHp) (F1 : Nat → Int32) (A1 : Ar) (v3 : Value) (rl : Bool × Nat × List Int32), rl = RL → v = rl.1 → HM hh F1 s A1 → SK F A F1 A1 → F1 8 = nI rl.2.1 → F1 13 = c p → (rl.1 = true → ∀ i, i < M + 1 → A1.2.2.2.2 i = rl.2.2.getD i 0) → Fr 423 430 h hh →
          (some (Value.int (bI v)) = some (.int (if (RL).1 = true then 1 else 0)) ∧ (∃ F' A', HM hh F' s A' ∧ SK F A F' A' ∧ F' 8 = nI (RL).2.1 ∧ (¬ M + 1 = 0 → F' 13 = c p) ∧ ((RL).1 = true → ∀ i, i < M + 1 → A'.2.2.2.2 i = (RL).2.2.getD i 0)) ∧ Fr 423 430 h hh) := by
        intro v q hh F1 A1 v3 rl e1 e2 y1 y2 y3 y4 y5 y6
        subst e1
        subst e2
        exact ⟨rfl, ⟨F1, A1, y1, y2, y3, fun _ => y4, y5⟩, y6⟩
      -- behind number k - 1, which began at q: r numbers are left
      have loop : ∀ r k q (hh : AHp) (F1 : Nat → Int32) (A1 : Ar), k + r = M + 1 → 1 ≤ k → q ≤ n → HM hh F1 s A1 → SK F A F1 A1 → F1 8 = nI (rdN c n 3 q 0).1 → F1 13 = c p → A1.2.2.2.2 (k - 1) = (rdN c n 3 q 0).2 →
          ((rdL c n (r + 1) q).1 = (RL).1) → ((rdL c n (r + 1) q).2.1 = (RL).2.1) → ((rdL c n (r + 1) q).1 = true → (∀ i, i < k - 1 → A1.2.2.2.2 i = (RL).2.2.getD i 0) ∧ ∀ i, (rdL c n (r + 1) q).2.2.getD i 0 = (RL).2.2.getD (k - 1 + i) 0) → Fr 423 430 h hh →
          Ev none 148 60 [.ref 423, .int (nI (M + 1)), .int (if (rdN c n 3 q 0).1 = q then 0 else 1), .int (nI k)] [] hh (fun rv h' => rv = some (.int (if (RL).1 = true then 1 else 0)) ∧ (∃ F' A', HM h' F' s A' ∧ SK F A F' A' ∧ F' 8 = nI (RL).2.1 ∧ (¬ M + 1 = 0 → F' 13 = c p) ∧ ((RL).1 = true → ∀ i, i < M + 1 → A'.2.2.2.2 i = (RL).2.2.getD i 0)) ∧ Fr 423 430 h h') := by
        intro r
        induction r with
        | zero =>
          intro k q hh F1 A1 hk hk1 hqn y1 y2 y3 y4 y5 w1 w2 w3 y6
          obtain rfl : k = M + 1 := by omega
          have hT1 := hT.sk y2
          obtain ⟨e, x, hex⟩ : ∃ e x, rdN c n 3 q 0 = (e, x) := ⟨_, _, rfl⟩
          have hle := rdN_le c n 3 q 0 hqn
          unfold rdL at w1 w2 w3
          rw [hex] at w1 w2 w3 y3 y5 hle ⊢
          dsimp only at w1 w2 w3 y3 y5 hle ⊢
          simp only [s148_60, s148_61, s148_62, if_pos (Int32.le_refl _)]
          simp only [s148_98, s148_99]
          by_cases ce : e = q
          · rw [if_pos ce] at w1 w2 w3 ⊢
            rw [if_pos rfl]
            simp only [s148_115, s148_116]
            refine ⟨by first | trivial | decide, ?_⟩
            have := fin false e hh F1 A1 (.int 0) _ rfl w1 y1 y2 (by rw [y3, ← w2, ce]) y4 (fun z => by rw [← w1] at z; cases z) y6
            exact this
          · rw [if_neg ce] at w1 w2 w3 ⊢
            rw [if_neg (show ¬ (1 : Int32) = 0 by decide)]
            simp only [s148_102, s148_103, s148_105, y1.f]
            refine Call.mono (m_sign y1 hT1 y3 hle.2.1 59) ?_
            rintro rv h3 ⟨rfl, ⟨F3, k3, s3, e3, e3'⟩, r3⟩
            simp only [Option.toList_some, List.cons_append, List.nil_append]
            by_cases cs : e < n ∧ c e = 59
            · have cs' : e < n ∧ c e = sg 0 := cs
              rw [if_pos cs'] at w1 w2 w3
              rw [if_pos cs] at e3 ⊢
              simp only [s148_108, if_neg (show ¬ (1 : Int32) = 0 by decide), s148_111, s148_112, s148_116]
              refine ⟨by first | trivial | decide, ?_⟩
              obtain ⟨w3a, w3b⟩ := w3 rfl
              have := fin true e h3 F3 A1 (.int 0) _ rfl w1 k3 (y2.tr s3) (by rw [e3, ← w2]; rfl) (e3'.trans y4) (fun _ i hi => by
                by_cases ei : i = M
                · subst ei
                  have := w3b 0
                  rw [show i + 1 - 1 + 0 = i by omega] at this
                  rw [← this]
                  exact y5
                · exact w3a i (by omega)) (y6.tr r3)
              exact this
            · have cs' : ¬ (e < n ∧ c e = sg 0) := cs
              rw [if_neg cs'] at w1 w2 w3
              rw [if_neg cs] at e3 ⊢
              simp only [s148_108, if_true, s148_115, s148_116]
              refine ⟨by first | trivial | decide, ?_⟩
              have := fin false e h3 F3 A1 (.int 0) _ rfl w1 k3 (y2.tr s3) (by rw [e3, ← w2]) (e3'.trans y4) (fun z => by rw [← w1] at z; cases z) (y6.tr r3)
              exact this
        | succ r ih =>
          intro k q hh F1 A1 hk hk1 hqn y1 y2 y3 y4 y5 w1 w2 w3 y6
          have hT1 := hT.sk y2
          obtain ⟨e, x, hex⟩ : ∃ e x, rdN c n 3 q 0 = (e, x) := ⟨_, _, rfl⟩
          have hle := rdN_le c n 3 q 0 hqn
          unfold rdL at w1 w2 w3
          rw [hex] at w1 w2 w3 y3 y5 hle ⊢
          dsimp only at w1 w2 w3 y3 y5 hle ⊢
          simp only [s148_60, s148_61, s148_62, if_neg (show ¬ nI (M + 1) ≤ nI k from nI_ge (by omega) (by omega))]
          simp only [s148_65, s148_66]
          by_cases ce : e = q
          · rw [if_pos ce] at w1 w2 w3 ⊢
            rw [if_pos rfl]
            simp only [s148_98, s148_99, if_true, s148_115, s148_116]
            refine ⟨by first | trivial | decide, ?_⟩
            have := fin false e hh F1 A1 (.int 0) _ rfl w1 y1 y2 (by rw [y3, ← w2, ce]) y4 (fun z => by rw [← w1] at z; cases z) y6
            exact this
          · rw [if_neg ce] at w1 w2 w3 ⊢
            rw [if_neg (show ¬ (1 : Int32) = 0 by decide)]
            simp only [s148_69, s148_70, s148_72, y1.f]
            refine Call.mono (m_sign y1 hT1 y3 hle.2.1 44) ?_
            rintro rv h3 ⟨rfl, ⟨F3, k3, s3, e3, e3'⟩, r3⟩
            simp only [Option.toList_some, List.cons_append, List.nil_append]
            have esg : sg (r + 1) = 44 := rfl
            by_cases cs : e < n ∧ c e = 44
            · have cs' : e < n ∧ c e = sg (r + 1) := cs
              rw [if_pos cs'] at w1 w2 w3
              rw [if_pos cs] at e3 ⊢
              simp only [s148_75, if_neg (show ¬ (1 : Int32) = 0 by decide), s148_78, s148_79, s148_80, k3.f]
              have hT3 := hT1.sk s3
              refine Call.mono (m_number k3 hT3 e3 (by omega) (show k < 3 by omega)) ?_
              rintro rv h4 ⟨rfl, ⟨F4, A4, k4, s4, e4, e4', g4, g4'⟩, r4⟩
              simp only [Option.toList_some, List.cons_append, List.nil_append]
              have go := ih (k + 1) (e + 1) h4 F4 A4 (by omega) (by omega) (by omega) k4 ((y2.tr s3).tr s4) e4 (e4'.trans (e3'.trans y4)) (by rw [Nat.add_sub_cancel]; exact g4) w1 w2 (fun z => by
                obtain ⟨w3a, w3b⟩ := w3 z
                refine ⟨fun i hi => ?_, fun i => ?_⟩
                · rw [g4' i (by omega)]
                  by_cases ei : i = k - 1
                  · subst ei
                    rw [y5]
                    exact w3b 0
                  · exact w3a i (by omega)
                · have := w3b (i + 1)
                  rw [show k + 1 - 1 + i = k - 1 + (i + 1) by omega, ← this]
                  rfl) ((y6.tr r3).tr r4)
              by_cases cn0 : (rdN c n 3 (e + 1) 0).1 = e + 1
              · rw [if_pos cn0] at go ⊢
                simp only [s148_83, if_true, s148_90, s148_91, s148_92, s148_95, nI_1]
                exact go
              · rw [if_neg cn0] at go ⊢
                simp only [s148_83, if_neg (show ¬ (1 : Int32) = 0 by decide), s148_86, s148_87, s148_91, s148_92, s148_95, nI_1]
                exact go
            · have cs' : ¬ (e < n ∧ c e = sg (r + 1)) := cs
              rw [if_neg cs'] at w1 w2 w3
              rw [if_neg cs] at e3 ⊢
              simp only [s148_75, if_true, s148_90, s148_91, s148_92, s148_95, nI_1]
              have res := fin false e h3 F3 A1 (.int 0) _ rfl w1 k3 (y2.tr s3) (by rw [e3, ← w2]) (e3'.trans y4) (fun z => by rw [← w1] at z; cases z) (y6.tr r3)
              simp only [s148_60, s148_61, s148_62]
              by_cases ck : nI (M + 1) ≤ nI (k + 1)
              · rw [if_pos ck]
                simp only [s148_98, s148_99, if_true, s148_115, s148_116]
                exact ⟨by first | trivial | decide, res⟩
              · rw [if_neg ck]
                simp only [s148_65, s148_66, if_true, s148_98, s148_99, s148_115, s148_116]
                exact ⟨by first | trivial | decide, res⟩
      have hT2 := hT.sk sk2
      refine Call.mono (m_number k2 hT2 u_eq (by omega) (show 0 < 3 by decide)) ?_
      rintro rv h4 ⟨rfl, ⟨F4, A4, k4, s4, e4, e4', g4, g4'⟩, r4⟩
      simp only [Option.toList_some, List.cons_append, List.nil_append, s148_57, s148_58, s148_59]
      exact loop M 1 (p + 1) h4 F4 A4 (by omega) (Nat.le_refl _) (by omega) k4 (sk2.tr s4) e4 (e4'.trans ((u_ne (by decide)).trans e13')) g4 (by rw [hRL]) (by rw [hRL]) (fun _ => ⟨fun i hi => by omega, fun i => by rw [hRL, show 1 - 1 + i = i by omega]⟩) ((r1.tr r2).tr r4)
  simp only [s148_0, s148_1, s148_2, s148_4, s148_6, s148_e, hM.f, m_isAt hM hT hp (by omega), Option.toList_some, List.cons_append, List.nil_append]
  by_cases c1 : p < n ∧ 33 ≤ c p ∧ c p ≤ 126
  · rw [if_pos c1]
    simp only [s148_9, s148_12, s148_13, s148_16, s148_17, s148_20, s148_21, if_neg (show ¬ (1 : Int32) = 0 by decide), hM.f, oB_some, hp, l1]
    exact at25 (c p) rfl (fun _ => rfl)
  · rw [if_neg c1]
    simp only [s148_9, if_true, s148_24]
    have n0 : nOf (c p) = 0 := by
      have bad : ∀ k : Int32, 33 ≤ k → k ≤ 126 → ¬ c p = k := fun k h1 h2 q => c1 ⟨hpn, by rw [q]; exact h1, by rw [q]; exact h2⟩
      unfold nOf
      rw [if_neg (bad 112 (by decide) (by decide)), if_neg (fun q => q.elim (bad 97 (by decide) (by decide)) (fun q => q.elim (bad 116 (by decide) (by decide)) (bad 114 (by decide) (by decide)))), if_neg (fun q => q.elim (bad 110 (by decide) (by decide)) (bad 107 (by decide) (by decide)))]
    exact at25 0 (by rw [n0]; decide) (fun q => absurd n0 q)
end MR2
