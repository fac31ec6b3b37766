/-! The law's tick. -/
def UX (A : WA) (u : Nat → Nat) (st : Nat) : Prop := ∀ v, v < 6 → A 1 v = nI (u v) ∧ u v ≤ st
def VX (A : WA) (S : St) : Prop := ∀ v, v < 6 → A 2 v = (S.vk v).2.2.2 ∧ ∀ w, w < 8 → A 3 (8 * v + w) = (S.vk v).1 w ∧ A 4 (8 * v + w) = (S.vk v).2.1 w ∧ A 5 (8 * v + w) = (S.vk v).2.2.1 w
def PF (u : Nat → Nat) (st : Nat) (P : List Pt) : Prop := ∀ q ∈ P, q.2.2.1 < 6 ∧ q.2.2.2.1 < 6 ∧ 1 ≤ q.1 ∧ q.1 ≤ st ∧ q.2.2.2.2.2.1 = decide (¬ u q.2.2.2.1 = q.1) ∧ q.2.2.2.2.1 < 100000 ∧ q.2.1 < 100000
def kp (k i : Nat) : Prop := k = 1 ∨ k = 6 ∨ k = 7 ∨ (k = 0 ∧ (i = 0 ∨ i = 6 ∨ i = 7))
abbrev pL (P : List Pt) : List Lt := P.map (fun q => q.2.2)
def TkQ (A : WA) (S : St) (P : List Pt) (T tk : Nat) (h : AHp) : Option Value → AHp → Prop := fun rv h' => ∃ (A' : WA) (P' : List Pt) (j : Nat), HW h' A' ∧ Fr 423 435 h h' ∧ rv = some (.int (nI (tk + j))) ∧ ((due T (srt (pL P))).foldl recv S).ct 2 = S.ct 2 + j ∧ LtP A' P' ∧ VX A' ((due T (srt (pL P))).foldl recv S) ∧
  A' 0 2 = nI T ∧ A' 0 3 = nI (((due T (srt (pL P))).foldl recv S).ct 2) ∧ A' 0 4 = nI (((due T (srt (pL P))).foldl recv S).ct 3) ∧ A' 0 5 = ((due T (srt (pL P))).foldl recv S).ot ∧ (∀ k i, kp k i → A' k i = A k i) ∧
  srt (pL P') = (srt (pL P)).drop (due T (srt (pL P))).length ∧ P'.Sublist P ∧ ∀ q ∈ P', T < q.2.2.2.2.1
theorem P_split {P : List Pt} {m : Nat} {q : Pt} (hq : P[m]? = some q) : P = P.take m ++ q :: P.drop (m + 1) ∧ P.eraseIdx m = P.take m ++ P.drop (m + 1) := by
  have hl := (List.getElem?_eq_some_iff.mp hq).1
  have he := (List.getElem?_eq_some_iff.mp hq).2
  refine ⟨?_, List.eraseIdx_eq_take_drop_succ ..⟩
  rw [← he, List.getElem_cons_drop, List.take_append_drop]
theorem srt_next {P : List Pt} {m : Nat} {q : Pt} (hq : P[m]? = some q) (h1 : ∀ i x, i < m → P[i]? = some x → q.2.2.2.2.1 < x.2.2.2.2.1) (h2 : ∀ i x, m < i → i < P.length → P[i]? = some x → q.2.2.2.2.1 ≤ x.2.2.2.2.1) : srt (pL P) = q.2.2 :: srt (pL (P.eraseIdx m)) := by
  obtain ⟨e1, e2⟩ := P_split hq
  have a1 : pL P = pL (P.take m) ++ q.2.2 :: pL (P.drop (m + 1)) := by
    conv => lhs; rw [e1]
    simp [pL]
  have a2 : pL (P.eraseIdx m) = pL (P.take m) ++ pL (P.drop (m + 1)) := by rw [e2]; simp [pL]
  rw [a1, a2]
  refine srt_pick _ _ _ (fun y hy => ?_) (fun y hy => ?_)
  · obtain ⟨x, hx, rfl⟩ := List.mem_map.mp hy
    obtain ⟨i, hi⟩ := List.mem_iff_getElem?.mp hx
    rw [List.getElem?_take] at hi
    split at hi
    · rename_i c
      exact h1 i x c hi
    · cases hi
  · obtain ⟨x, hx, rfl⟩ := List.mem_map.mp hy
    obtain ⟨i, hi⟩ := List.mem_iff_getElem?.mp hx
    rw [List.getElem?_drop] at hi
    exact h2 (m + 1 + i) x (by omega) (List.getElem?_eq_some_iff.mp hi).1 hi
section TKL
variable {h h' : AHp} {A : WA} {S : St} {P : List Pt} {u : Nat → Nat} {st : Nat}
theorem LtP.keep {A' : WA} (hL : LtP A P) (he : ∀ k i, (k = 8 ∨ k = 9 ∨ k = 10 ∨ k = 11 ∨ (k = 0 ∧ i = 1)) → A' k i = A k i) : LtP A' P := by
  obtain ⟨l8, l1, lr⟩ := hL
  refine ⟨l8, by rw [he 0 1 (by omega)]; exact l1, fun k q hk => ?_⟩
  obtain ⟨y0, y1, y2, y3, y4, y5, y6⟩ := lr k q hk
  rw [he 8 _ (by omega), he 8 _ (by omega), he 8 _ (by omega), he 8 _ (by omega), he 8 _ (by omega), he 8 _ (by omega)]
  refine ⟨y0, y1, y2, y3, y4, y5, fun w hw => ?_⟩
  rw [he 9 _ (by omega), he 10 _ (by omega), he 11 _ (by omega)]
  exact y6 w hw
theorem LtP.lt (hL : LtP A P) {k : Nat} {q : Pt} (hk : P[k]? = some q) : k < 8 := by
  have := (List.getElem?_eq_some_iff.mp hk).1
  have := hL.1
  omega
/-- a view takes in what another one, or a letter, knows -/
theorem VX.merge {A : WA} {v : Nat} {O : Kn} (hV : VX A S) (hv : v < 6) {S' : St} (hS : S'.vk = va_up S.vk v (kTk (S.vk v) O)) : VX (mgA (ua A 2 v ((S.vk v).2.2.2 ||| O.2.2.2)) (8 * v) 8 (kTk (S.vk v) O)) S' := by
  intro i hi
  rw [hS]
  by_cases e : i = v
  · subst e
    have eu : va_up S.vk i (kTk (S.vk i) O) i = kTk (S.vk i) O := by unfold va_up; rw [if_pos rfl]
    rw [eu]
    refine ⟨?_, fun w hw => ⟨mgA_3 hw, mgA_4 hw, mgA_5 hw⟩⟩
    rw [mgA_k (by decide), ua_s]; rfl
  · have eu : va_up S.vk v (kTk (S.vk v) O) i = S.vk i := by unfold va_up; rw [if_neg e]
    rw [eu]
    obtain ⟨a1, a2⟩ := hV i hi
    refine ⟨?_, fun w hw => ?_⟩
    · rw [mgA_k (by decide), ua_j e]; exact a1
    · rw [mgA_out (by omega), mgA_out (by omega), mgA_out (by omega), ua_k (by decide), ua_k (by decide), ua_k (by decide)]
      exact a2 w hw
theorem mg_kp {v : Nat} {x : Int32} {N : Kn} {k i : Nat} (hk : k ≠ 2 ∧ k ≠ 3 ∧ k ≠ 4 ∧ k ≠ 5) : mgA (ua A 2 v x) (8 * v) 8 N k i = A k i := by
  rw [mgA_k ⟨hk.2.1, hk.2.2.1, hk.2.2.2⟩, ua_k hk.1]
set_option maxHeartbeats 4000000 in
theorem c_tickL {T g10 : Nat} (hT : T < 100000) (hst : st < 100000) : ∀ n (P : List Pt) (A : WA) (S : St) (h : AHp) (tk : Nat) (k13 : Int32) (v14 : Value), P.length = n → HW h A → LtP A P → VX A S → UX A u st → PF u st P → P.Pairwise (fun a c => a.2.1 < c.2.1) → A 0 3 = nI (S.ct 2) → A 0 4 = nI (S.ct 3) → A 0 5 = S.ot → ((P = [] ∧ k13 = -1) ∨ ∃ m, k13 = nI m ∧ nxAt P P.length m) →
    Ev none 73 19 [.ref 423, .ref 424, .ref 425, .ref 426, .ref 427, .ref 428, .ref 431, .ref 432, .ref 433, .ref 434, .int (nI g10), .int (nI tk), .int (nI T), .int k13, v14] [] h (TkQ A S P T tk h) := by
  intro n
  induction n with
  | zero =>
    intro P A S h tk k13 v14 hn hW hL hV hU hF hp c3 c4 c5 hx
    have hP : P = [] := List.length_eq_zero_iff.mp hn
    subst hP
    obtain ⟨-, rfl⟩ : (([] : List Pt) = [] ∧ k13 = -1) := hx.resolve_right (fun z => by
      obtain ⟨m, -, hm, -⟩ := z
      exact absurd hm (Nat.not_lt_zero m))
    obtain ⟨h1, e1, W1, r1⟩ := hW.s0 (j := 2) (by decide) (nI T)
    have e1' : sti h 423 2 (nI T) = some h1 := e1
    simp only [s73_19, s73_21, if_pos (show (-1 : Int32) < 0 by decide), s73_164, s73_165, s73_166, s73_168, s73_169, s73_171, e1', oB_some]
    refine ⟨_, [], 0, W1, r1, rfl, rfl, hL.keep (fun k i hk => ?_), fun v hv => ?_, ua_s _ _ _ _, ?_, ?_, ?_, fun k i hk => ?_, rfl, List.Sublist.refl _, fun q hq => (by cases hq)⟩
    · rw [ua_i, if_neg (by omega)]
    · obtain ⟨a1, a2⟩ := hV v hv
      rw [ua_k (by decide), ua_k (by decide), ua_k (by decide), ua_k (by decide)]
      exact ⟨a1, a2⟩
    · rw [ua_j (by decide)]; exact c3
    · rw [ua_j (by decide)]; exact c4
    · rw [ua_j (by decide)]; exact c5
    · unfold kp at hk
      rw [ua_i, if_neg (by omega)]
  | succ n ih =>
    intro P A S h tk k13 v14 hn hW hL hV hU hF hp c3 c4 c5 hx
    have hne : ¬ P = [] := fun q => by rw [q] at hn; cases hn
    obtain ⟨m, rfl, hm, q, hq, m1, m2⟩ := hx.resolve_left (fun z => hne z.1)
    obtain ⟨f1, f2, f3, f4, f5, f6, f7⟩ := hF q (List.mem_of_getElem? hq)
    obtain ⟨y0, y1, y2, y3, y4, y5, y6⟩ := hL.2.2 m q hq
    have hm8 : m < 8 := hL.lt hq
    have L3 := hW.l8 (show 6 * m + 3 < 48 by omega)
    rw [y3] at L3
    have es := srt_next hq m1 m2
    simp only [s73_19, s73_21, if_neg (nI_pos (show m < 2 ^ 31 by omega))]
    simp only [s73_24, s73_26, s73_28, s73_30, s73_31, s73_32, s73_33, s73_34, s73_36, i6, i3, L3, oB_some]
    by_cases ct : T < q.2.2.2.2.1
    · rw [if_pos (nI_lt ct (by omega))]
      obtain ⟨h1, e1, W1, r1⟩ := hW.s0 (j := 2) (by decide) (nI T)
      have e1' : sti h 423 2 (nI T) = some h1 := e1
      have ed : due T (srt (pL P)) = [] := by
        unfold due
        rw [es, List.takeWhile_cons_of_neg (by simp; omega)]
      simp only [s73_164, s73_165, s73_166, s73_168, s73_169, s73_171, e1', oB_some]
      unfold TkQ
      rw [ed]
      refine ⟨_, P, 0, W1, r1, rfl, rfl, hL.keep (fun k i hk => ?_), fun v hv => ?_, ua_s _ _ _ _, ?_, ?_, ?_, fun k i hk => ?_, rfl, List.Sublist.refl _, fun x hx => ?_⟩
      · rw [ua_i, if_neg (by omega)]
      · obtain ⟨a1, a2⟩ := hV v hv
        rw [ua_k (by decide), ua_k (by decide), ua_k (by decide), ua_k (by decide)]
        exact ⟨a1, a2⟩
      · rw [ua_j (by decide)]; exact c3
      · rw [ua_j (by decide)]; exact c4
      · rw [ua_j (by decide)]; exact c5
      · unfold kp at hk
        rw [ua_i, if_neg (by omega)]
      · obtain ⟨i, hi⟩ := List.mem_iff_getElem?.mp hx
        rcases Nat.lt_trichotomy i m with c | c | c
        · have := m1 i x c hi; omega
        · subst c; rw [hq] at hi; cases hi; exact ct
        · have := m2 i x c (List.getElem?_eq_some_iff.mp hi).1 hi; omega
    · rw [if_neg (nI_nlt (by omega) (by omega))]
      have ed : due T (srt (pL P)) = q.2.2 :: due T (srt (pL (P.eraseIdx m))) := by
        unfold due
        rw [es, List.takeWhile_cons_of_pos (by simp; omega)]
      have cont : ∀ (hh : AHp) (A2 : WA) (tk2 : Nat), HW hh A2 → Fr 423 435 h hh → LtP A2 P → VX A2 (recv S q.2.2) → A2 0 3 = nI ((recv S q.2.2).ct 2) → A2 0 4 = nI ((recv S q.2.2).ct 3) → A2 0 5 = (recv S q.2.2).ot → (∀ k i, kp k i → A2 k i = A k i) → tk2 + S.ct 2 = tk + (recv S q.2.2).ct 2 →
          Ev none 73 139 [.ref 423, .ref 424, .ref 425, .ref 426, .ref 427, .ref 428, .ref 431, .ref 432, .ref 433, .ref 434, .int (nI g10), .int (nI tk2), .int (nI T), .int (nI m), .int (nI q.2.2.2.1)] [] hh (TkQ A S P T tk h) := by
        intro hh A2 tk2 W2 r2 L2 V2 d3 d4 d5 kk etk
        simp only [s73_139, s73_140, s73_142, s73_144, s73_146, s73_148, s73_150]
        refine Call.mono (c_dropT W2 L2 hm) ?_
        rintro rv h3 ⟨rfl, ⟨A3, W3, L3', k3⟩, r3⟩
        simp only [Option.toList_none, List.nil_append, s73_153, s73_154, s73_156]
        have hsub : (P.eraseIdx m).Sublist P := List.eraseIdx_sublist ..
        have F3 : PF u st (P.eraseIdx m) := fun x hx => hF x (hsub.subset hx)
        have p3 := hp.sublist hsub
        refine Call.mono (c_nextT W3 L3' (fun x hx => ⟨(F3 x hx).2.2.2.2.2.1, (F3 x hx).2.2.2.2.2.2⟩) p3) ?_
        rintro rv h4 ⟨rfl, hx4⟩
        obtain ⟨k4, rfl, hx4'⟩ : ∃ k4, rv = some (.int k4) ∧ (((P.eraseIdx m) = [] ∧ k4 = -1) ∨ ∃ m', k4 = nI m' ∧ nxAt (P.eraseIdx m) (P.eraseIdx m).length m') := by
          rcases hx4 with ⟨a, b⟩ | ⟨m', a, b⟩
          · exact ⟨_, b, Or.inl ⟨a, rfl⟩⟩
          · exact ⟨_, a, Or.inr ⟨m', rfl, b⟩⟩
        simp only [Option.toList_some, List.cons_append, List.nil_append, s73_159, s73_161]
        have V3 : VX A3 (recv S q.2.2) := fun v hv => by
          obtain ⟨a1, a2⟩ := V2 v hv
          refine ⟨by rw [k3 2 v (by decide) (Or.inl (by decide))]; exact a1, fun w hw => ?_⟩
          rw [k3 3 _ (by decide) (Or.inl (by decide)), k3 4 _ (by decide) (Or.inl (by decide)), k3 5 _ (by decide) (Or.inl (by decide))]
          exact a2 w hw
        have U3 : UX A3 u st := fun v hv => by
          rw [k3 1 v (by decide) (Or.inl (by decide)), kk 1 v (Or.inl rfl)]
          exact hU v hv
        have := ih (P.eraseIdx m) A3 (recv S q.2.2) h4 tk2 k4 (.int (nI q.2.2.2.1)) (by rw [List.length_eraseIdx_of_lt hm, hn]; rfl) W3 L3' V3 U3 F3 p3 (by rw [k3 0 3 (by decide) (Or.inr (by decide))]; exact d3) (by rw [k3 0 4 (by decide) (Or.inr (by decide))]; exact d4) (by rw [k3 0 5 (by decide) (Or.inr (by decide))]; exact d5) hx4'
        refine Ev.mono this ?_
        rintro rv h5 ⟨A', P', j, w1, w2, w3, w4, w5, w6, w7, w8, w9, w10, w11, w12, w13, w14⟩
        unfold TkQ
        rw [ed, List.foldl_cons]
        obtain ⟨d, hd⟩ : ∃ d, (recv S q.2.2).ct 2 = S.ct 2 + d ∧ tk2 = tk + d := by
          unfold recv at etk ⊢
          by_cases cl : q.2.2.2.2.2.1 = true
          · rw [if_pos cl] at etk ⊢
            refine ⟨0, rfl, ?_⟩
            have : tk2 + S.ct 2 = tk + S.ct 2 := etk
            omega
          · rw [if_neg cl] at etk ⊢
            refine ⟨1, rfl, ?_⟩
            have : tk2 + S.ct 2 = tk + (S.ct 2 + 1) := etk
            omega
        refine ⟨A', P', d + j, w1, (r2.tr r3).tr w2, ?_, ?_, w5, w6, w7, w8, w9, w10, fun k i hk => ?_, ?_, w13.trans hsub, w14⟩
        · rw [w3, hd.2, Nat.add_assoc]
        · rw [w4, hd.1, Nat.add_assoc]
        · rw [w11 k i hk]
          have hk' := hk
          unfold kp at hk'
          rw [k3 k i (by omega) (by omega)]
          exact kk k i hk
        · rw [w12, es, List.length_cons, List.drop_succ_cons]
      have hto := hU q.2.2.2.1 f2
      have L1 := hW.l8 (show 6 * m + 1 < 48 by omega)
      have L2 := hW.l8 (show 6 * m + 2 < 48 by omega)
      have L5 := hW.l8 (show 6 * m + 5 < 48 by omega)
      have Lu := hW.l1 f2
      rw [y1] at L1
      rw [y2] at L2
      rw [y5] at L5
      rw [hto.1] at Lu
      simp only [s73_39, s73_41, s73_43, s73_45, s73_46, s73_47, s73_48, s73_49, s73_51, s73_52, s73_54, s73_55, s73_57, s73_59, s73_61, s73_62, s73_63, s73_64, s73_65, i6, i1, i2, L1, L2, Lu, oB_some]
      by_cases cs : u q.2.2.2.1 = q.1
      · have hl : q.2.2.2.2.2.1 = false := by rw [f5]; simp [cs]
        rw [if_neg (fun z => z (by rw [cs]))]
        obtain ⟨vx1, vx2⟩ := hV q.2.2.2.1 f2
        have Lx := hW.l2 f2
        rw [vx1] at Lx
        obtain ⟨h1, e1, W1, r1⟩ := hW.s2 f2 ((S.vk q.2.2.2.1).2.2.2 ||| q.2.2.2.2.2.2.2.2.2)
        have Lx1 := W1.l2 f2
        rw [ua_s] at Lx1
        have g5 := W1.g.2.2.2.2.2.1
        rw [ua_k (by decide), c5] at g5
        simp only [s73_68, s73_69, s73_71, s73_72, s73_73, s73_75, s73_77, s73_79, s73_80, s73_81, s73_82, s73_83, s73_84, s73_85, s73_86, s73_87, s73_88, s73_89, s73_90, s73_92, s73_94, s73_96, s73_98, s73_99, s73_100, s73_102, s73_103, s73_105, s73_107, s73_109, s73_111, s73_113, s73_114, i6, i5, i8, Lx, L5, e1, oB_some, g5, Lx1]
        refine Call.mono (c_mergeT (s := 9) (K := S.vk q.2.2.2.1) (O := q.2.2.2.2.2.2) W1 (show 8 * q.2.2.2.1 + 8 ≤ 48 by omega) (Or.inr ⟨rfl, show 8 * m + 8 ≤ 64 by omega⟩) rfl (fun w hw => by rw [ua_k (by decide), ua_k (by decide), ua_k (by decide)]; exact vx2 w hw) (fun w hw => by rw [ua_k (by decide), ua_k (by decide), ua_k (by decide)]; exact y6 w hw)) ?_
        rintro rv h2 ⟨rfl, W2, r2⟩
        obtain ⟨h3, e3, W3, r3⟩ := W2.s0 (j := 5) (by decide) (S.ot + kCt (S.vk q.2.2.2.1) q.2.2.2.2.2.2)
        have e3' : sti h2 423 5 (S.ot + kCt (S.vk q.2.2.2.1) q.2.2.2.2.2.2) = some h3 := e3
        have g3 := W3.g.2.2.2.1
        rw [ua_j (by decide), mg_kp (by decide), c3] at g3
        obtain ⟨h4, e4, W4, r4⟩ := W3.s0 (j := 3) (by decide) (nI (S.ct 2 + 1))
        have e4' : sti h3 423 3 (nI (S.ct 2 + 1)) = some h4 := e4
        simp only [Option.toList_some, List.cons_append, List.nil_append, s73_117, s73_118, s73_119, s73_122, s73_123, s73_124, s73_125, s73_126, s73_127, s73_128, s73_129, e3', g3, i1, e4', oB_some]
        have er : recv S q.2.2 = sCT (sOT (sVK S (va_up S.vk q.2.2.2.1 (kTk (S.vk q.2.2.2.1) q.2.2.2.2.2.2))) (S.ot + kCt (S.vk q.2.2.2.1) q.2.2.2.2.2.2)) (va_up S.ct 2 (S.ct 2 + 1)) := by
          unfold recv
          rw [if_neg (by rw [hl]; exact Bool.false_ne_true)]
        have a2 : ∀ k i, k ≠ 2 → k ≠ 3 → k ≠ 4 → k ≠ 5 → (k = 0 → i ≠ 5 ∧ i ≠ 3) → ua (ua (mgA (ua A 2 q.2.2.2.1 ((S.vk q.2.2.2.1).2.2.2 ||| q.2.2.2.2.2.2.2.2.2)) (8 * q.2.2.2.1) 8 (kTk (S.vk q.2.2.2.1) q.2.2.2.2.2.2)) 0 5 (S.ot + kCt (S.vk q.2.2.2.1) q.2.2.2.2.2.2)) 0 3 (nI (S.ct 2 + 1)) k i = A k i := by
          intro k i n2 n3 n4 n5 n0
          rw [ua_i, if_neg (fun z => (n0 z.1).2 z.2), ua_i, if_neg (fun z => (n0 z.1).1 z.2), mg_kp ⟨n2, n3, n4, n5⟩]
        refine cont h4 _ (tk + 1) W4 (((r1.tr r2).tr r3).tr r4) (hL.keep (fun k i hk => a2 k i (by omega) (by omega) (by omega) (by omega) (by omega))) ?_ ?_ ?_ ?_ (fun k i hk => a2 k i (by unfold kp at hk; omega) (by unfold kp at hk; omega) (by unfold kp at hk; omega) (by unfold kp at hk; omega) (by unfold kp at hk; omega)) ?_
        · have V2 := hV.merge (O := q.2.2.2.2.2.2) f2 (S' := recv S q.2.2) (by rw [er])
          intro v hv
          obtain ⟨b1, b2⟩ := V2 v hv
          refine ⟨?_, fun w hw => ?_⟩
          · rw [ua_k (by decide), ua_k (by decide)]; exact b1
          · rw [ua_k (by decide), ua_k (by decide), ua_k (by decide), ua_k (by decide), ua_k (by decide), ua_k (by decide)]; exact b2 w hw
        · rw [ua_s, er]; rfl
        · rw [ua_j (by decide), ua_j (by decide), mg_kp (by decide), c4, er]; rfl
        · rw [ua_j (by decide), ua_s, er]
        · rw [er]
          show tk + 1 + S.ct 2 = tk + (S.ct 2 + 1)
          omega
      · have hl : q.2.2.2.2.2.1 = true := by rw [f5]; simp [cs]
        rw [if_pos (fun z => cs ((nI_eq (by omega) (by omega)).mp z))]
        have g4 := hW.g.2.2.2.2.1
        rw [c4] at g4
        obtain ⟨h4, e4, W4, r4⟩ := hW.s0 (j := 4) (by decide) (nI (S.ct 3 + 1))
        have e4' : sti h 423 4 (nI (S.ct 3 + 1)) = some h4 := e4
        simp only [s73_132, s73_133, s73_134, s73_135, s73_136, s73_137, s73_138, g4, i1, e4', oB_some]
        have er : recv S q.2.2 = sCT S (va_up S.ct 3 (S.ct 3 + 1)) := by
          unfold recv
          rw [if_pos hl]
        refine cont h4 _ tk W4 r4 (hL.keep (fun k i hk => by rw [ua_i, if_neg (by omega)])) ?_ ?_ ?_ ?_ (fun k i hk => by unfold kp at hk; rw [ua_i, if_neg (by omega)]) ?_
        · intro v hv
          obtain ⟨b1, b2⟩ := hV v hv
          rw [er]
          refine ⟨?_, fun w hw => ?_⟩
          · rw [ua_k (by decide)]; exact b1
          · rw [ua_k (by decide), ua_k (by decide), ua_k (by decide)]; exact b2 w hw
        · rw [ua_j (by decide), c3, er]; rfl
        · rw [ua_s, er]; rfl
        · rw [ua_j (by decide), c5, er]
        · rw [er]; rfl
/-- the law's tick does what the class does -/
theorem c_tickT {g1 tk : Nat} (hW : HW h A) (hL : LtP A P) (hV : VX A S) (hU : UX A u st) (hF : PF u st P) (hp : P.Pairwise (fun a c => a.2.1 < c.2.1)) (hst : st < 100000) (hT : g1 + tk < 100000) (c2 : A 0 2 = nI g1) (c3 : A 0 3 = nI (S.ct 2)) (c4 : A 0 4 = nI (S.ct 3)) (c5 : A 0 5 = S.ot) :
    Call 73 [.ref 423, .ref 424, .ref 425, .ref 426, .ref 427, .ref 428, .ref 431, .ref 432, .ref 433, .ref 434, .int (nI tk)] h (TkQ A S P (g1 + tk) 0 h) := by
  simp only [s73_0, s73_1, s73_3, s73_4, s73_5, s73_6, s73_8, s73_9, s73_11, s73_12, s73_14, s73_e, hW.g, c2, oB_some, nI_add]
  refine Call.mono (c_nextT hW hL (fun x hx => ⟨(hF x hx).2.2.2.2.2.1, (hF x hx).2.2.2.2.2.2⟩) hp) ?_
  rintro rv h4 ⟨rfl, hx4⟩
  obtain ⟨k4, rfl, hx4'⟩ : ∃ k4, rv = some (.int k4) ∧ ((P = [] ∧ k4 = -1) ∨ ∃ m', k4 = nI m' ∧ nxAt P P.length m') := by
    rcases hx4 with ⟨a, b⟩ | ⟨m', a, b⟩
    · exact ⟨_, b, Or.inl ⟨a, rfl⟩⟩
    · exact ⟨_, a, Or.inr ⟨m', rfl, b⟩⟩
  simp only [Option.toList_some, List.cons_append, List.nil_append, s73_17]
  exact c_tickL hT hst P.length P A S h4 0 k4 _ rfl hW hL hV hU hF hp c3 c4 c5 hx4'
end TKL
