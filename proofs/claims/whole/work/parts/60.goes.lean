/-! Ticks, one by one and all at once. -/
def chg (X : St) (t : Nat) (L : List Lt) : St := sLT (sCT X (va_up X.ct 1 t)) L
theorem up_sw {α : Type} (f : Nat → α) {i j : Nat} (h : i ≠ j) (x y : α) : va_up (va_up f i x) j y = va_up (va_up f j y) i x := by
  funext k
  unfold va_up
  by_cases c1 : k = i
  · have c2 : ¬ k = j := fun q => h (c1.symm.trans q)
    simp only [if_pos c1, if_neg c2]
  · simp only [if_neg c1]
theorem up_2 {α : Type} (f : Nat → α) (i : Nat) (x y : α) : va_up (va_up f i x) i y = va_up f i y := by
  funext k
  unfold va_up
  by_cases c1 : k = i
  · rw [if_pos c1, if_pos c1]
  · rw [if_neg c1, if_neg c1, if_neg c1]
theorem up_id {α : Type} (f : Nat → α) (i : Nat) : va_up f i (f i) = f := by
  funext k
  unfold va_up
  by_cases c1 : k = i
  · rw [if_pos c1, c1]
  · rw [if_neg c1]
theorem up_ne {α : Type} (f : Nat → α) {i j : Nat} (h : j ≠ i) (x : α) : va_up f i x j = f j := by
  unfold va_up; rw [if_neg h]
theorem up_eq {α : Type} (f : Nat → α) (i : Nat) (x : α) : va_up f i x i = x := by
  unfold va_up; rw [if_pos rfl]
theorem recv_chg (X : St) (t : Nat) (L : List Lt) (M : Lt) : recv (chg X t L) M = chg (recv X M) t L := by
  unfold recv
  by_cases c : M.2.2.2.1 = true
  · rw [if_pos c, if_pos c]
    show sLT (sCT X (va_up (va_up X.ct 1 t) 3 (va_up X.ct 1 t 3 + 1))) L = sLT (sCT X (va_up (va_up X.ct 3 (X.ct 3 + 1)) 1 t)) L
    rw [up_ne _ (by decide), up_sw _ (by decide)]
  · rw [if_neg c, if_neg c]
    have e : va_up (va_up X.ct 1 t) 2 (va_up X.ct 1 t 2 + 1) = va_up (va_up X.ct 2 (X.ct 2 + 1)) 1 t := by
      rw [up_ne _ (by decide), up_sw _ (by decide)]
    exact congrArg (fun f => sLT (sCT (sOT (sVK X (va_up X.vk M.2.1 (kTk (X.vk M.2.1) M.2.2.2.2))) (X.ot + kCt (X.vk M.2.1) M.2.2.2.2)) f) L) e
theorem fold_chg (t : Nat) (L : List Lt) : ∀ (D : List Lt) (X : St), D.foldl recv (chg X t L) = chg (D.foldl recv X) t L := by
  intro D
  induction D with
  | nil => intro X; rfl
  | cons M D ih =>
    intro X
    rw [List.foldl_cons, List.foldl_cons, recv_chg, ih]
theorem chg_chg (X : St) (t t' : Nat) (L L' : List Lt) : chg (chg X t L) t' L' = chg X t' L' := by
  show sLT (sCT X (va_up (va_up X.ct 1 t) 1 t')) L' = _
  rw [up_2]; rfl
def tick1 (S : St) : St := chg ((due (S.ct 1 + 1) S.lt).foldl recv S) (S.ct 1 + 1) (S.lt.drop (due (S.ct 1 + 1) S.lt).length)
def tkN : Nat → St → St
  | 0, S => S
  | n + 1, S => tick1 (tkN n S)
def tkT (S : St) (q : Nat) : St := chg ((due (S.ct 1 + q) S.lt).foldl recv S) (S.ct 1 + q) (S.lt.drop (due (S.ct 1 + q) S.lt).length)
theorem tw_2 (p q : Lt → Bool) (h : ∀ x, q x = true → p x = true) : ∀ l : List Lt, l.takeWhile p = l.takeWhile q ++ (l.drop (l.takeWhile q).length).takeWhile p := by
  intro l
  induction l with
  | nil => rfl
  | cons x l ih =>
    by_cases c : q x = true
    · rw [List.takeWhile_cons_of_pos c, List.takeWhile_cons_of_pos (h x c), List.length_cons, List.drop_succ_cons, List.cons_append, ← ih]
    · rw [List.takeWhile_cons_of_neg c]
      rfl
theorem due_2 (l : List Lt) {T T' : Nat} (h : T ≤ T') : due T' l = due T l ++ due T' (l.drop (due T l).length) :=
  tw_2 _ _ (fun x hx => decide_eq_true (Nat.le_trans (of_decide_eq_true hx) h)) l
theorem tkT_step (S : St) (q : Nat) : tick1 (tkT S q) = tkT S (q + 1) := by
  obtain ⟨D, hD⟩ : ∃ D, due (S.ct 1 + q) S.lt = D := ⟨_, rfl⟩
  have e1 : (tkT S q).ct 1 = S.ct 1 + q := up_eq ((due (S.ct 1 + q) S.lt).foldl recv S).ct 1 (S.ct 1 + q)
  have e2 : (tkT S q).lt = S.lt.drop D.length := by rw [← hD]; rfl
  unfold tick1
  rw [e1, e2]
  have e3 : due (S.ct 1 + (q + 1)) S.lt = D ++ due (S.ct 1 + q + 1) (S.lt.drop D.length) := by
    rw [← hD]
    exact due_2 S.lt (by omega)
  have e4 : tkT S q = chg (D.foldl recv S) (S.ct 1 + q) (S.lt.drop D.length) := by unfold tkT; rw [hD]
  rw [e4, fold_chg, chg_chg, ← List.foldl_append, ← e3]
  unfold tkT
  have e5 : (S.lt.drop D.length).drop (due (S.ct 1 + q + 1) (S.lt.drop D.length)).length = S.lt.drop (due (S.ct 1 + (q + 1)) S.lt).length := by
    rw [List.drop_drop, e3, List.length_append]
  rw [e5]
  rfl
theorem tkT_0 {S : St} (h : ∀ M ∈ S.lt, S.ct 1 < M.2.2.1) : tkT S 0 = S := by
  have e : due (S.ct 1 + 0) S.lt = [] := by
    unfold due
    cases hl : S.lt with
    | nil => rfl
    | cons M l =>
      have := h M (by rw [hl]; exact List.mem_cons_self ..)
      exact List.takeWhile_cons_of_neg (by simp; omega)
  unfold tkT
  rw [e]
  show sLT (sCT S (va_up S.ct 1 (S.ct 1))) S.lt = S
  rw [up_id]
theorem tkN_T {S : St} (h : ∀ M ∈ S.lt, S.ct 1 < M.2.2.1) : ∀ n, tkN n S = tkT S n := by
  intro n
  induction n with
  | zero => exact (tkT_0 h).symm
  | succ n ih =>
    show tick1 (tkN n S) = _
    rw [ih, tkT_step]
theorem aTick_eq {S : St} (h : ∀ M ∈ S.lt, S.ct 1 < M.2.2.1) {q : Nat} (h1 : 1 ≤ q) (h2 : q ≤ 99) (h3 : ¬ 1999 < S.ct 1 + q) : aTick S (nI q) = (nI ((tkN q S).ct 2) - nI (S.ct 2), tkN q S) := by
  have c1 : (1 : Int32) ≤ nI q ∧ nI q ≤ 99 := by
    rw [i_le, i_le, nI_toInt (by omega)]
    have e1 : (1 : Int32).toInt = 1 := rfl
    have e2 : (99 : Int32).toInt = 99 := rfl
    omega
  have cq : (nI q).toNatClampNeg = q := nI_cl (by omega)
  unfold aTick
  rw [if_neg (fun z => z c1), cq, if_neg h3, tkN_T h]
  have e : (due (S.ct 1 + q) S.lt).foldl recv (sCT S (va_up S.ct 1 (S.ct 1 + q))) = chg ((due (S.ct 1 + q) S.lt).foldl recv S) (S.ct 1 + q) S.lt := fold_chg (S.ct 1 + q) S.lt (due (S.ct 1 + q) S.lt) S
  rw [e]
  rfl
section GO
variable {h h' : AHp} {F s : Nat → Int32} {A : Ar} {S : St} {td : Nat → Nat} {came posted : Nat} {P : List Pt}
theorem y_goes (hM : HM h F s A) (hX : MY s S td came posted P) (ht : S.ct 1 < 1000000) : Call 121 [.ref 423] h (fun rv h' => ∃ m s', rv = some (.int (nI m)) ∧ HM h' F s' A ∧ Fr 423 430 h h' ∧ m ≤ P.length ∧
    (((P.map (fun q => q.2.2)).filter (fun x => decide (x.2.2.1 = S.ct 1 + 1))).foldl recv (sCT S (va_up S.ct 1 (S.ct 1 + 1)))).ct 2 = S.ct 2 + m ∧
    MY s' (((P.map (fun q => q.2.2)).filter (fun x => decide (x.2.2.1 = S.ct 1 + 1))).foldl recv (sCT S (va_up S.ct 1 (S.ct 1 + 1)))) td came posted (P.filter (fun q => decide (¬ q.2.2.2.2.1 = S.ct 1 + 1)))) := by
  obtain ⟨t, ht1⟩ : ∃ t, t = S.ct 1 + 1 := ⟨_, rfl⟩
  rw [← ht1]
  obtain ⟨S1, hS1⟩ : ∃ S1, S1 = sCT S (va_up S.ct 1 t) := ⟨_, rfl⟩
  rw [← hS1]
  have hc1 : S1.ct 1 = t := by rw [hS1]; exact up_eq S.ct 1 t
  have hc2 : S1.ct 2 = S.ct 2 := by rw [hS1]; exact up_ne S.ct (i := 1) (j := 2) (by decide) t
  have hs2 : s 2 = nI (S.ct 1) := hX.1.2.2.1
  have l2 : ldi h 424 2 = some (nI (S.ct 1)) := by rw [← hs2]; exact hM.ls (i := 2) (by decide)
  obtain ⟨h1, e1, k1, r1⟩ := hM.ss (show 2 < 420 by decide) (nI t)
  have e1' : sti h 424 2 (nI (S.ct 1) + 1) = some h1 := by rw [nI_1, ← ht1]; exact e1
  have u : ∀ i, i ≠ 2 → upd s 2 (nI t) i = s i := fun i hi => by unfold upd; rw [if_neg hi]
  have hX1 : MY (upd s 2 (nI t)) S1 td came posted P := by
    refine hX.keep rfl ?_ (fun i hi => u i (by omega))
    obtain ⟨z0, zn, zt, z3, z4, z5, z6, z7, z8⟩ := id hX.1
    rw [hS1]
    refine ⟨by rw [u _ (by omega)]; exact z0, by rw [u _ (by omega)]; exact zn, ?_, by rw [u _ (by omega)]; exact z3, by rw [u _ (by omega)]; exact z4, by rw [u _ (by omega)]; exact z5, fun v hv => ?_, fun w hw => ?_, z8⟩
    · show upd s 2 (nI t) 2 = nI (va_up S.ct 1 t 1)
      rw [up_eq]; unfold upd; rw [if_pos rfl]
    · obtain ⟨q1, q2, q3, q4⟩ := z6 v hv
      exact ⟨by rw [u _ (by omega)]; exact q1, q2, q3, q4.eq (fun i a1 a2 => u i (by omega))⟩
    · obtain ⟨q1, q2, q3⟩ := z7 w hw
      have : w < 8 := Nat.lt_of_lt_of_le hw z8
      exact ⟨by rw [u _ (by omega)]; exact q1, by rw [u _ (by omega)]; exact q2, q3⟩
  have loop : ∀ (R E : List Pt) (T : St) (m : Nat) (hh : AHp) (s1 : Nat → Int32), HM hh F s1 A → MY s1 T td came posted (E ++ R) → T.ct 1 = t → T.ct 2 = S.ct 2 + m → m + R.length ≤ P.length → (∀ q ∈ E, ¬ q.2.2.2.2.1 = t) → Fr 423 430 h hh →
      Ev none 121 14 [.ref 423, .int (nI m), .int (nI E.length)] [] hh (fun rv h' => ∃ m s', rv = some (.int (nI m)) ∧ HM h' F s' A ∧ Fr 423 430 h h' ∧ m ≤ P.length ∧
        (((R.map (fun q => q.2.2)).filter (fun x => decide (x.2.2.1 = t))).foldl recv T).ct 2 = S.ct 2 + m ∧
        MY s' (((R.map (fun q => q.2.2)).filter (fun x => decide (x.2.2.1 = t))).foldl recv T) td came posted (E ++ R.filter (fun q => decide (¬ q.2.2.2.2.1 = t)))) := by
    intro R
    induction R with
    | nil =>
      intro E T m hh s1 y1 y2 y3 y4 y5 y6 y7
      have cn : s1 1 = nI E.length := by have := y2.1.2.1; rwa [List.append_nil] at this
      have l1 : ldi hh 424 1 = some (nI E.length) := by rw [← cn]; exact y1.ls (i := 1) (by decide)
      simp only [s121_14, s121_15, s121_16, s121_19, s121_20, s121_21, y1.f, oB_some, l1, if_pos (Int32.le_refl _)]
      simp only [s121_64, s121_65]
      exact ⟨m, s1, by first | trivial | rfl, y1, y7, by omega, y4, y2⟩
    | cons q R ih =>
      intro E T m hh s1 y1 y2 y3 y4 y5 y6 y7
      have hlen : (E ++ q :: R).length = E.length + (R.length + 1) := by rw [List.length_append]; rfl
      have h8 := y2.2.2.2.2.2.2.1
      rw [hlen] at h8
      have cn : s1 1 = nI (E.length + (R.length + 1)) := by rw [← hlen]; exact y2.1.2.1
      have l1 : ldi hh 424 1 = some (nI (E.length + (R.length + 1))) := by rw [← cn]; exact y1.ls (i := 1) (by decide)
      have ct : s1 2 = nI t := by rw [← y3]; exact y2.1.2.2.1
      have l2 : ldi hh 424 2 = some (nI t) := by rw [← ct]; exact y1.ls (i := 2) (by decide)
      have hq : (E ++ q :: R)[E.length]? = some q := by rw [List.getElem?_append_right (Nat.le_refl _), Nat.sub_self]; rfl
      have hl := y_let y1 y2 hq
      have ha := (y2.2.2.2.2.2.2.2.2.1 q (List.mem_of_getElem? hq)).2.2.2.2.2.1
      simp only [s121_14, s121_15, s121_16, s121_19, s121_20, s121_21, y1.f, oB_some, l1, if_neg (show ¬ nI (E.length + (R.length + 1)) ≤ nI E.length from nI_ge (by omega) (by omega))]
      simp only [s121_24, s121_25, s121_26, s121_27, s121_30, s121_31, s121_34, s121_35, s121_36, y1.f, hl.2.2, Option.toList_some, List.cons_append, List.nil_append, oB_some, l2, nI_eq (show q.2.2.2.2.1 < 2147483648 by omega) (show t < 2147483648 by omega)]
      by_cases c : q.2.2.2.2.1 = t
      · rw [if_neg (fun z => z c)]
        simp only [s121_39, s121_40, s121_41, s121_42, y1.f]
        refine Call.mono (m_comes y1 y2 hq) ?_
        rintro rv h2 ⟨rfl, ⟨s2, k2, m2⟩, r2⟩
        have ee : (E ++ q :: R).eraseIdx E.length = E ++ R := by
          rw [List.eraseIdx_append_of_length_le (Nat.le_refl _), Nat.sub_self]; rfl
        rw [ee] at m2
        have ef : ((q :: R).map (fun q => q.2.2)).filter (fun x => decide (x.2.2.1 = t)) = q.2.2 :: (R.map (fun q => q.2.2)).filter (fun x => decide (x.2.2.1 = t)) := by
          rw [List.map_cons, List.filter_cons_of_pos (by simpa using c)]
        have eg : (q :: R).filter (fun q => decide (¬ q.2.2.2.2.1 = t)) = R.filter (fun q => decide (¬ q.2.2.2.2.1 = t)) := List.filter_cons_of_neg (by simpa using c)
        rw [ef, eg, List.foldl_cons]
        simp only [Option.toList_some, List.cons_append, List.nil_append]
        have h3 : (recv T q.2.2).ct 1 = t := (recv_lt T q.2.2).2.trans y3
        cases hb : q.2.2.2.2.2.1 with
        | true =>
          have h4 : (recv T q.2.2).ct 2 = S.ct 2 + m := by
            unfold recv; rw [if_pos hb]
            rw [← y4]; exact up_ne T.ct (i := 3) (j := 2) (by decide) (T.ct 3 + 1)
          simp only [s121_45, if_pos (show bI (!true) = 0 from rfl), s121_52, s121_53, s121_54, s121_55, Int32.add_zero]
          exact ih E (recv T q.2.2) m h2 s2 k2 m2 h3 h4 (by rw [List.length_cons] at y5; omega) y6 (y7.tr r2)
        | false =>
          have h4 : (recv T q.2.2).ct 2 = S.ct 2 + (m + 1) := by
            unfold recv; rw [if_neg (by rw [hb]; exact Bool.false_ne_true)]
            show va_up T.ct 2 (T.ct 2 + 1) 2 = _
            rw [up_eq, y4]; rfl
          simp only [s121_45, if_neg (show ¬ bI (!false) = 0 by decide), s121_48, s121_49, s121_53, s121_54, s121_55, nI_1]
          exact ih E (recv T q.2.2) (m + 1) h2 s2 k2 m2 h3 h4 (by rw [List.length_cons] at y5; omega) y6 (y7.tr r2)
      · rw [if_pos c]
        have ef : ((q :: R).map (fun q => q.2.2)).filter (fun x => decide (x.2.2.1 = t)) = (R.map (fun q => q.2.2)).filter (fun x => decide (x.2.2.1 = t)) := by
          rw [List.map_cons, List.filter_cons_of_neg (by simpa using c)]
        have eg : (q :: R).filter (fun q => decide (¬ q.2.2.2.2.1 = t)) = q :: R.filter (fun q => decide (¬ q.2.2.2.2.1 = t)) := List.filter_cons_of_pos (by simpa using c)
        have z := ih (E ++ [q]) T m hh s1 y1 (by rw [List.append_assoc]; exact y2) y3 y4 (by rw [List.length_cons] at y5; omega) (fun p hp => by
          rcases List.mem_append.mp hp with z | z
          · exact y6 p z
          · rw [List.mem_singleton.mp z]; exact c) y7
        rw [List.append_assoc, List.length_append, List.length_singleton] at z
        rw [ef, eg]
        simp only [s121_58, s121_61, nI_1]
        exact z
  simp only [s121_0, s121_1, s121_4, s121_5, s121_6, s121_7, s121_8, s121_9, s121_10, s121_11, s121_12, s121_13, s121_e, hM.f, oB_some, l2, e1']
  have z := loop P [] S1 0 h1 _ k1 hX1 hc1 (by rw [hc2]; rfl) (by omega) (fun q hq => by cases hq) r1
  refine Ev.mono z ?_
  rintro rv h' ⟨m, s', a1, a2, a3, a4, a5, a6⟩
  exact ⟨m, s', a1, a2, a3, a4, a5, a6⟩
end GO
