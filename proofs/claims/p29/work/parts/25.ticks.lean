section TK
variable {h h' : AHp} {t : Nat} {S : St}
theorem HS.setC (hS : HS h t S) {k : Nat} (x : Nat) (hk : k = 2 ∨ k = 3 ∨ (k = 1 ∧ x < 2000)) : ∃ h', stf h t 3 (k + 6) (.int (nI x)) = some h' ∧ HS h' t (sCT S (va_up S.ct k x)) ∧ Fr t (t + 69) h h' := by
  obtain ⟨F, f, g, o, Ls, a1, ⟨e1, e4, e6, e7, e8, e9, e10, q1, q2, q3⟩, ⟨w1, w2, w3, w4, w5⟩⟩ := hS
  rcases hk with rfl | rfl | ⟨rfl, hx⟩
  · obtain ⟨h', e, b, r⟩ := a1.sF (k := 8) (by decide) (nI x)
    exact ⟨h', e, ⟨_, f, g, o, Ls, b, ⟨e1, e4, e6, e7, rfl, e9, e10, q1, q2, q3⟩, ⟨w1, w2, w3, w4, w5⟩⟩, r⟩
  · obtain ⟨h', e, b, r⟩ := a1.sF (k := 9) (by decide) (nI x)
    exact ⟨h', e, ⟨_, f, g, o, Ls, b, ⟨e1, e4, e6, e7, e8, rfl, e10, q1, q2, q3⟩, ⟨w1, w2, w3, w4, w5⟩⟩, r⟩
  · obtain ⟨h', e, b, r⟩ := a1.sF (k := 7) (by decide) (nI x)
    exact ⟨h', e, ⟨_, f, g, o, Ls, b, ⟨e1, e4, e6, rfl, e8, e9, e10, q1, q2, q3⟩, ⟨w1, w2, w3, hx, w5⟩⟩, r⟩
theorem c_receive {a : Nat} {M : Lt} (hS : HS h t S) (hM : HL h a M) (h1 : t + 29 ≤ a) (h2 : a + 5 ≤ t + 69) (hto : M.2.1 < 6) : Call 40 [.ref t, .ref a] h (fun rv h' => rv = none ∧ HS h' t (recv S M) ∧ Fr t (t + 69) h h') := by
  simp only [s40_0, s40_1, s40_4, s40_e, hM.f, oB_some]
  cases hl : M.2.2.2.1 with
  | true =>
    rw [if_neg (show ¬ bI true = 0 by decide)]
    simp only [s40_7, s40_8, s40_9, s40_12, s40_13, s40_14, hS.f, oB_some, nI_s]
    obtain ⟨g1, e1, b1, r1⟩ := hS.setC (k := 3) (S.ct 3 + 1) (Or.inr (Or.inl rfl))
    simp only [e1, oB_some, s40_17, s40_55]
    simp only [recv, hl, if_true]
    exact ⟨trivial, b1, r1⟩
  | false =>
    rw [if_pos (show bI false = 0 by decide)]
    simp only [s40_20, s40_21, s40_22, s40_25, s40_26, s40_29, s40_30, s40_33, s40_34, s40_35, s40_38, hS.f, hM.f, oB_some, hS.vq hto, (hS.vK hto).f]
    refine Call.mono (c_takeIn (hS.vK hto) hM.2 (by omega)) ?_
    rintro rv h4 ⟨rfl, k4, r4⟩
    have hS4 := hS.setK hto k4 r4
    simp only [Option.toList_some, List.cons_append, List.nil_append, s40_41, s40_42]
    obtain ⟨g1, e1, b1, r1⟩ := hS4.setOt (S.ot + kCt (S.vk M.2.1) M.2.2.2.2)
    simp only [e1, oB_some, s40_45, s40_46, s40_47, s40_50, s40_51, s40_52, b1.f, nI_s]
    obtain ⟨g2, e2, b2, r2⟩ := b1.setC (k := 2) (S.ct 2 + 1) (Or.inl rfl)
    simp only [e2, oB_some, s40_55]
    simp only [recv, hl, Bool.false_eq_true, if_false]
    exact ⟨trivial, b2, ((frK hto r4).tr r1).tr r2⟩
theorem recv_lt (S : St) (M : Lt) : (recv S M).lt = S.lt ∧ (recv S M).ct 1 = S.ct 1 := by
  unfold recv
  split
  · exact ⟨rfl, rfl⟩
  · exact ⟨rfl, rfl⟩
theorem fold_lt : ∀ (l : List Lt) (S : St), (l.foldl recv S).lt = S.lt ∧ (l.foldl recv S).ct 1 = S.ct 1 := by
  intro l
  induction l with
  | nil => intro S; exact ⟨rfl, rfl⟩
  | cons M l ih =>
    intro S
    have a := ih (recv S M)
    have c := recv_lt S M
    exact ⟨a.1.trans c.1, a.2.trans c.2⟩
theorem c_removeLetters (hS : HS h t S) {c : Nat} (hc : c ≤ S.lt.length) : Call 41 [.ref t, .int (nI c)] h (fun rv h' => rv = none ∧ HS h' t (sLT S (S.lt.drop c)) ∧ Fr t (t + 69) h h') := by
  obtain ⟨F, f, g, o, Ls, a1, ⟨e1, e4, e6, e7, e8, e9, e10, q1, q2, q3, q4⟩, ⟨w1, w2, w3, w4, w5, w6, w7⟩⟩ := hS
  have loop : ∀ d k (hh : AHp) (p : Nat → Nat), k + d = S.lt.length → c ≤ k → HR hh t F S.vk f g p Ls → (∀ i j, i < 8 → j < 8 → p i = p j → i = j) → (∀ i, i + c < k → p i = o (i + c)) → (∀ i, k ≤ i → p i = o i) → Fr t (t + 69) h hh → ∀ v3 : Value, Ev none 41 2 [.ref t, .int (nI c), .int (nI k), v3] [] hh (fun rv h' => rv = none ∧ HS h' t (sLT S (S.lt.drop c)) ∧ Fr t (t + 69) h h') := by
    intro d
    induction d with
    | zero =>
      intro k hh p hk hck hR inj hp1 hp2 hr v3
      obtain rfl : k = S.lt.length := by omega
      simp only [s41_2, s41_3, s41_4, s41_7, hR.fl, oB_some, e6, if_pos (Int32.le_refl _)]
      simp only [s41_46, s41_47, s41_48, s41_51, s41_52, s41_53, hR.fl, oB_some, e6, pk_sub hc]
      obtain ⟨h1, g1, b1, r1⟩ := hR.sF (k := 6) (by decide) (nI (S.lt.length - c))
      simp only [g1, oB_some, s41_56]
      refine ⟨trivial, ⟨_, f, g, p, Ls, b1, ⟨e1, e4, ?_, e7, e8, e9, e10, q1, q2, inj, fun i M hi => ?_⟩, ⟨w1, w2, ?_, w4, fun L hL => w5 L (List.mem_of_mem_drop hL), w6, ?_⟩⟩, hr.tr r1⟩
      · show nI (S.lt.length - c) = nI (S.lt.drop c).length
        rw [List.length_drop]
      · have hi : (S.lt.drop c)[i]? = some M := hi
        rw [List.getElem?_drop] at hi
        have hl := (List.getElem?_eq_some_iff.mp hi).1
        rw [hp1 i (by omega)]
        refine q4 (i + c) M ?_
        rw [Nat.add_comm]; exact hi
      · show (S.lt.drop c).length ≤ 8
        rw [List.length_drop]; omega
      · exact w7.sublist (List.drop_sublist c _)
    | succ d ih =>
      intro k hh p hk hck hR inj hp1 hp2 hr v3
      have hk8 : k < 8 := by omega
      have hkc : k - c < 8 := by omega
      have z1 := hR.2.2.2.2.2.1 k hk8
      have z2 := hR.2.2.2.2.2.1 (k - c) hkc
      simp only [s41_2, s41_3, s41_4, s41_7, hR.fl, oB_some, e6, if_neg (nI_ge (show k < S.lt.length by omega) (by omega))]
      simp only [s41_10, s41_11, s41_14, s41_15, s41_16, s41_17, s41_18, s41_19, s41_20, s41_23, s41_24, s41_25, s41_26, s41_27, s41_30, s41_31, s41_32, hR.fl, oB_some, pk_sub hck, hR.lq hk8, hR.lq hkc]
      obtain ⟨h1, g1, b1, r1⟩ := hR.so (k := k - c) (j := p k) hkc z1
      simp only [g1, oB_some, s41_33, s41_34, s41_37, s41_38, s41_39, b1.fl]
      obtain ⟨h2, g2, b2, r2⟩ := b1.so (k := k) (j := p (k - c)) hk8 z2
      simp only [g2, oB_some, s41_40, s41_43, nI_s]
      refine ih (k + 1) h2 _ (by omega) (by omega) b2 (fun i j hi hj hij => ?_) (fun i hi => ?_) (fun i hi => ?_) ((hr.tr r1).tr r2) _
      · unfold va_up at hij
        by_cases c1 : i = k
        · rw [if_pos c1] at hij
          by_cases c2 : j = k
          · omega
          · rw [if_neg c2] at hij
            by_cases c3 : j = k - c
            · rw [if_pos c3] at hij
              have := inj _ _ hkc hk8 hij; omega
            · rw [if_neg c3] at hij
              have := inj _ _ hkc hj hij; omega
        · rw [if_neg c1] at hij
          by_cases c4 : i = k - c
          · rw [if_pos c4] at hij
            by_cases c2 : j = k
            · rw [if_pos c2] at hij
              have := inj _ _ hk8 hkc hij; omega
            · rw [if_neg c2] at hij
              by_cases c3 : j = k - c
              · omega
              · rw [if_neg c3] at hij
                have := inj _ _ hk8 hj hij; omega
          · rw [if_neg c4] at hij
            by_cases c2 : j = k
            · rw [if_pos c2] at hij
              have := inj _ _ hi hkc hij; omega
            · rw [if_neg c2] at hij
              by_cases c3 : j = k - c
              · rw [if_pos c3] at hij
                have := inj _ _ hi hk8 hij; omega
              · rw [if_neg c3] at hij
                exact inj _ _ hi hj hij
      · unfold va_up
        by_cases c1 : i = k
        · have c0 : c = 0 := by omega
          subst c0
          rw [if_pos c1, Nat.sub_zero, hp2 k (Nat.le_refl k), c1, Nat.add_zero]
        · rw [if_neg c1]
          by_cases c2 : i = k - c
          · rw [if_pos c2, hp2 k (Nat.le_refl k), c2, Nat.sub_add_cancel hck]
          · rw [if_neg c2]
            exact hp1 i (by omega)
      · unfold va_up
        rw [if_neg (by omega), if_neg (by omega)]
        exact hp2 i (by omega)
  simp only [s41_0, s41_1, s41_e]
  exact loop (S.lt.length - c) c h o (by omega) (Nat.le_refl c) a1 q3 (fun i hi => by omega) (fun i _ => rfl) Fr.rf _
theorem due_take {T : Nat} {l : List Lt} {c : Nat} (h1 : ∀ k M, k < c → l[k]? = some M → M.2.2.1 ≤ T) (hc : c ≤ l.length) (h2 : ∀ M, l[c]? = some M → T < M.2.2.1) : due T l = l.take c := by
  unfold due
  induction l generalizing c with
  | nil =>
    have : c = 0 := by simpa using hc
    subst this; rfl
  | cons M r ih =>
    cases c with
    | zero =>
      have := h2 M rfl
      rw [List.takeWhile_cons_of_neg (by simp; omega)]; rfl
    | succ c =>
      have := h1 0 M (Nat.succ_pos c) rfl
      rw [List.takeWhile_cons_of_pos (by simpa using this), List.take_succ_cons, ih (c := c) (fun k X hk hX => h1 (k + 1) X (by omega) (by simpa using hX)) (by simpa using hc) (fun X hX => h2 X (by simpa using hX))]
theorem take_snoc {l : List Lt} {k : Nat} {M : Lt} (h : l[k]? = some M) : l.take (k + 1) = l.take k ++ [M] := by
  rw [List.take_succ, h]; rfl
theorem c_passTicks (hS : HS h t S) (tk : Int32) : Call 39 [.ref t, .int tk] h (fun rv h' => rv = some (.int (aTick S tk).1) ∧ HS h' t (aTick S tk).2 ∧ Fr t (t + 69) h h') := by
  simp only [s39_0, s39_1, s39_2, s39_4, s39_e, c_isWithin, Option.toList_some, List.cons_append, List.nil_append, s39_7]
  by_cases ht : 1 ≤ tk ∧ tk ≤ 99
  · obtain ⟨q, rfl, hq1, hq2, hq3⟩ := tk_nI (M := 99) (n := 99) (by decide) ht
    rw [if_pos ht, if_pos n10]
    have hw := hS.w
    have hw4 := hw.2.2.2.1
    simp only [s39_13, s39_14, s39_17, s39_18, s39_19, s39_22, hS.f, oB_some, nI_add]
    by_cases hlim : S.ct 1 + q ≤ 1999
    · rw [if_pos (show nI (S.ct 1 + q) ≤ 1999 from (nI_leI (b := 1999) (by omega) (by decide)).mpr hlim)]
      simp only [s39_28, s39_29, s39_30, s39_33, s39_34, s39_35, hS.f, oB_some, nI_add]
      obtain ⟨h1, g1, b1, r1⟩ := hS.setC (k := 1) (S.ct 1 + q) (Or.inr (Or.inr ⟨rfl, by omega⟩))
      simp only [g1, oB_some, s39_38, s39_39, s39_42, s39_43, s39_44, b1.f]
      have e2 : (sCT S (va_up S.ct 1 (S.ct 1 + q))).ct 2 = S.ct 2 := rfl
      rw [e2]
      have loop : ∀ d c (hh : AHp), c + d = S.lt.length → HS hh t ((S.lt.take c).foldl recv (sCT S (va_up S.ct 1 (S.ct 1 + q)))) → (∀ k M, k < c → S.lt[k]? = some M → M.2.2.1 ≤ S.ct 1 + q) → Fr t (t + 69) h hh → Ev none 39 45 [.ref t, .int (nI q), .int (nI (S.ct 2)), .int (nI c)] [] hh (fun rv h' => rv = some (.int (aTick S (nI q)).1) ∧ HS h' t (aTick S (nI q)).2 ∧ Fr t (t + 69) h h') := by
        have fin : ∀ c (hh : AHp), c ≤ S.lt.length → HS hh t ((S.lt.take c).foldl recv (sCT S (va_up S.ct 1 (S.ct 1 + q)))) → (∀ k M, k < c → S.lt[k]? = some M → M.2.2.1 ≤ S.ct 1 + q) → (∀ M, S.lt[c]? = some M → S.ct 1 + q < M.2.2.1) → Fr t (t + 69) h hh → Ev none 39 85 [.ref t, .int (nI q), .int (nI (S.ct 2)), .int (nI c)] [] hh (fun rv h' => rv = some (.int (aTick S (nI q)).1) ∧ HS h' t (aTick S (nI q)).2 ∧ Fr t (t + 69) h h') := by
          intro c hh hc hSS h1 h2 hr
          obtain ⟨el, e1⟩ := fold_lt (S.lt.take c) (sCT S (va_up S.ct 1 (S.ct 1 + q)))
          have el2 : ((S.lt.take c).foldl recv (sCT S (va_up S.ct 1 (S.ct 1 + q)))).lt = S.lt := el
          simp only [s39_85, s39_86, s39_87, hSS.f]
          refine Call.mono (c_removeLetters hSS (c := c) (by rw [el2]; exact hc)) ?_
          rintro rv h3 ⟨rfl, b3, r3⟩
          simp only [Option.toList_none, List.nil_append, s39_90, s39_91, s39_94, s39_95, s39_96, b3.f, oB_some]
          have ed := due_take h1 hc h2
          have hl : (S.lt.take c).length = c := by rw [List.length_take]; omega
          rw [el2] at b3
          simp only [aTick, ht, hq3, not_true, and_self, if_false, if_neg (show ¬ 1999 < S.ct 1 + q by omega), ed, hl]
          exact ⟨trivial, b3, hr.tr r3⟩
        intro d
        induction d with
        | zero =>
          intro c hh hc hSS h1 hr
          obtain rfl : c = S.lt.length := by omega
          obtain ⟨el, e1⟩ := fold_lt (S.lt.take S.lt.length) (sCT S (va_up S.ct 1 (S.ct 1 + q)))
          have el2 : ((S.lt.take S.lt.length).foldl recv (sCT S (va_up S.ct 1 (S.ct 1 + q)))).lt = S.lt := el
          simp only [s39_45, s39_46, s39_47, s39_50, hSS.f, oB_some, el2, if_pos (Int32.le_refl _)]
          exact fin S.lt.length hh (Nat.le_refl _) hSS h1 (fun M hM => by rw [List.getElem?_eq_none (Nat.le_refl _)] at hM; cases hM) hr
        | succ d ih =>
          intro c hh hc hSS h1 hr
          have hcl : c < S.lt.length := by omega
          obtain ⟨el, e1⟩ := fold_lt (S.lt.take c) (sCT S (va_up S.ct 1 (S.ct 1 + q)))
          have el2 : ((S.lt.take c).foldl recv (sCT S (va_up S.ct 1 (S.ct 1 + q)))).lt = S.lt := el
          have e12 : ((S.lt.take c).foldl recv (sCT S (va_up S.ct 1 (S.ct 1 + q)))).ct 1 = S.ct 1 + q := e1
          have hM : S.lt[c]? = some S.lt[c] := List.getElem?_eq_getElem hcl
          obtain ⟨a, m1, m2, m3, m4⟩ := hSS.lL (k := c) (M := S.lt[c]) (by rw [el2]; exact hM)
          have hb := hw.2.2.2.2.1 S.lt[c] (List.getElem_mem hcl)
          have h8 := hw.2.2.1
          simp only [s39_45, s39_46, s39_47, s39_50, hSS.f, oB_some, el2, if_neg (nI_ge hcl (by omega))]
          simp only [s39_53, s39_54, s39_57, s39_58, s39_59, s39_62, s39_63, s39_66, hSS.f, oB_some, m1, m2.f, e12]
          by_cases hle : S.lt[c].2.2.1 ≤ S.ct 1 + q
          · rw [if_neg (nI_nlt hle (by omega))]
            simp only [s39_69, s39_70, s39_71, s39_74, s39_75, s39_76, hSS.f, oB_some, m1]
            refine Call.mono (c_receive hSS m2 m3 m4 hb.2.1) ?_
            rintro rv h3 ⟨rfl, b3, r3⟩
            simp only [Option.toList_none, List.nil_append, s39_79, s39_82, nI_s]
            refine ih (c + 1) h3 (by omega) ?_ (fun k M hk hMk => ?_) (hr.tr r3)
            · rw [take_snoc hM, List.foldl_append]; exact b3
            · by_cases e : k = c
              · subst e; rw [hM] at hMk; cases hMk; exact hle
              · exact h1 k M (by omega) hMk
          · rw [if_pos (nI_lt (by omega) (by omega))]
            exact fin c hh (by omega) hSS h1 (fun M hMc => by rw [hM] at hMc; cases hMc; omega) hr
      exact loop S.lt.length 0 h1 (Nat.zero_add _) b1 (fun k M hk => by omega) r1
    · rw [if_neg (show ¬ nI (S.ct 1 + q) ≤ 1999 from fun z => hlim ((nI_leI (b := 1999) (by omega) (by decide)).mp z))]
      simp only [s39_25, s39_27]
      simp only [aTick, ht, hq3, not_true, and_self, if_false, if_pos (show 1999 < S.ct 1 + q by omega)]
      exact ⟨rfl, hS, Fr.rf⟩
  · rw [if_neg ht]
    simp only [s39_10, s39_12, not_true, if_false]
    simp only [aTick, ht, not_false_iff, if_true]
    exact ⟨rfl, hS, Fr.rf⟩
/-- the next view in turn -/
def nxF (p : Nat → Bool) (v : Nat) : Nat → Nat → Nat
  | 0, _ => v
  | d + 1, k => if p ((v + k) % 6) = true then (v + k) % 6 else nxF p v d (k + 1)
def nxt (p : Nat → Bool) (v : Nat) : Nat := nxF p v 6 1
end TK
