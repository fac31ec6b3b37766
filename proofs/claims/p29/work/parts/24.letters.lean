/-! Letters: posted, received, taken out of the row. -/
def insR (L : Lt) : List Lt → List Lt
  | [] => [L]
  | M :: r => if M.2.2.1 ≤ L.2.2.1 then M :: insR L r else L :: M :: r
def aPost (S : St) (x z tk : Int32) : Int32 × St := match ix x 6, ix z 6 with
  | some v, some u => if ¬ S.th v = true ∨ ¬ S.th u = true ∨ v = u ∨ ¬ (1 ≤ tk ∧ tk ≤ 99) then (eI, S) else if ¬ S.lt.length < 8 then (eL, S) else
    (nI (S.ct 1 + tk.toNatClampNeg), sLT S (insR (v, u, S.ct 1 + tk.toNatClampNeg, false, S.vk v) S.lt))
  | _, _ => (eI, S)
def recv (S : St) (M : Lt) : St := if M.2.2.2.1 = true then sCT S (va_up S.ct 3 (S.ct 3 + 1)) else
  sCT (sOT (sVK S (va_up S.vk M.2.1 (kTk (S.vk M.2.1) M.2.2.2.2))) (S.ot + kCt (S.vk M.2.1) M.2.2.2.2)) (va_up S.ct 2 (S.ct 2 + 1))
def due (T : Nat) (l : List Lt) : List Lt := l.takeWhile (fun L => decide (L.2.2.1 ≤ T))
def aTick (S : St) (tk : Int32) : Int32 × St := if ¬ (1 ≤ tk ∧ tk ≤ 99) then (eI, S) else if 1999 < S.ct 1 + tk.toNatClampNeg then (eL, S) else
  (nI (((due (S.ct 1 + tk.toNatClampNeg) S.lt).foldl recv (sCT S (va_up S.ct 1 (S.ct 1 + tk.toNatClampNeg)))).ct 2) - nI (S.ct 2),
    sLT ((due (S.ct 1 + tk.toNatClampNeg) S.lt).foldl recv (sCT S (va_up S.ct 1 (S.ct 1 + tk.toNatClampNeg)))) (S.lt.drop (due (S.ct 1 + tk.toNatClampNeg) S.lt).length))
theorem insR_at (L : Lt) : ∀ (l : List Lt) (p : Nat), p ≤ l.length → (∀ k M, k < p → l[k]? = some M → M.2.2.1 ≤ L.2.2.1) → (∀ k M, p ≤ k → l[k]? = some M → L.2.2.1 < M.2.2.1) → ∀ k, (insR L l)[k]? = if k < p then l[k]? else if k = p then some L else l[k - 1]? := by
  intro l
  induction l with
  | nil =>
    intro p hp _ _ k
    have : p = 0 := by simpa using hp
    subst this
    cases k with
    | zero => rfl
    | succ k => simp [insR]
  | cons M r ih =>
    intro p hp h1 h2 k
    unfold insR
    cases p with
    | zero =>
      rw [if_neg (Nat.not_le.mpr (h2 0 M (Nat.le_refl 0) rfl))]
      cases k with
      | zero => rfl
      | succ k => simp
    | succ p =>
      rw [if_pos (h1 0 M (Nat.succ_pos p) rfl)]
      cases k with
      | zero => simp
      | succ k =>
        have := ih p (by simpa using hp) (fun j X hj hX => h1 (j + 1) X (by omega) (by simpa using hX)) (fun j X hj hX => h2 (j + 1) X (by omega) (by simpa using hX)) k
        rw [List.getElem?_cons_succ, this]
        by_cases e1 : k < p
        · rw [if_pos e1, if_pos (show k + 1 < p + 1 by omega)]; simp
        · rw [if_neg e1, if_neg (show ¬ k + 1 < p + 1 by omega)]
          by_cases e2 : k = p
          · rw [if_pos e2, if_pos (show k + 1 = p + 1 by omega)]
          · rw [if_neg e2, if_neg (show ¬ k + 1 = p + 1 by omega)]
            rw [show k + 1 - 1 = (k - 1) + 1 by omega, List.getElem?_cons_succ]
theorem insR_mem {L X : Lt} : ∀ {l : List Lt}, X ∈ insR L l → X = L ∨ X ∈ l := by
  intro l
  induction l with
  | nil => intro h; simp [insR] at h; exact Or.inl h
  | cons M r ih =>
    intro h
    unfold insR at h
    split at h
    · rcases List.mem_cons.mp h with rfl | h
      · exact Or.inr List.mem_cons_self
      · rcases ih h with z | z
        · exact Or.inl z
        · exact Or.inr (List.mem_cons_of_mem _ z)
    · rcases List.mem_cons.mp h with rfl | h
      · exact Or.inl rfl
      · exact Or.inr h
theorem insR_len (L : Lt) : ∀ (l : List Lt), (insR L l).length = l.length + 1 := by
  intro l
  induction l with
  | nil => rfl
  | cons M r ih =>
    unfold insR
    split
    · simp [ih]
    · simp
theorem insR_sorted (L : Lt) : ∀ (l : List Lt), l.Pairwise (fun a c => a.2.2.1 ≤ c.2.2.1) → (insR L l).Pairwise (fun a c => a.2.2.1 ≤ c.2.2.1) := by
  intro l
  induction l with
  | nil => intro _; simp [insR]
  | cons M r ih =>
    intro h
    obtain ⟨h1, h2⟩ := List.pairwise_cons.mp h
    unfold insR
    split
    · rename_i hl
      refine List.pairwise_cons.mpr ⟨fun X hX => ?_, ih h2⟩
      rcases insR_mem hX with rfl | hX
      · exact hl
      · exact h1 X hX
    · rename_i hl
      refine List.pairwise_cons.mpr ⟨fun X hX => ?_, h⟩
      rcases List.mem_cons.mp hX with rfl | hX
      · omega
      · have := h1 X hX; omega
section LT
variable {h h' : AHp} {t : Nat} {S : St}
theorem c_insertLetter {F f g : Nat → Int32} {K : Nat → Kn} {o : Nat → Nat} {Ls : Nat → Lt} {n a0 : Nat} (hR : HR h t F K f g o Ls) (inj : ∀ i j, i < 8 → j < 8 → o i = o j → i = j) (hF : F 6 = nI n) (hn : n < 8) (ha : a0 < 2000000000) (hb : ∀ k, k < n → (Ls (o k)).2.2.1 < 2000000000) :
    Call 38 [.ref t, .int (nI a0)] h (fun rv h' => rv = some (.ref (t + 29 + 5 * o n)) ∧ (∃ p, p ≤ n ∧ (∀ k, p ≤ k → k < n → a0 < (Ls (o k)).2.2.1) ∧ (p = 0 ∨ (Ls (o (p - 1))).2.2.1 ≤ a0) ∧ HR h' t (upd F 6 (nI (n + 1))) K f g (fun k => if k = p then o n else if p < k ∧ k ≤ n then o (k - 1) else o k) (va_up Ls (o n) ((Ls (o n)).1, (Ls (o n)).2.1, a0, (Ls (o n)).2.2.2))) ∧ Fr t (t + 69) h h') := by
  have hon := hR.2.2.2.2.2.1 n hn
  simp only [s38_0, s38_1, s38_4, s38_5, s38_8, s38_9, s38_10, s38_11, s38_12, s38_e, hR.fl, hF, oB_some, hR.lq hn]
  obtain ⟨h1, e1, l1, r1⟩ := (hR.lL hon).s2 (x := a0)
  have b1 := hR.sL hon l1 r1
  simp only [e1, oB_some, s38_15, s38_16, s38_19, b1.fl, hF]
  have loop : ∀ p (hh : AHp), p ≤ n → (∀ k, p ≤ k → k < n → a0 < (Ls (o k)).2.2.1) → HR hh t F K f g (fun k => if p < k ∧ k ≤ n then o (k - 1) else o k) (va_up Ls (o n) ((Ls (o n)).1, (Ls (o n)).2.1, a0, (Ls (o n)).2.2.2)) → Fr t (t + 69) h hh →
      Ev none 38 20 [.ref t, .int (nI a0), .ref (t + 29 + 5 * o n), .int (nI p)] [] hh (fun rv h' => rv = some (.ref (t + 29 + 5 * o n)) ∧ (∃ p, p ≤ n ∧ (∀ k, p ≤ k → k < n → a0 < (Ls (o k)).2.2.1) ∧ (p = 0 ∨ (Ls (o (p - 1))).2.2.1 ≤ a0) ∧ HR h' t (upd F 6 (nI (n + 1))) K f g (fun k => if k = p then o n else if p < k ∧ k ≤ n then o (k - 1) else o k) (va_up Ls (o n) ((Ls (o n)).1, (Ls (o n)).2.1, a0, (Ls (o n)).2.2.2))) ∧ Fr t (t + 69) h h') := by
    have fin : ∀ p (hh : AHp), p ≤ n → (∀ k, p ≤ k → k < n → a0 < (Ls (o k)).2.2.1) → (p = 0 ∨ (Ls (o (p - 1))).2.2.1 ≤ a0) → HR hh t F K f g (fun k => if p < k ∧ k ≤ n then o (k - 1) else o k) (va_up Ls (o n) ((Ls (o n)).1, (Ls (o n)).2.1, a0, (Ls (o n)).2.2.2)) → Fr t (t + 69) h hh →
      Ev none 38 59 [.ref t, .int (nI a0), .ref (t + 29 + 5 * o n), .int (nI p)] [] hh (fun rv h' => rv = some (.ref (t + 29 + 5 * o n)) ∧ (∃ p, p ≤ n ∧ (∀ k, p ≤ k → k < n → a0 < (Ls (o k)).2.2.1) ∧ (p = 0 ∨ (Ls (o (p - 1))).2.2.1 ≤ a0) ∧ HR h' t (upd F 6 (nI (n + 1))) K f g (fun k => if k = p then o n else if p < k ∧ k ≤ n then o (k - 1) else o k) (va_up Ls (o n) ((Ls (o n)).1, (Ls (o n)).2.1, a0, (Ls (o n)).2.2.2))) ∧ Fr t (t + 69) h h') := by
      intro p hh hp h1 h2 hH hr
      simp only [s38_59, s38_60, s38_63, s38_64, s38_65, hH.fl, oB_some]
      obtain ⟨g1, q1, c1, s1⟩ := hH.so (k := p) (j := o n) (by omega) hon
      simp only [q1, oB_some, s38_66, s38_67, s38_68, s38_71, s38_72, s38_73, c1.fl, hF, nI_s]
      obtain ⟨g2, q2, c2, s2⟩ := c1.sF (k := 6) (by decide) (nI (n + 1))
      simp only [q2, oB_some, s38_76, s38_77]
      refine ⟨trivial, ⟨p, hp, h1, h2, ?_⟩, (hr.tr s1).tr s2⟩
      exact c2
    intro p
    induction p with
    | zero =>
      intro hh hp h1 hH hr
      simp only [s38_20, s38_21, if_pos (show nI 0 ≤ 0 by decide)]
      exact fin 0 hh hp h1 (Or.inl rfl) hH hr
    | succ p ih =>
      intro hh hp h1 hH hr
      have hp8 : p < 8 := by omega
      have hop := hR.2.2.2.2.2.1 p hp8
      have hne : o p ≠ o n := fun q => by have := inj p n hp8 hn q; omega
      simp only [s38_20, s38_21, if_neg (nI_nle (Nat.succ_pos p) (show p + 1 < 2147483648 by omega))]
      have hlq := hH.lq hp8
      rw [if_neg (by omega)] at hlq
      have hLp := hH.lL hop
      have eLp : va_up Ls (o n) ((Ls (o n)).1, (Ls (o n)).2.1, a0, (Ls (o n)).2.2.2) (o p) = Ls (o p) := if_neg hne
      rw [eLp] at hLp
      simp only [s38_24, s38_25, s38_28, s38_29, s38_30, s38_31, s38_32, s38_35, s38_36, hH.fl, oB_some, nI_pred, hlq, hLp.f]
      by_cases hle : (Ls (o p)).2.2.1 ≤ a0
      · rw [if_pos ((nI_leI (by have := hb p (by omega); omega) (by omega)).mpr hle)]
        exact fin (p + 1) hh hp h1 (Or.inr hle) hH hr
      · rw [if_neg (fun q => hle ((nI_leI (by have := hb p (by omega); omega) (by omega)).mp q))]
        simp only [s38_39, s38_40, s38_43, s38_44, s38_45, s38_48, s38_49, s38_50, s38_51, s38_52, hH.fl, oB_some, nI_pred, hlq]
        obtain ⟨g1, q1, c1, s1⟩ := hH.so (k := p + 1) (j := o p) (by omega) hop
        simp only [q1, oB_some, s38_53, s38_56]
        have em : nI (p + 1) + (-1) = nI p := pk_m1 p
        rw [em]
        refine ih g1 (by omega) (fun k hk1 hk2 => ?_) ?_ (hr.tr s1)
        · by_cases e : k = p
          · subst e; omega
          · exact h1 k (by omega) hk2
        · have e : (va_up (fun k => if p + 1 < k ∧ k ≤ n then o (k - 1) else o k) (p + 1) (o p)) = (fun k => if p < k ∧ k ≤ n then o (k - 1) else o k) := by
            funext k
            unfold va_up
            by_cases e1 : k = p + 1
            · rw [if_pos e1, if_pos (by omega), e1, Nat.add_sub_cancel]
            · rw [if_neg e1]
              show (if p + 1 < k ∧ k ≤ n then o (k - 1) else o k) = _
              by_cases e2 : p + 1 < k ∧ k ≤ n
              · rw [if_pos e2, if_pos (by omega)]
              · rw [if_neg e2, if_neg (by omega)]
          rw [← e]
          exact c1
  refine loop n h1 (Nat.le_refl n) (fun k h1 h2 => by omega) ?_ (r1.up (by omega) (by omega))
  have e : (fun k => if n < k ∧ k ≤ n then o (k - 1) else o k) = o := by
    funext k
    rw [if_neg (by omega)]
  rw [e]
  exact b1
theorem tk_nI {x : Int32} {n : Nat} {M : Int32} (hM : M.toInt = n) (h : 1 ≤ x ∧ x ≤ M) : ∃ q, x = nI q ∧ 1 ≤ q ∧ q ≤ n ∧ x.toNatClampNeg = q := by
  have h1 := (i_le _ _).mp h.1
  have h2 := (i_le _ _).mp h.2
  have h3 := Int32.toInt_lt M
  have e1 : (1 : Int32).toInt = 1 := rfl
  refine ⟨x.toInt.toNat, ?_, by omega, by omega, rfl⟩
  apply Int32.toInt_inj.mp
  rw [nI_toInt (by omega)]
  omega
set_option maxHeartbeats 2000000 in
theorem c_postLetter (hS : HS h t S) (x z tk : Int32) : Call 37 [.ref t, .int x, .int z, .int tk] h (fun rv h' => rv = some (.int (aPost S x z tk).1) ∧ HS h' t (aPost S x z tk).2 ∧ Fr t (t + 69) h h') := by
  simp only [s37_0, s37_1, s37_2, s37_e, hS.f, c_hasView hS, Option.toList_some, List.cons_append, List.nil_append]
  rcases ix_cases x 6 with hx | ⟨v, hv6, rfl⟩
  · simp only [s37_5, s37_31, s37_33, hv_no hx, Bool.false_eq_true, if_false, if_true]
    simp only [aPost, hx]
    exact ⟨rfl, hS, Fr.rf⟩
  · have e0 := ix_nI hv6 (by decide)
    rw [hv_nI hv6]
    by_cases hc : S.th v = true
    · simp only [s37_5, s37_8, s37_9, s37_10, if_pos hc, if_neg n10, hS.f, c_hasView hS, Option.toList_some, List.cons_append, List.nil_append]
      rcases ix_cases z 6 with hz | ⟨u, hu6, rfl⟩
      · simp only [s37_13, s37_31, s37_33, hv_no hz, Bool.false_eq_true, if_false, if_true]
        simp only [aPost, e0, hz]
        exact ⟨rfl, hS, Fr.rf⟩
      · have f0 := ix_nI hu6 (by decide)
        rw [hv_nI hu6]
        by_cases hd : S.th u = true
        · simp only [s37_13, s37_16, s37_17, s37_18, if_pos hd, if_neg n10]
          by_cases hvu : v = u
          · rw [if_pos (by rw [hvu])]
            simp only [s37_31, s37_33]
            simp only [aPost, e0, f0, hvu, true_or, or_true, if_true]
            exact ⟨rfl, hS, Fr.rf⟩
          · rw [if_neg (fun q => hvu ((nI_eq (by omega) (by omega)).mp q))]
            simp only [s37_21, s37_22, s37_23, s37_25, c_isWithin, Option.toList_some, List.cons_append, List.nil_append, s37_28]
            by_cases ht : 1 ≤ tk ∧ tk ≤ 99
            · obtain ⟨q, rfl, hq1, hq2, hq3⟩ := tk_nI (M := 99) (n := 99) (by decide) ht
              rw [if_pos ht, if_pos n10]
              simp only [s37_34, s37_35, s37_38, s37_40, hS.f, oB_some]
              have w0 := hS.w
              by_cases h8 : S.lt.length < 8
              · rw [if_pos (show nI S.lt.length < 8 from nI_lt (b := 8) h8 (by decide))]
                simp only [s37_46, s37_47, s37_48, s37_51, s37_52, s37_53, hS.f, oB_some, nI_add]
                obtain ⟨F, f, g, o, Ls, a1, ⟨e1, e4, e6, e7, e8, e9, e10, q1, q2, q3, q4⟩, ⟨w1, w2, w3, w4, w5, w6, w7⟩⟩ := hS
                have hLk : ∀ k, k < S.lt.length → ∃ M, S.lt[k]? = some M ∧ Ls (o k) = M ∧ M ∈ S.lt := fun k hk => ⟨_, List.getElem?_eq_getElem hk, q4 k _ (List.getElem?_eq_getElem hk), List.getElem_mem hk⟩
                refine Call.mono (c_insertLetter (a0 := S.ct 1 + q) a1 q3 e6 h8 (by omega) (fun k hk => by
                  obtain ⟨M, m1, m2, m3⟩ := hLk k hk
                  rw [m2]
                  have := (w5 M m3).2.2
                  omega)) ?_
                rintro rv h1 ⟨rfl, ⟨p, hp, hgt, hle, b1⟩, r1⟩
                have hon := a1.2.2.2.2.2.1 S.lt.length h8
                have L1 := b1.lL hon
                have eL : va_up Ls (o S.lt.length) ((Ls (o S.lt.length)).1, (Ls (o S.lt.length)).2.1, S.ct 1 + q, (Ls (o S.lt.length)).2.2.2) (o S.lt.length) = ((Ls (o S.lt.length)).1, (Ls (o S.lt.length)).2.1, S.ct 1 + q, (Ls (o S.lt.length)).2.2.2) := if_pos rfl
                rw [eL] at L1
                simp only [Option.toList_some, List.cons_append, List.nil_append, s37_56, s37_58, s37_60, s37_61]
                obtain ⟨h2, g2, L2, r2⟩ := L1.s0 (x := v)
                have b2 := b1.sL hon L2 r2
                simp only [g2, oB_some, s37_64, s37_66, s37_67]
                obtain ⟨h3, g3, L3, r3⟩ := L2.s1 (x := u)
                have b3 := b2.sL hon L3 r3
                simp only [g3, oB_some, s37_70, s37_72, s37_73]
                obtain ⟨h4, g4, L4, r4⟩ := L3.s3 (x := false)
                have g4 : stf h3 (t + 29 + 5 * o S.lt.length) 1 3 (.int 0) = some h4 := g4
                have b4 := b3.sL hon L4 r4
                simp only [g4, oB_some, s37_76, s37_78, s37_81, s37_82, s37_85, s37_86, s37_87, L4.f, b4.fl, b4.vq hv6, L4.2.f]
                refine Call.mono (c_copyK L4.2 (b4.vK hv6) (by omega)) ?_
                rintro rv h5 ⟨rfl, k5, r5⟩
                obtain ⟨L5, r6⟩ := L4.s4 k5 r5
                have b5 := b4.sL hon L5 r6
                simp only [Option.toList_none, List.nil_append, s37_90, s37_92, s37_95, L5.f, oB_some]
                simp only [aPost, e0, f0, hc, hd, hvu, ht, h8, hq3, not_true, and_self, if_false, or_self]
                refine ⟨trivial, ⟨_, f, g, _, _, b5, ⟨e1, e4, ?_, e7, e8, e9, e10, q1, q2, ?_, ?_⟩, ⟨w1, w2, ?_, w4, ?_, w6, insR_sorted _ _ w7⟩⟩, ((((r1.tr (r2.up (by omega) (by omega))).tr (r3.up (by omega) (by omega))).tr (r4.up (by omega) (by omega))).tr (r6.up (by omega) (by omega)))⟩
                · show nI (S.lt.length + 1) = nI (insR _ S.lt).length
                  rw [insR_len]
                · intro i j hi hj hij
                  dsimp only at hij
                  by_cases c1 : i = p
                  · rw [if_pos c1] at hij
                    by_cases c2 : j = p
                    · omega
                    · rw [if_neg c2] at hij
                      by_cases c3 : p < j ∧ j ≤ S.lt.length
                      · rw [if_pos c3] at hij
                        have := q3 _ _ h8 (by omega) hij; omega
                      · rw [if_neg c3] at hij
                        have := q3 _ _ h8 hj hij; omega
                  · rw [if_neg c1] at hij
                    by_cases c2 : j = p
                    · rw [if_pos c2] at hij
                      by_cases c3 : p < i ∧ i ≤ S.lt.length
                      · rw [if_pos c3] at hij
                        have := q3 _ _ (by omega) h8 hij; omega
                      · rw [if_neg c3] at hij
                        have := q3 _ _ hi h8 hij; omega
                    · rw [if_neg c2] at hij
                      by_cases c3 : p < i ∧ i ≤ S.lt.length
                      · rw [if_pos c3] at hij
                        by_cases c4 : p < j ∧ j ≤ S.lt.length
                        · rw [if_pos c4] at hij
                          have := q3 _ _ (by omega) (by omega) hij; omega
                        · rw [if_neg c4] at hij
                          have := q3 _ _ (by omega) hj hij; omega
                      · rw [if_neg c3] at hij
                        by_cases c4 : p < j ∧ j ≤ S.lt.length
                        · rw [if_pos c4] at hij
                          have := q3 _ _ hi (by omega) hij; omega
                        · rw [if_neg c4] at hij
                          exact q3 _ _ hi hj hij
                · intro k M hk
                  have hk : (insR (v, u, S.ct 1 + q, false, S.vk v) S.lt)[k]? = some M := hk
                  have hat := insR_at (v, u, S.ct 1 + q, false, S.vk v) S.lt p hp (fun i X hi hX => by
                    rcases hle with z | z
                    · omega
                    · have hp1 : p - 1 < S.lt.length := by omega
                      obtain ⟨Y, y1, y2, y3⟩ := hLk (p - 1) hp1
                      rw [y2] at z
                      show X.2.2.1 ≤ S.ct 1 + q
                      by_cases e : i = p - 1
                      · subst e; rw [y1] at hX; cases hX; exact z
                      · have hi2 := (List.getElem?_eq_some_iff.mp hX).1
                        have := (List.pairwise_iff_getElem.mp w7) i (p - 1) hi2 hp1 (by omega)
                        rw [(List.getElem?_eq_some_iff.mp hX).2, (List.getElem?_eq_some_iff.mp y1).2] at this
                        omega) (fun i X hi hX => by
                    have hi2 := (List.getElem?_eq_some_iff.mp hX).1
                    have := hgt i hi hi2
                    rw [q4 i X hX] at this
                    exact this) k
                  rw [hat] at hk
                  show va_up _ (o S.lt.length) _ (if k = p then o S.lt.length else if p < k ∧ k ≤ S.lt.length then o (k - 1) else o k) = M
                  by_cases c1 : k < p
                  · rw [if_pos c1] at hk
                    rw [if_neg (by omega), if_neg (by omega)]
                    have hk2 := (List.getElem?_eq_some_iff.mp hk).1
                    have hne : o k ≠ o S.lt.length := fun z => by have := q3 k _ (by omega) h8 z; omega
                    simp only [va_up, if_neg hne]
                    exact q4 k M hk
                  · rw [if_neg c1] at hk
                    by_cases c2 : k = p
                    · rw [if_pos c2] at hk
                      rw [if_pos c2]
                      cases hk
                      simp only [va_up, if_true]
                    · rw [if_neg c2] at hk
                      have hk2 := (List.getElem?_eq_some_iff.mp hk).1
                      rw [if_neg c2, if_pos (by omega)]
                      have hne : o (k - 1) ≠ o S.lt.length := fun z => by have := q3 (k - 1) _ (by omega) h8 z; omega
                      simp only [va_up, if_neg hne]
                      exact q4 (k - 1) M hk
                · show (insR _ S.lt).length ≤ 8
                  rw [insR_len]; omega
                · intro L hL
                  rcases insR_mem hL with z | z
                  · rw [z]; exact ⟨hv6, hu6, by show S.ct 1 + q < 1000000000; omega⟩
                  · exact w5 L z
              · have h9 : S.lt.length = 8 := by have := w0.2.2.1; omega
                rw [if_neg (by rw [h9]; decide)]
                simp only [s37_43, s37_45]
                simp only [aPost, e0, f0, hc, hd, hvu, ht, h8, not_true, and_self, not_false_iff, if_false, or_self, if_true]
                exact ⟨rfl, hS, Fr.rf⟩
            · rw [if_neg ht]
              simp only [s37_31, s37_33, not_true, if_false]
              simp only [aPost, e0, f0, ht, not_false_iff, or_true, if_true]
              exact ⟨rfl, hS, Fr.rf⟩
        · simp only [s37_13, s37_31, s37_33, if_neg hd, if_true]
          simp only [aPost, e0, f0, hd, Bool.false_eq_true, not_false_iff, true_or, or_true, if_true]
          exact ⟨rfl, hS, Fr.rf⟩
    · simp only [s37_5, s37_31, s37_33, if_neg hc, if_true]
      simp only [aPost, e0]
      cases hz : ix z 6 with
      | none => exact ⟨rfl, hS, Fr.rf⟩
      | some u =>
        simp only [hc, Bool.false_eq_true, not_false_iff, true_or, if_true]
        exact ⟨rfl, hS, Fr.rf⟩
end LT
