/-! The model's changes: letters are posted, ticks pass; what would be. -/
theorem IV.cg {G : Nat} {S : St} (h : IV G S) {t : Nat} {L : List Lt} (hL : ∀ M ∈ L, M ∈ S.lt) : IV G (chg S t L) := by
  obtain ⟨a, h1, h2, h3, h4, h5⟩ := h
  have e : (chg S t L).ct 0 = S.ct 0 := up_ne S.ct (i := 1) (j := 0) (by decide) t
  exact ⟨a, fun v hv => by rw [e]; exact h1 v hv, fun M hM => by rw [e]; exact h2 M (hL M hM), h3, by rw [e]; exact h4, by rw [e]; exact h5⟩
theorem iv_tick1 {G : Nat} {S : St} (h : IV G S) : IV G (tick1 S) := by
  refine IV.cg (iv_recv _ S h (fun M hM => (List.takeWhile_sublist _).subset hM)) (fun M hM => ?_)
  rw [(fold_lt _ _).1]
  exact (List.drop_sublist _ _).subset hM
theorem iv_tkN {G : Nat} {S : St} (h : IV G S) : ∀ n, IV G (tkN n S) := by
  intro n
  induction n with
  | zero => exact h
  | succ n ih => exact iv_tick1 ih
def wq (v : Nat) (K : Kn) (M : Lt) : Kn := if M.2.1 = v ∧ ¬ M.2.2.2.1 = true then kTk K M.2.2.2.2 else K
theorem fold_vk (v : Nat) : ∀ (D : List Lt) (S : St), (D.foldl recv S).vk v = D.foldl (wq v) (S.vk v) := by
  intro D
  induction D with
  | nil => intro S; rfl
  | cons M D ih =>
    intro S
    rw [List.foldl_cons, List.foldl_cons, ih]
    congr 1
    unfold recv wq
    by_cases c : M.2.2.2.1 = true
    · rw [if_pos c, if_neg (fun q => q.2 c)]
    · rw [if_neg c]
      show va_up S.vk M.2.1 (kTk (S.vk M.2.1) M.2.2.2.2) v = _
      by_cases e : M.2.1 = v
      · subst e; rw [up_eq, if_pos ⟨rfl, c⟩]
      · rw [up_ne _ (fun q => e q.symm), if_neg (fun q => e q.1)]
theorem fold_wl {S : St} {v q : Nat} (hs : S.lt.Pairwise (fun a c => a.2.2.1 ≤ c.2.2.1)) (hb : ∀ M ∈ S.lt, M.2.2.1 < 1000000000) (ht : S.ct 1 + q < 1000000000) (K : Kn) : S.lt.foldl (wl S v (nI q)) K = (due (S.ct 1 + q) S.lt).foldl (wq v) K := by
  have one : ∀ (M : Lt) (K : Kn), M.2.2.1 < 1000000000 → wl S v (nI q) K M = if M.2.2.1 ≤ S.ct 1 + q then wq v K M else K := by
    intro M K hM
    unfold wl wq
    simp only [nI_add, le_nI (show M.2.2.1 < 2147483648 by omega) (show S.ct 1 + q < 2147483648 by omega)]
    by_cases c : M.2.2.1 ≤ S.ct 1 + q
    · rw [if_pos c]
      by_cases e : M.2.1 = v ∧ ¬ M.2.2.2.1 = true
      · rw [if_pos e, if_pos ⟨e.1, e.2, c⟩]
      · rw [if_neg e, if_neg (fun z => e ⟨z.1, z.2.1⟩)]
    · rw [if_neg c, if_neg (fun z => c z.2.2)]
  have none : ∀ (l : List Lt) (K : Kn), (∀ M ∈ l, S.ct 1 + q < M.2.2.1 ∧ M.2.2.1 < 1000000000) → l.foldl (wl S v (nI q)) K = K := by
    intro l
    induction l with
    | nil => intro K _; rfl
    | cons M l ih =>
      intro K h
      have := h M (List.mem_cons_self ..)
      rw [List.foldl_cons, one M K this.2, if_neg (by omega)]
      exact ih K (fun N hN => h N (List.mem_cons_of_mem _ hN))
  have key : ∀ (l : List Lt) (K : Kn), l.Pairwise (fun a c => a.2.2.1 ≤ c.2.2.1) → (∀ M ∈ l, M.2.2.1 < 1000000000) → l.foldl (wl S v (nI q)) K = (due (S.ct 1 + q) l).foldl (wq v) K := by
    intro l
    induction l with
    | nil => intro K _ _; rfl
    | cons M l ih =>
      intro K hp h
      obtain ⟨p1, p2⟩ := List.pairwise_cons.mp hp
      have hM := h M (List.mem_cons_self ..)
      unfold due
      by_cases c : M.2.2.1 ≤ S.ct 1 + q
      · rw [List.takeWhile_cons_of_pos (by simpa using c), List.foldl_cons, List.foldl_cons, one M K hM, if_pos c]
        exact ih _ p2 (fun N hN => h N (List.mem_cons_of_mem _ hN))
      · rw [List.takeWhile_cons_of_neg (by simpa using c)]
        refine none _ K (fun N hN => ?_)
        rcases List.mem_cons.mp hN with rfl | z
        · omega
        · have := p1 N z
          have := h N (List.mem_cons_of_mem _ z)
          omega
  exact key S.lt K hs hb
section MPO
variable {h h' : AHp} {F s : Nat → Int32} {A : Ar} {S : St} {G m : Nat}
theorem x_goes {td : Nat → Nat} {came posted : Nat} {P : List Pt} (hM : HM h F s A) (hX : MX s S td came posted P) (ht : S.ct 1 < 900000) : Call 121 [.ref 423] h (fun rv h' => ∃ m s' P', rv = some (.int (nI m)) ∧ HM h' F s' A ∧ Fr 423 430 h h' ∧ m ≤ 8 ∧ (tick1 S).ct 2 = S.ct 2 + m ∧ MX s' (tick1 S) td came posted P') := by
  have hY := hX.my (by omega)
  refine Call.mono (y_goes hM hY (by omega)) ?_
  rintro rv h' ⟨m, s', rfl, k, r, hm, e, hm2⟩
  have h9 := hX.2.2.2.2.2.2.2.2.1
  have hlt := hX.2.2.2.2.2.2.2.2.2.2
  have hl : ∀ x ∈ P.map (fun q => q.2.2), S.ct 1 + 1 ≤ x.2.2.1 := by
    intro x hx
    obtain ⟨q, hq, rfl⟩ := List.mem_map.mp hx
    have := (h9 q hq).2.2.2.2.2.1
    show S.ct 1 + 1 ≤ q.2.2.2.2.1
    omega
  obtain ⟨d1, d2⟩ := due_split hl
  rw [← hlt] at d1 d2
  have h8 := hX.2.2.2.2.2.2.1
  obtain ⟨D, hD⟩ : ∃ D, D = (P.map (fun q => q.2.2)).filter (fun x => decide (x.2.2.1 = S.ct 1 + 1)) := ⟨_, rfl⟩
  rw [← hD] at e hm2 d1
  have efold : D.foldl recv (sCT S (va_up S.ct 1 (S.ct 1 + 1))) = chg (D.foldl recv S) (S.ct 1 + 1) S.lt := fold_chg (S.ct 1 + 1) S.lt D S
  rw [efold] at e hm2
  have etick : tick1 S = chg (D.foldl recv S) (S.ct 1 + 1) (S.lt.drop D.length) := by unfold tick1; rw [d1]
  refine ⟨m, s', P.filter (fun q => decide (¬ q.2.2.2.2.1 = S.ct 1 + 1)), rfl, k, r, by omega, ?_, ?_⟩
  · rw [etick]
    exact e
  · rw [etick]
    have hY2 : MY s' (chg (D.foldl recv S) (S.ct 1 + 1) (S.lt.drop D.length)) td came posted (P.filter (fun q => decide (¬ q.2.2.2.2.1 = S.ct 1 + 1))) := hm2
    have c1 : (chg (D.foldl recv S) (S.ct 1 + 1) (S.lt.drop D.length)).ct 1 = S.ct 1 + 1 := up_eq (D.foldl recv S).ct 1 (S.ct 1 + 1)
    refine hY2.mx (fun q hq => ?_) ?_
    · obtain ⟨q1, q2⟩ := List.mem_filter.mp hq
      have q2 : ¬ q.2.2.2.2.1 = S.ct 1 + 1 := of_decide_eq_true q2
      have := h9 q q1
      rw [c1]
      omega
    · show S.lt.drop D.length = _
      rw [d1] at d2
      rw [d2, List.filter_map]
      rfl
theorem tk_ct (S : St) : ∀ n, (tkN n S).ct 1 = S.ct 1 + n := by
  intro n
  induction n with
  | zero => rfl
  | succ n ih =>
    show (tick1 (tkN n S)).ct 1 = _
    have : (tick1 (tkN n S)).ct 1 = (tkN n S).ct 1 + 1 := up_eq ((due ((tkN n S).ct 1 + 1) (tkN n S).lt).foldl recv (tkN n S)).ct 1 _
    rw [this, ih]; rfl
theorem m_tick (hM : HM h F s A) (hX : MXG G s S) (hm : m ≤ 4) (hF : F 4 = nI m) (x : Int32) : Call 122 [.ref 423, .int x] h (MO G m F s A (aTick S x) h) := by
  obtain ⟨td, came, posted, P, hX, hc1, hp1, ht⟩ := hX
  have hL := hX.1
  simp only [s122_0, s122_1, s122_2, s122_4, s122_7, s122_e, m_in, Option.toList_some, List.cons_append, List.nil_append]
  by_cases cx : (1 : Int32) ≤ x ∧ x ≤ 99
  · rw [if_pos cx, if_pos (show ¬ (1 : Int32) = 0 by decide)]
    obtain ⟨q, q1, q2, rfl⟩ := nI_99 (n := 99) rfl cx
    have l2 : ldi h 424 2 = some (nI (S.ct 1)) := by rw [← hL.2.2.1]; exact hM.ls (i := 2) (by decide)
    simp only [s122_13, s122_14, s122_17, s122_18, s122_19, s122_20, s122_21, s122_24, hM.f, oB_some, l2, nI_add, (show (1999 : Int32) = nI 1999 from rfl), le_nI (show S.ct 1 + q < 2147483648 by omega) (show 1999 < 2147483648 by decide)]
    by_cases c9 : S.ct 1 + q ≤ 1999
    · rw [if_pos c9]
      have hlt := hX.2.2.2.2.2.2.2.2.2.2
      rw [aTick_eq (fun M hM => by
        rw [hlt] at hM
        obtain ⟨p, hp, rfl⟩ := List.mem_map.mp (srt_mem' hM)
        exact (hX.2.2.2.2.2.2.2.2.1 p hp).2.2.2.2.2.1) q2 q1 (by omega)]
      simp only [s122_30, s122_31, hM.f]
      refine Call.mono (m_changes hM hm hF) ?_
      rintro rv h1 ⟨rfl, ⟨F1, A1, k1, cg⟩, r1⟩
      have loop : ∀ d k n (hh : AHp) (s1 : Nat → Int32) (P1 : List Pt), k + d = q → HM hh F1 s1 A1 → MX s1 (tkN k S) td came posted P1 → (tkN k S).ct 2 = S.ct 2 + n → n ≤ 8 * k → Fr 423 430 h hh →
          Ev none 122 38 [.ref 423, .int (nI q), .int (nI n), .int (nI k)] [] hh (MO G m F s A (nI ((tkN q S).ct 2) - nI (S.ct 2), tkN q S) h) := by
        intro d
        induction d with
        | zero =>
          intro k n hh s1 P1 hk y1 y2 y3 y4 y5
          obtain rfl : k = q := by omega
          simp only [s122_38, s122_39, s122_40, if_pos (Int32.le_refl _)]
          simp only [s122_56, s122_57]
          have en : nI ((tkN k S).ct 2) - nI (S.ct 2) = nI n := by rw [y3, ← nI_add, Int32.add_comm, Int32.add_sub_cancel]
          rw [en]
          exact MO.ok (G := G) (r := (nI n, tkN k S)) y1 (isE_nI (by omega)) y5 cg ⟨td, came, posted, P1, y2, by omega, by omega, by rw [tk_ct]; omega⟩
        | succ d ih =>
          intro k n hh s1 P1 hk y1 y2 y3 y4 y5
          have hkq : k < q := by omega
          simp only [s122_38, s122_39, s122_40, if_neg (show ¬ nI q ≤ nI k from nI_ge hkq (by omega))]
          simp only [s122_43, s122_44, s122_45, y1.f]
          refine Call.mono (x_goes y1 y2 (by rw [tk_ct]; omega)) ?_
          rintro rv h2 ⟨j, s2, P2, rfl, k2, r2, j8, ej, m2⟩
          simp only [Option.toList_some, List.cons_append, List.nil_append, s122_48, s122_49, s122_50, s122_53, nI_add, nI_1]
          exact ih (k + 1) (n + j) h2 s2 P2 (by omega) k2 m2 (by show (tick1 (tkN k S)).ct 2 = _; rw [ej, y3]; omega) (by omega) (y5.tr r2)
      simp only [Option.toList_none, List.nil_append, s122_34, s122_35, s122_36, s122_37]
      exact loop q 0 0 h1 s P (Nat.zero_add _) k1 hX rfl (Nat.le_refl _) r1
    · rw [if_neg c9]
      have e : aTick S (nI q) = (eL, S) := by
        unfold aTick
        rw [if_neg (fun z => z cx), nI_cl (by omega), if_pos (by omega)]
      rw [e]
      simp only [s122_27, s122_29]
      exact MO.err (r := (eL, S)) hM isE_L
  · rw [if_neg cx, if_neg (show ¬ ¬ (0 : Int32) = 0 by decide)]
    have e : aTick S x = (eI, S) := by unfold aTick; rw [if_pos cx]
    rw [e]
    simp only [s122_10, s122_12]
    exact MO.err (r := (eI, S)) hM isE_I
theorem m_would (hM : HM h F s A) (hX : MXG G s S) (hi : IV G S) (hG : G ≤ 40000) (x y : Int32) : Call 138 [.ref 423, .int x, .int y] h (fun rv h' => rv = some (.int (aWould S x y)) ∧ (∃ t, HM h' F s (A.1, A.2.1, t, A.2.2.2)) ∧ Fr 423 430 h h') := by
  obtain ⟨td, came, posted, P, hX, hc1, hp1, ht⟩ := hX
  have hL := hX.1
  have bad : aWould S x y = eI → ∀ v3 v4, Ev none 138 18 [.ref 423, .int x, .int y, v3, v4] [] h (fun rv h' => rv = some (.int (aWould S x y)) ∧ (∃ t, HM h' F s (A.1, A.2.1, t, A.2.2.2)) ∧ Fr 423 430 h h') := by
    intro e v3 v4
    rw [e]
    simp only [s138_18, s138_20]
    exact ⟨by first | trivial | rfl, ⟨A.2.2.1, hM⟩, Fr.rf⟩
  simp only [s138_0, s138_1, s138_2, s138_5, s138_e, hM.f, m_isView hM hL x, Option.toList_some, List.cons_append, List.nil_append]
  rcases ix_cases x 6 with hx | ⟨v, hv6, rfl⟩
  · have e : hv S x = false := by unfold hv; rw [hx]
    rw [e, if_neg (show ¬ false = true by decide), if_pos rfl]
    exact bad (by unfold aWould; rw [hx]) _ _
  rw [hv_nI hv6]
  have e0 : aWould S (nI v) y = if ¬ S.th v = true ∨ ¬ (0 ≤ y ∧ y ≤ 99) then eI else kSum (S.lt.foldl (wl S v y) (S.vk v)) := by
    unfold aWould; rw [ix_nI hv6 (by decide)]
  by_cases c : S.th v = true
  · rw [if_pos c, if_neg (show ¬ (1 : Int32) = 0 by decide)]
    simp only [s138_8, s138_9, s138_10, s138_12, s138_15, m_in, Option.toList_some, List.cons_append, List.nil_append]
    by_cases cy : 0 ≤ y ∧ y ≤ 99
    · rw [if_pos cy, if_pos (show ¬ (1 : Int32) = 0 by decide)]
      rw [if_neg (fun q => q.elim (fun q => q c) (fun q => q cy))] at e0
      obtain ⟨q, hq, rfl⟩ : ∃ q, q < 100 ∧ y = nI q := by
        rcases ix_cases y 100 with z | z
        · have := (ix_iff (x := y) (n := 100) (by decide)).mpr cy
          rw [z] at this; cases this
        · exact z
      have hlt := hX.2.2.2.2.2.2.2.2.2.2
      have h9 : ∀ M ∈ S.lt, S.ct 1 < M.2.2.1 ∧ M.2.2.1 < 1000000000 := fun M hM => by
        rw [hlt] at hM
        obtain ⟨p, hp, rfl⟩ := List.mem_map.mp (srt_mem' hM)
        have := hX.2.2.2.2.2.2.2.2.1 p hp
        show S.ct 1 < p.2.2.2.2.1 ∧ p.2.2.2.2.1 < 1000000000
        omega
      have eK : S.lt.foldl (wl S v (nI q)) (S.vk v) = (tkN q S).vk v := by
        rw [fold_wl (by rw [hlt]; exact srt_sorted _) (fun M hM => (h9 M hM).2) (by omega), tkN_T (fun M hM => (h9 M hM).1), ← fold_vk]
        rfl
      rw [eK] at e0
      rw [e0]
      simp only [s138_21, s138_22, s138_25, s138_26, s138_29, hM.f, oB_some]
      refine Call.mono (m_save hM) ?_
      rintro rv h1 ⟨rfl, k1, r1⟩
      have loop : ∀ d k n (hh : AHp) (s1 : Nat → Int32) (P1 : List Pt), k + d = q → HM hh F s1 (A.1, A.2.1, s, A.2.2.2) → MX s1 (tkN k S) td came posted P1 → n ≤ 8 * k → Fr 423 430 h hh →
          Ev none 138 37 [.ref 423, .int (nI v), .int (nI q), .int (nI n), .int (nI k)] [] hh (fun rv h' => rv = some (.int (kSum ((tkN q S).vk v))) ∧ (∃ t, HM h' F s (A.1, A.2.1, t, A.2.2.2)) ∧ Fr 423 430 h h') := by
        intro d
        induction d with
        | zero =>
          intro k n hh s1 P1 hk y1 y2 y4 y5
          obtain rfl : k = q := by omega
          have hz := ((iv_tkN hi k).iz hG).1 v hv6
          have hk := (y2.1.2.2.2.2.2.2.1 v hv6).2.2.2
          simp only [s138_37, s138_39, s138_40, if_pos (Int32.le_refl _)]
          simp only [s138_56, s138_57, if_pos (show (0 : Int32) ≤ nI n from nI_pos' (by omega))]
          simp only [s138_65, s138_66, s138_67, s138_70, s138_71, s138_74, s138_76, s138_77, s138_80, s138_81, s138_84, y1.f, m_knows, m_sum0 y1 hk hz (by omega), oB_some, Option.toList_some, List.cons_append, List.nil_append]
          refine Call.mono (m_back y1) ?_
          rintro rv h3 ⟨rfl, k3, r3⟩
          simp only [Option.toList_none, List.nil_append, s138_87, s138_89]
          exact ⟨by first | trivial | rfl, ⟨s, k3⟩, y5.tr r3⟩
        | succ d ih =>
          intro k n hh s1 P1 hk y1 y2 y4 y5
          have hkq : k < q := by omega
          simp only [s138_37, s138_39, s138_40, if_neg (show ¬ nI q ≤ nI k from nI_ge hkq (by omega))]
          simp only [s138_43, s138_44, s138_45, y1.f]
          refine Call.mono (x_goes y1 y2 (by rw [tk_ct]; omega)) ?_
          rintro rv h2 ⟨j, s2, P2, rfl, k2, r2, j8, ej, m2⟩
          simp only [Option.toList_some, List.cons_append, List.nil_append, s138_48, s138_49, s138_50, s138_53, nI_add, nI_1]
          exact ih (k + 1) (n + j) h2 s2 P2 (by omega) k2 m2 (by omega) (y5.tr r2)
      simp only [Option.toList_none, List.nil_append, s138_32, s138_33, s138_34, s138_35]
      exact loop q 0 0 h1 s P (Nat.zero_add _) k1 hX (Nat.le_refl _) r1
    · rw [if_neg cy, if_neg (show ¬ ¬ (0 : Int32) = 0 by decide)]
      exact bad (by rw [e0, if_pos (Or.inr cy)]) _ _
  · rw [if_neg c, if_pos rfl]
    exact bad (by rw [e0, if_pos (Or.inl c)]) _ _
end MPO
