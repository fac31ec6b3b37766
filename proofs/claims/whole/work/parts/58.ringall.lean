/-! The ring of merges over states. -/
theorem ring_ext {p q : Nat → Bool} (h : ∀ i, i < 6 → p i = q i) : ∀ d X v, ring p d X v = ring q d X v := by
  intro d
  induction d with
  | zero => intro X v; rfl
  | succ d ih =>
    intro X v
    unfold ring
    rw [nxt_ext h, ih]
theorem ring_all {p : Nat → Bool} {j v : Nat} (hj : j < 6) (hp : p j = true) (hv : v < 6) (hpv : p v = true) : (ring p 30 (1 <<< j) (nxt p 5)).testBit v = true := by
  have e : ∀ i, i < 6 → p i = pB (p 0) (p 1) (p 2) (p 3) (p 4) (p 5) i := by
    intro i hi
    have : i = 0 ∨ i = 1 ∨ i = 2 ∨ i = 3 ∨ i = 4 ∨ i = 5 := by omega
    rcases this with rfl | rfl | rfl | rfl | rfl | rfl <;> rfl
  rw [ring_ext e, nxt_ext e]
  exact ring_ok _ _ _ _ _ _ j hj (by rw [← e j hj]; exact hp) v hv (by rw [← e v hv]; exact hpv)
def VL (K : Kn) (w : Nat) : Nat := if gb K.2.2.2 w = true then 50000 else (K.1 w).toNatClampNeg
section VLS
variable {G c : Nat} {R : Nat → Bool} {a : Nat → Nat} {K O : Kn}
theorem VL.of (h : KV G c R a K) (hG : G ≤ 40000) {w : Nat} (hw : w < 8) : ∃ x, K.1 w = nI x ∧ x ≤ 40000 ∧ (gb K.2.2.2 w = true → x = 0 ∧ VL K w = 50000) ∧ (¬ gb K.2.2.2 w = true → VL K w = x) := by
  obtain ⟨x, y, z, e1, e2, e3, b1, b2, b3, b4, b5, b6⟩ := h.2 w hw
  refine ⟨x, e1, by omega, fun q => ⟨(b6 q).1, if_pos q⟩, fun q => ?_⟩
  unfold VL
  rw [if_neg q, e1, nI_cl (by omega)]
theorem VL.tk (h : KV G c R a K) (k : KV G c R a O) (hG : G ≤ 40000) {w : Nat} (hw : w < 8) : VL (kTk K O) w = max (VL K w) (VL O w) := by
  obtain ⟨x, e1, e2, e3, e4⟩ := VL.of h hG hw
  obtain ⟨x', e1', e2', e3', e4'⟩ := VL.of k hG hw
  have hor := gb_or K.2.2.2 O.2.2.2 (show w < 32 by omega)
  show (if gb (K.2.2.2 ||| O.2.2.2) w = true then 50000 else (pick K O w (K.1 w) (O.1 w)).toNatClampNeg) = _
  by_cases c1 : gb K.2.2.2 w = true
  · rw [hor, c1, (e3 c1).2]
    simp only [Bool.true_or, if_true]
    by_cases c2 : gb O.2.2.2 w = true
    · rw [(e3' c2).2]; omega
    · rw [e4' c2]; omega
  · rw [e4 c1]
    by_cases c2 : gb O.2.2.2 w = true
    · rw [hor, c2, (e3' c2).2]
      simp only [Bool.or_true, if_true]
      omega
    · rw [e4' c2]
      have cg : ¬ gb (K.2.2.2 ||| O.2.2.2) w = true := by rw [hor]; simp [c1, c2]
      rw [if_neg cg]
      by_cases cl : K.1 w < O.1 w
      · rw [pick_b cg cl, e1', nI_cl (by omega)]
        rw [e1, e1', lt_nI (by omega) (by omega)] at cl
        omega
      · rw [pick_a cg cl, e1, nI_cl (by omega)]
        rw [e1, e1', lt_nI (by omega) (by omega)] at cl
        omega
theorem allb_iff {p : Nat → Bool} : ∀ n, allb p n = true ↔ ∀ i, i < n → p i = true := by
  intro n
  induction n with
  | zero => exact ⟨fun _ i hi => by omega, fun _ => rfl⟩
  | succ n ih =>
    show (allb p n && p n) = true ↔ _
    rw [Bool.and_eq_true, ih]
    constructor
    · rintro ⟨h1, h2⟩ i hi
      by_cases e : i = n
      · subst e; exact h2
      · exact h1 i (by omega)
    · exact fun h => ⟨fun i hi => h i (by omega), h n (by omega)⟩
theorem kEq_iff (K O : Kn) : kEq K O = true ↔ (∀ w, w < 8 → K.1 w = O.1 w) ∧ K.2.2.2 = O.2.2.2 := by
  unfold kEq
  rw [Bool.and_eq_true, allb_iff]
  constructor
  · rintro ⟨h1, h2⟩
    exact ⟨fun w hw => of_decide_eq_true (h1 w hw), of_decide_eq_true h2⟩
  · rintro ⟨h1, h2⟩
    exact ⟨fun w hw => decide_eq_true (h1 w hw), decide_eq_true h2⟩
theorem VL.eq (h : KV G c R a K) (k : KV G c R a O) (hG : G ≤ 40000) (he : ∀ w, w < 8 → VL K w = VL O w) : kEq K O = true := by
  have hgb : ∀ w, w < 8 → gb K.2.2.2 w = gb O.2.2.2 w ∧ K.1 w = O.1 w := by
    intro w hw
    obtain ⟨x, e1, e2, e3, e4⟩ := VL.of h hG hw
    obtain ⟨x', e1', e2', e3', e4'⟩ := VL.of k hG hw
    have := he w hw
    by_cases c1 : gb K.2.2.2 w = true
    · by_cases c2 : gb O.2.2.2 w = true
      · rw [e1, e1', (e3 c1).1, (e3' c2).1, c1, c2]; exact ⟨rfl, rfl⟩
      · rw [(e3 c1).2, e4' c2] at this; omega
    · by_cases c2 : gb O.2.2.2 w = true
      · rw [(e3' c2).2, e4 c1] at this; omega
      · rw [e4 c1, e4' c2] at this
        rw [e1, e1', this]
        exact ⟨by rw [Bool.not_eq_true] at c1 c2; rw [c1, c2], rfl⟩
  rw [kEq_iff]
  refine ⟨fun w hw => (hgb w hw).2, ?_⟩
  obtain ⟨p, hp⟩ := h.1
  obtain ⟨q, hq⟩ := k.1
  rw [hp, hq, obits_eq (by decide)]
  intro i hi
  have := (hgb i hi).1
  rwa [hp, hq, gb_obits _ (by decide) hi, gb_obits _ (by decide) hi] at this
end VLS
def stp (S : St) (v : Nat) : St := sVK S (va_up S.vk v (kTk (S.vk v) (S.vk (nxt S.th v))))
def itr : Nat → St → Nat → St
  | 0, S, _ => S
  | d + 1, S, v => itr d (stp S v) (nxt S.th v)
def agr (S : St) : Prop := ∀ u v, u < 6 → v < 6 → S.th u = true → S.th v = true → kEq (S.vk u) (S.vk v) = true
theorem agr_iff {S : St} {v : Nat} (hv : v < 6) (hp : S.th v = true) : sameSet S v = obits S.th 6 ↔ agr S := by
  unfold sameSet
  rw [obits_eq (by decide)]
  constructor
  · intro h u u' hu hu' p p'
    have a1 := h u hu
    have a2 := h u' hu'
    rw [p] at a1
    rw [p'] at a2
    have b1 := (kEq_iff _ _).mp (by simpa using a1)
    have b2 := (kEq_iff _ _).mp (by simpa using a2)
    rw [kEq_iff]
    exact ⟨fun w hw => (b1.1 w hw).trans (b2.1 w hw).symm, b1.2.trans b2.2.symm⟩
  · intro h u hu
    cases p : S.th u with
    | false => rfl
    | true => rw [h u v hu hv p hp]; rfl
theorem tb_or (X u v : Nat) : (X ||| (1 <<< v)).testBit u = (X.testBit u || decide (v = u)) := by
  rw [Nat.testBit_or, Nat.one_shiftLeft, Nat.testBit_two_pow]
section ITR
variable {G c : Nat} {R : Nat → Bool} {a : Nat → Nat}
theorem itr_v (hG : G ≤ 40000) {w m : Nat} (hw : w < 8) : ∀ d (S : St) (X v : Nat), v < 6 → (∃ u, u < 6 ∧ S.th u = true) → S.th v = true → (∀ u, u < 6 → KV G c R a (S.vk u)) → (∀ u, u < 6 → S.th u = true → VL (S.vk u) w ≤ m) → (∀ u, u < 6 → X.testBit u = true → VL (S.vk u) w = m) →
    (itr d S v).th = S.th ∧ (∀ u, u < 6 → KV G c R a ((itr d S v).vk u)) ∧ (∀ u, u < 6 → S.th u = true → VL ((itr d S v).vk u) w ≤ m) ∧ (∀ u, u < 6 → (ring S.th d X v).testBit u = true → VL ((itr d S v).vk u) w = m) := by
  intro d
  induction d with
  | zero => intro S X v hv he hp h1 h2 h3; exact ⟨rfl, h1, h2, h3⟩
  | succ d ih =>
    intro S X v hv he hp h1 h2 h3
    have hn := nxt_spec hv he
    have tk := fun w hw => VL.tk (h1 v hv) (h1 _ hn.1) hG (w := w) hw
    have at_v : (stp S v).vk v = kTk (S.vk v) (S.vk (nxt S.th v)) := by
      show va_up S.vk v _ v = _
      unfold va_up; rw [if_pos rfl]
    have at_u : ∀ u, u ≠ v → (stp S v).vk u = S.vk u := by
      intro u q
      show va_up S.vk v _ u = _
      unfold va_up; rw [if_neg q]
    have q := ih (stp S v) (if X.testBit (nxt S.th v) = true then X ||| (1 <<< v) else X) (nxt S.th v) hn.1 he hn.2 (fun u hu => by
        by_cases e : u = v
        · subst e; rw [at_v]; exact (h1 _ hu).tk (h1 _ hn.1)
        · rw [at_u u e]; exact h1 u hu) (fun u hu hpu => by
        by_cases e : u = v
        · subst e
          rw [at_v, tk w hw]
          have := h2 u hu hpu
          have := h2 _ hn.1 hn.2
          omega
        · rw [at_u u e]; exact h2 u hu hpu) (fun u hu hb => by
        by_cases e : u = v
        · subst e
          rw [at_v, tk w hw]
          have z1 := h2 u hu hp
          have z2 := h2 _ hn.1 hn.2
          by_cases cb : X.testBit (nxt S.th u) = true
          · have := h3 _ hn.1 cb
            omega
          · rw [if_neg cb] at hb
            have := h3 u hu hb
            omega
        · rw [at_u u e]
          refine h3 u hu ?_
          split at hb
          · rw [tb_or] at hb
            simpa [Ne.symm e] using hb
          · exact hb)
    exact q
theorem exmax (f : Nat → Nat) (p : Nat → Bool) : ∀ n, (∃ u, u < n ∧ p u = true) → ∃ j, j < n ∧ p j = true ∧ ∀ u, u < n → p u = true → f u ≤ f j := by
  intro n
  induction n with
  | zero => rintro ⟨u, hu, -⟩; omega
  | succ n ih =>
    rintro ⟨u, hu, hp⟩
    by_cases q : ∃ u, u < n ∧ p u = true
    · obtain ⟨j, j1, j2, j3⟩ := ih q
      by_cases c : p n = true ∧ f j < f n
      · refine ⟨n, Nat.lt_succ_self n, c.1, fun i hi hpi => ?_⟩
        by_cases e : i = n
        · subst e; exact Nat.le_refl _
        · have := j3 i (by omega) hpi
          omega
      · refine ⟨j, by omega, j2, fun i hi hpi => ?_⟩
        by_cases e : i = n
        · subst e
          apply Classical.byContradiction
          intro z
          exact c ⟨hpi, by omega⟩
        · exact j3 i (by omega) hpi
    · have hun : u = n := by
        apply Classical.byContradiction
        intro z
        exact q ⟨u, by omega, hp⟩
      refine ⟨n, Nat.lt_succ_self n, by rw [← hun]; exact hp, fun i hi hpi => ?_⟩
      by_cases e : i = n
      · subst e; exact Nat.le_refl _
      · exact absurd ⟨i, by omega, hpi⟩ q
theorem itr_agr (hG : G ≤ 40000) {S : St} (he : ∃ u, u < 6 ∧ S.th u = true) (h1 : ∀ u, u < 6 → KV G c R a (S.vk u)) : agr (itr 30 S (nxt S.th 5)) := by
  have hf := nxt_spec (p := S.th) (v := 5) (by decide) he
  have key : ∀ w, w < 8 → ∃ m, (itr 30 S (nxt S.th 5)).th = S.th ∧ (∀ u, u < 6 → KV G c R a ((itr 30 S (nxt S.th 5)).vk u)) ∧ ∀ u, u < 6 → S.th u = true → VL ((itr 30 S (nxt S.th 5)).vk u) w = m := by
    intro w hw
    obtain ⟨j, j1, j2, j3⟩ := exmax (fun u => VL (S.vk u) w) S.th 6 he
    have q := itr_v hG hw (m := VL (S.vk j) w) 30 S (1 <<< j) (nxt S.th 5) hf.1 he hf.2 h1 j3 (fun u hu hb => by
      rw [Nat.one_shiftLeft, Nat.testBit_two_pow] at hb
      have : j = u := of_decide_eq_true hb
      rw [this])
    exact ⟨_, q.1, q.2.1, fun u hu hpu => q.2.2.2 u hu (ring_all j1 j2 hu hpu)⟩
  intro u v hu hv pu pv
  obtain ⟨m0, t0, k0, -⟩ := key 0 (by decide)
  rw [t0] at pu pv
  refine VL.eq (k0 u hu) (k0 v hv) hG (fun w hw => ?_)
  obtain ⟨m, -, -, k⟩ := key w hw
  rw [k u hu pu, k v hv pv]
end ITR
section MRO
variable {h h' : AHp} {F s : Nat → Int32} {A : Ar} {S : St} {n G : Nat} {td : Nat → Nat}
theorem m_rounds (hM : HM h F s A) (hL : ML s S n td) (hi : IV G S) (hG : G ≤ 40000) (he : ∃ v, v < 6 ∧ S.th v = true) : Call 137 [.ref 423] h (fun rv h' => rv = some (.int (nI (mu 1000 S (nxt S.th 5) 0))) ∧ (∃ t, HM h' F s (A.1, A.2.1, t, A.2.2.2)) ∧ Fr 423 430 h h') := by
  obtain ⟨a, h1, -⟩ := hi
  have hag := itr_agr hG he h1
  obtain ⟨R, hR⟩ : ∃ R, R = mu 1000 S (nxt S.th 5) 0 := ⟨_, rfl⟩
  rw [← hR]
  have hf := nxt_spec (p := S.th) (v := 5) (by decide) he
  simp only [s137_0, s137_1, s137_4, s137_5, s137_8, s137_e, hM.f, oB_some]
  refine Call.mono (m_save hM) ?_
  rintro rv h1' ⟨rfl, k1, r1⟩
  simp only [Option.toList_none, List.nil_append, s137_11, s137_12, s137_13, s137_14, s137_17, k1.f, m_first k1 hL he, Option.toList_some, List.cons_append]
  have loop : ∀ d (T : St) v i (hh : AHp) (s1 : Nat → Int32), d + i ≤ 30 → T.th = S.th → v < 6 → S.th v = true → agr (itr d T v) → R = mu (1000 - i) T v i → HM hh F s1 (A.1, A.2.1, s, A.2.2.2) → ML s1 T n td → Fr 423 430 h hh →
      Ev none 137 18 [.ref 423, .int (nI i), .int (nI v)] [] hh (fun rv h' => rv = some (.int (nI R)) ∧ (∃ t, HM h' F s (A.1, A.2.1, t, A.2.2.2)) ∧ Fr 423 430 h h') := by
    intro d
    induction d with
    | zero =>
      intro T v i hh s1 hd hT hv hp ha hmu z1 z2 z3
      have heT : ∃ v, v < 6 ∧ T.th v = true := by rw [hT]; exact he
      have hfT := nxt_spec (p := T.th) (v := 5) (by decide) heT
      have c : sameSet T (nxt T.th 5) = obits T.th 6 := (agr_iff hfT.1 hfT.2).mpr ha
      have c2 : sameSet T v = obits T.th 6 := (agr_iff hv (by rw [hT]; exact hp)).mpr ha
      rw [show 1000 - i = (999 - i) + 1 by omega] at hmu
      unfold mu at hmu
      rw [if_pos c2] at hmu
      simp only [s137_18, s137_19, s137_20, s137_23, s137_26, s137_27, s137_30, z1.f, m_first z1 z2 heT, m_alike z1 z2 hfT.1, m_views z1 z2, Option.toList_some, List.cons_append, List.nil_append, if_pos c]
      simp only [s137_69, s137_70, s137_73, s137_74, s137_77, z1.f, oB_some]
      refine Call.mono (m_back z1) ?_
      rintro rv h3 ⟨rfl, k3, r3⟩
      simp only [Option.toList_none, List.nil_append, s137_80, s137_81, hmu]
      exact ⟨by first | trivial | rfl, ⟨s, k3⟩, z3.tr r3⟩
    | succ d ih =>
      intro T v i hh s1 hd hT hv hp ha hmu z1 z2 z3
      have heT : ∃ v, v < 6 ∧ T.th v = true := by rw [hT]; exact he
      have hfT := nxt_spec (p := T.th) (v := 5) (by decide) heT
      have hpT : T.th v = true := by rw [hT]; exact hp
      by_cases ag : agr T
      · have c : sameSet T (nxt T.th 5) = obits T.th 6 := (agr_iff hfT.1 hfT.2).mpr ag
        have c2 : sameSet T v = obits T.th 6 := (agr_iff hv hpT).mpr ag
        rw [show 1000 - i = (999 - i) + 1 by omega] at hmu
        unfold mu at hmu
        rw [if_pos c2] at hmu
        simp only [s137_18, s137_19, s137_20, s137_23, s137_26, s137_27, s137_30, z1.f, m_first z1 z2 heT, m_alike z1 z2 hfT.1, m_views z1 z2, Option.toList_some, List.cons_append, List.nil_append, if_pos c]
        simp only [s137_69, s137_70, s137_73, s137_74, s137_77, z1.f, oB_some]
        refine Call.mono (m_back z1) ?_
        rintro rv h3 ⟨rfl, k3, r3⟩
        simp only [Option.toList_none, List.nil_append, s137_80, s137_81, hmu]
        exact ⟨by first | trivial | rfl, ⟨s, k3⟩, z3.tr r3⟩
      · have c : ¬ sameSet T (nxt T.th 5) = obits T.th 6 := fun q => ag ((agr_iff hfT.1 hfT.2).mp q)
        have c2 : ¬ sameSet T v = obits T.th 6 := fun q => ag ((agr_iff hv hpT).mp q)
        rw [show 1000 - i = (1000 - (i + 1)) + 1 by omega] at hmu
        unfold mu at hmu
        rw [if_neg c2] at hmu
        have hn := nxt_spec hv heT
        have hne : nxt T.th v ≠ v := by
          intro q
          refine ag (fun u u' hu hu' pu pu' => ?_)
          have e1 : u = v := by
            apply Classical.byContradiction
            intro z
            rw [nxt_self hv q u hu z] at pu; cases pu
          have e2 : u' = v := by
            apply Classical.byContradiction
            intro z
            rw [nxt_self hv q u' hu' z] at pu'; cases pu'
          rw [e1, e2]
          exact kEq_rf _
        have hkv := (z2.2.2.2.2.2.2.1 v hv).2.2.2
        have hku := (z2.2.2.2.2.2.2.1 _ hn.1).2.2.2
        simp only [s137_18, s137_19, s137_20, s137_23, s137_26, s137_27, s137_30, z1.f, m_first z1 z2 heT, m_alike z1 z2 hfT.1, m_views z1 z2, Option.toList_some, List.cons_append, List.nil_append, if_neg c]
        simp only [s137_33, s137_34, s137_35, s137_36, s137_39, s137_40, s137_41, s137_44, s137_47, z1.f, m_knows, m_following z1 z2 heT hv, Option.toList_some, List.cons_append, List.nil_append]
        refine Call.mono (m_takesIn z1 hkv hku (by omega) (by omega) (by omega)) ?_
        rintro rv h2 ⟨rfl, ⟨s2, k2, m2, e2⟩, r2⟩
        obtain ⟨j, hj, ej⟩ := kCt_nI (T.vk v) (T.vk (nxt T.th v))
        have hL2 : ML s2 (stp T v) n td := z2.setK hv m2 e2
        have heS : ∃ v, v < 6 ∧ (stp T v).th v = true := heT
        simp only [Option.toList_some, List.cons_append, List.nil_append, s137_50, ej, if_pos (show (0 : Int32) ≤ nI j from nI_pos' (by omega))]
        simp only [s137_57, s137_58, s137_59, s137_60, s137_61, s137_62, s137_65, s137_66, k2.f, m_following k2 hL2 heT hv, Option.toList_some, List.cons_append, List.nil_append, nI_1]
        exact ih (stp T v) (nxt T.th v) (i + 1) h2 s2 (by omega) hT hn.1 (by rw [← hT]; exact hn.2) ha hmu k2 hL2 (z3.tr r2)
  exact loop 30 S (nxt S.th 5) 0 h1' s (Nat.le_refl _) rfl hf.1 hf.2 hag hR k1 hL r1
end MRO
