/-! The model: which view is first, which follows; what is copied; views with a part or a grave. -/
theorem first_eq {p : Nat → Bool} {v : Nat} (hv : v < 6) (hp : p v = true) (hn : ∀ u, u < v → p u = false) : nxt p 5 = v := by
  unfold nxt
  rcases nxF_spec p 5 6 1 with ⟨j, h1, h2, h3, h4, h5⟩ | ⟨h1, h2⟩
  · rw [h3]
    have e : (5 + j) % 6 = j - 1 := by
      rw [show 5 + j = (j - 1) + 6 by omega, Nat.add_mod_right]
      exact Nat.mod_eq_of_lt (by omega)
    rw [e] at h4 ⊢
    apply Classical.byContradiction
    intro q
    by_cases c : j - 1 < v
    · rw [hn _ c] at h4; cases h4
    · have := h5 (v + 1) (by omega) (by omega)
      rw [show 5 + (v + 1) = v + 6 by omega, Nat.add_mod_right, Nat.mod_eq_of_lt hv, hp] at this
      cases this
  · have := h2 (v + 1) (by omega) (by omega)
    rw [show 5 + (v + 1) = v + 6 by omega, Nat.add_mod_right, Nat.mod_eq_of_lt hv, hp] at this
    cases this
section MW
variable {h h' : AHp} {F s : Nat → Int32} {A : Ar} {S : St} {n : Nat} {td : Nat → Nat}
theorem m_ownPart (hM : HM h F s A) (hL : ML s S n td) {w : Nat} (hw : w < S.ct 0) : ∀ post, Call 106 [.ref 423, .int (nI w)] h post = post (some (.int (nI (9 + 26 * S.ho w + 1 + 3 * w)))) h := by
  refine call_eq ?_
  simp only [s106_e, s106_0, s106_1, s106_2, s106_3, s106_6, s106_9, s106_10, s106_13, hM.f, m_home hM hL hw, m_knows, m_part, Option.toList_some, List.cons_append, List.nil_append]
  first | exact ⟨rfl, trivial⟩ | exact ⟨trivial, trivial⟩
theorem m_first (hM : HM h F s A) (hL : ML s S n td) (he : ∃ v, v < 6 ∧ S.th v = true) : ∀ post, Call 133 [.ref 423] h post = post (some (.int (nI (nxt S.th 5)))) h := by
  refine call_eq ?_
  obtain ⟨u, hu, hp⟩ := he
  have loop : ∀ d v, v + d = u → (∀ i, i < v → S.th i = false) → Ev none 133 2 [.ref 423, .int (nI v)] [] h (fun r g => r = some (.int (nI (nxt S.th 5))) ∧ g = h) := by
    intro d
    induction d with
    | zero =>
      intro v hv hn
      obtain rfl : v = u := by omega
      simp only [s133_2, s133_3, s133_4, s133_7, hM.f, m_isView hM hL, hv_nI hu, hp, if_pos, Option.toList_some, List.cons_append, List.nil_append]
      rw [if_pos (show ¬ (1 : Int32) = 0 by decide)]
      simp only [s133_16, s133_17, first_eq hu hp hn]
      first | exact ⟨rfl, trivial⟩ | exact ⟨trivial, trivial⟩
    | succ d ih =>
      intro v hv hn
      have hv6 : v < 6 := by omega
      simp only [s133_2, s133_3, s133_4, s133_7, hM.f, m_isView hM hL, hv_nI hv6, Option.toList_some, List.cons_append, List.nil_append]
      by_cases c : S.th v = true
      · rw [if_pos c, if_pos (show ¬ (1 : Int32) = 0 by decide)]
        simp only [s133_16, s133_17, first_eq hv6 c hn]
        first | exact ⟨rfl, trivial⟩ | exact ⟨trivial, trivial⟩
      · rw [if_neg c, if_neg (show ¬ ¬ (0 : Int32) = 0 by decide)]
        simp only [s133_10, s133_13, nI_1]
        refine ih (v + 1) (by omega) (fun i hi => ?_)
        by_cases e : i = v
        · subst e; simpa using c
        · exact hn i (by omega)
  simp only [s133_0, s133_1, s133_e]
  exact loop u 0 (Nat.zero_add _) (fun i hi => absurd hi (Nat.not_lt_zero i))
theorem m_following (hM : HM h F s A) (hL : ML s S n td) (he : ∃ v, v < 6 ∧ S.th v = true) {v : Nat} (hv : v < 6) : ∀ post, Call 136 [.ref 423, .int (nI v)] h post = post (some (.int (nI (nxt S.th v)))) h := by
  refine call_eq ?_
  have hex : ∃ j, 1 ≤ j ∧ j < 7 ∧ S.th ((v + j) % 6) = true := by
    obtain ⟨u, hu, hp⟩ := he
    by_cases c : v < u
    · exact ⟨u - v, by omega, by omega, by rw [show v + (u - v) = u by omega, Nat.mod_eq_of_lt hu]; exact hp⟩
    · exact ⟨u + 6 - v, by omega, by omega, by rw [show v + (u + 6 - v) = u + 6 by omega, Nat.add_mod_right, Nat.mod_eq_of_lt hu]; exact hp⟩
  have e6 : (6 : Int32) = nI 6 := rfl
  have loop : ∀ d k, k + d = 7 → 1 ≤ k → (∃ j, k ≤ j ∧ j < 7 ∧ S.th ((v + j) % 6) = true) → nxF S.th v d k = nxt S.th v → Ev none 136 7 [.ref 423, .int (nI v), .int (nI ((v + k) % 6))] [] h (fun r g => r = some (.int (nI (nxt S.th v))) ∧ g = h) := by
    intro d
    induction d with
    | zero =>
      rintro k hk h1 ⟨j, j1, j2, -⟩ -
      omega
    | succ d ih =>
      rintro k hk h1 ⟨j, j1, j2, j3⟩ he
      have hm : (v + k) % 6 < 6 := Nat.mod_lt _ (by decide)
      unfold nxF at he
      simp only [s136_7, s136_8, s136_9, s136_12, hM.f, m_isView hM hL, hv_nI hm, Option.toList_some, List.cons_append, List.nil_append]
      by_cases hc : S.th ((v + k) % 6) = true
      · rw [if_pos hc] at he
        rw [if_pos hc, if_pos (show ¬ (1 : Int32) = 0 by decide), he]
        simp only [s136_25, s136_26]
        first | exact ⟨rfl, trivial⟩ | exact ⟨trivial, trivial⟩
      · rw [if_neg hc] at he
        rw [if_neg hc, if_neg (show ¬ ¬ (0 : Int32) = 0 by decide)]
        simp only [s136_15, s136_16, s136_17, s136_18, s136_20, nI_1, show (¬ (6 : Int32) = 0) = True by decide]
        rw [e6, pk_rem (show (v + k) % 6 + 1 < 2147483648 by omega) (by decide) (by decide)]
        simp only [s136_21, s136_22]
        rw [show ((v + k) % 6 + 1) % 6 = (v + (k + 1)) % 6 by omega]
        refine ih (k + 1) (by omega) (by omega) ⟨j, ?_, j2, j3⟩ he
        by_cases e : j = k
        · subst e; exact absurd j3 hc
        · omega
  simp only [s136_0, s136_1, s136_2, s136_3, s136_5, s136_e, nI_1, show (¬ (6 : Int32) = 0) = True by decide]
  rw [e6, pk_rem (show v + 1 < 2147483648 by omega) (by decide) (by decide)]
  simp only [s136_6]
  exact loop 6 1 rfl (Nat.le_refl 1) hex rfl
theorem m_lays {b c : Nat} {K : Kn} (hM : HM h F s A) (hK : MK s b K) (hb : b + 25 ≤ 420) (hc : c + 25 ≤ 420) (hd : b + 25 ≤ c ∨ c + 25 ≤ b) : Call 112 [.ref 423, .int (nI b), .int (nI c)] h (fun rv h' => rv = none ∧ (∃ s', HM h' F s' A ∧ MK s' c K ∧ ∀ i, (i < c ∨ c + 25 ≤ i) → s' i = s i) ∧ Fr 423 430 h h') := by
  have loop : ∀ d k (hh : AHp) (s1 : Nat → Int32), k + d = 25 → HM hh F s1 A → (∀ i, i < k → s1 (c + i) = s (b + i)) → (∀ i, (i < c ∨ c + 25 ≤ i) → s1 i = s i) → Fr 423 430 h hh → Ev none 112 2 [.ref 423, .int (nI b), .int (nI c), .int (nI k)] [] hh (fun rv h' => rv = none ∧ (∃ s', HM h' F s' A ∧ MK s' c K ∧ ∀ i, (i < c ∨ c + 25 ≤ i) → s' i = s i) ∧ Fr 423 430 h h') := by
    intro d
    induction d with
    | zero =>
      intro k hh s1 hk z1 z2 z3 z4
      obtain rfl : k = 25 := by omega
      simp only [s112_2, s112_3, s112_5, s112_30, if_pos (show (25 : Int32) ≤ nI 25 by decide)]
      refine ⟨trivial, ⟨s1, z1, ⟨?_, fun w hw => ?_⟩, z3⟩, z4⟩
      · have := z2 0 (by decide)
        exact this.trans hK.1
      · have q := hK.2 w hw
        have q1 := z2 (1 + 3 * w) (by omega)
        have q2 := z2 (1 + 3 * w + 1) (by omega)
        have q3 := z2 (1 + 3 * w + 2) (by omega)
        rw [← Nat.add_assoc, ← Nat.add_assoc] at q1
        rw [← Nat.add_assoc, ← Nat.add_assoc, ← Nat.add_assoc, ← Nat.add_assoc] at q2 q3
        exact ⟨q1.trans q.1, q2.trans q.2.1, q3.trans q.2.2⟩
    | succ d ih =>
      intro k hh s1 hk z1 z2 z3 z4
      obtain ⟨h2, e2, k2, r2⟩ := z1.ss (show c + k < 420 by omega) (s (b + k))
      have l1 := z1.ls (show b + k < 420 by omega)
      rw [z3 (b + k) (by omega)] at l1
      simp only [s112_2, s112_3, s112_5, if_neg (show ¬ (25 : Int32) ≤ nI k from nI_ge (b := 25) (by omega) (by decide))]
      simp only [s112_8, s112_9, s112_12, s112_13, s112_14, s112_15, s112_16, s112_19, s112_20, s112_21, s112_22, s112_23, s112_24, s112_27, z1.f, oB_some, nI_add, nI_1, l1, e2]
      refine ih (k + 1) h2 _ (by omega) k2 (fun i hi => ?_) (fun i hi => ?_) (z4.tr r2)
      · unfold upd
        by_cases e : i = k
        · subst e; rw [if_pos rfl]
        · rw [if_neg (by omega)]; exact z2 i (by omega)
      · unfold upd
        rw [if_neg (by omega)]
        exact z3 i hi
  simp only [s112_0, s112_1, s112_e]
  exact loop 25 0 h s rfl hM (fun i hi => absurd hi (Nat.not_lt_zero i)) (fun i _ => rfl) Fr.rf
theorem m_copies {a c : Nat} {f g : Nat → Int32} (h1 : HA h a 420 f) (h2 : HA h c 420 g) (hd : a ≠ c) : Call 89 [.ref a, .ref c] h (fun rv h' => rv = none ∧ HA h' c 420 f ∧ Fr c (c + 1) h h') := by
  have loop : ∀ d k (hh : AHp) (g1 : Nat → Int32), k + d = 420 → HA hh a 420 f → HA hh c 420 g1 → (∀ i, i < k → g1 i = f i) → Fr c (c + 1) h hh → Ev none 89 2 [.ref a, .ref c, .int (nI k)] [] hh (fun rv h' => rv = none ∧ HA h' c 420 f ∧ Fr c (c + 1) h h') := by
    intro d
    induction d with
    | zero =>
      intro k hh g1 hk z1 z2 z3 z4
      obtain rfl : k = 420 := by omega
      simp only [s89_2, s89_3, s89_6, s89_21, if_pos (show (420 : Int32) ≤ nI 420 by decide)]
      exact ⟨trivial, z2.to z3, z4⟩
    | succ d ih =>
      intro k hh g1 hk z1 z2 z3 z4
      obtain ⟨h2, e2, k2, r2⟩ := z2.st (w := k) (x := f k) (by omega) (by decide)
      have l1 := z1.ld (w := k) (by omega) (by decide)
      simp only [s89_2, s89_3, s89_6, if_neg (show ¬ (420 : Int32) ≤ nI k from nI_ge (b := 420) (by omega) (by decide))]
      simp only [s89_9, s89_10, s89_11, s89_12, s89_13, s89_14, s89_15, s89_18, oB_some, nI_1, l1, e2]
      refine ih (k + 1) h2 _ (by omega) (z1.fr r2 (by omega)) k2 (fun i hi => ?_) (z4.tr r2)
      unfold upd
      by_cases e : i = k
      · subst e; rw [if_pos rfl]
      · rw [if_neg e]; exact z3 i (by omega)
  simp only [s89_0, s89_1, s89_e]
  exact loop 420 0 h g rfl h1 h2 (fun i hi => absurd hi (Nat.not_lt_zero i)) Fr.rf
end MW
