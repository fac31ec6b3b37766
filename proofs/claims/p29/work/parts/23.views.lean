/-! New views, dropped views, merging around the ring. -/
theorem ff_some {p : Nat → Bool} : ∀ {n u : Nat}, ff p n = some u → u < n ∧ p u = false := by
  intro n
  induction n with
  | zero => intro u h; cases h
  | succ n ih =>
    intro u h
    unfold ff at h
    split at h
    · rename_i m hm
      cases h
      have := ih hm
      exact ⟨by omega, this.2⟩
    · split at h
      · cases h
      · rename_i hp
        cases h
        exact ⟨by omega, by simpa using hp⟩
theorem ff_none {p : Nat → Bool} : ∀ {n : Nat}, ff p n = none → ∀ i, i < n → p i = true := by
  intro n
  induction n with
  | zero => intro _ i hi; omega
  | succ n ih =>
    intro h i hi
    unfold ff at h
    split at h
    · cases h
    · rename_i hm
      split at h
      · rename_i hp
        by_cases e : i = n
        · rw [e]; exact hp
        · exact ih hm i (by omega)
      · cases h
theorem ff_more {p : Nat → Bool} {n u : Nat} (h : ff p n = some u) : ∀ k, ff p (n + k) = some u := by
  intro k
  induction k with
  | zero => exact h
  | succ k ih =>
    show ff p (n + k + 1) = some u
    unfold ff
    rw [ih]
theorem b_m1 : ∀ i, i < 32 → bt (-1) i = true := by decide +kernel
theorem b_xor (x y : Int32) (i : Nat) : bt (x ^^^ y) i = (bt x i ^^ bt y i) := by unfold bt; rw [Int32.toBitVec_xor, BitVec.getLsbD_xor]
theorem obits_set (p : Nat → Bool) {n v : Nat} (hn : n ≤ 32) (hv : v < n) : obits p n ||| ((1 : Int32) <<< (nI v &&& 31)) = obits (va_up p v true) n := by
  refine b_ext (fun i hi => ?_)
  rw [b_or, bt_obits p n hn, bt_obits _ n hn, b_one (by omega)]
  unfold va_up
  by_cases e : i = v
  · subst e; simp [hv]
  · simp [e]
theorem obits_clr (p : Nat → Bool) {n v : Nat} (hn : n ≤ 32) (hv : v < n) : obits p n &&& (((1 : Int32) <<< (nI v &&& 31)) ^^^ (-1)) = obits (va_up p v false) n := by
  refine b_ext (fun i hi => ?_)
  rw [b_and, b_xor, b_m1 i hi, bt_obits p n hn, bt_obits _ n hn, b_one (by omega)]
  unfold va_up
  by_cases e : i = v
  · subst e; simp
  · simp [e]
theorem one_left {p : Nat → Bool} {v : Nat} (hv : v < 6) (hp : p v = true) (h1 : ¬ cntI p 6 = 1) : ∃ u, u < 6 ∧ va_up p v false u = true := by
  apply Classical.byContradiction
  intro hn
  have key : ∀ u, u < 6 → u ≠ v → p u = false := by
    intro u hu hne
    cases hq : p u with
    | false => rfl
    | true => exact absurd ⟨u, hu, by unfold va_up; rw [if_neg hne]; exact hq⟩ hn
  apply h1
  rcases (show v = 0 ∨ v = 1 ∨ v = 2 ∨ v = 3 ∨ v = 4 ∨ v = 5 by omega) with rfl | rfl | rfl | rfl | rfl | rfl
  · simp [cntI, hp, key 1 (by omega) (by omega), key 2 (by omega) (by omega), key 3 (by omega) (by omega), key 4 (by omega) (by omega), key 5 (by omega) (by omega)]
  · simp [cntI, hp, key 0 (by omega) (by omega), key 2 (by omega) (by omega), key 3 (by omega) (by omega), key 4 (by omega) (by omega), key 5 (by omega) (by omega)]
  · simp [cntI, hp, key 0 (by omega) (by omega), key 1 (by omega) (by omega), key 3 (by omega) (by omega), key 4 (by omega) (by omega), key 5 (by omega) (by omega)]
  · simp [cntI, hp, key 0 (by omega) (by omega), key 1 (by omega) (by omega), key 2 (by omega) (by omega), key 4 (by omega) (by omega), key 5 (by omega) (by omega)]
  · simp [cntI, hp, key 0 (by omega) (by omega), key 1 (by omega) (by omega), key 2 (by omega) (by omega), key 3 (by omega) (by omega), key 5 (by omega) (by omega)]
  · simp [cntI, hp, key 0 (by omega) (by omega), key 1 (by omega) (by omega), key 2 (by omega) (by omega), key 3 (by omega) (by omega), key 4 (by omega) (by omega)]
section VW
variable {h h' : AHp} {t : Nat} {S : St}
theorem HS.setTh (hS : HS h t S) (p : Nat → Bool) (hp : ∃ v, v < 6 ∧ p v = true) : ∃ h', stf h t 3 1 (.int (obits p 6)) = some h' ∧ HS h' t (sTH S p) ∧ Fr t (t + 69) h h' := by
  obtain ⟨F, f, g, o, Ls, a1, ⟨e1, e4, e6, e7, e8, e9, e10, q⟩, ⟨w1, w2, w3, w4, w5, w6, w7⟩⟩ := hS
  obtain ⟨h', e, b, r⟩ := a1.sF (k := 1) (by decide) (obits p 6)
  exact ⟨h', e, ⟨_, f, g, o, Ls, b, ⟨rfl, e4, e6, e7, e8, e9, e10, q⟩, ⟨w1, w2, w3, w4, w5, hp, w7⟩⟩, r⟩
theorem c_copyView (hS : HS h t S) (x : Int32) : Call 34 [.ref t, .int x] h (fun rv h' => rv = some (.int (aView S x).1) ∧ HS h' t (aView S x).2 ∧ Fr t (t + 69) h h') := by
  simp only [s34_0, s34_1, s34_2, s34_e, hS.f, c_hasView hS, Option.toList_some, List.cons_append, List.nil_append]
  rcases ix_cases x 6 with hx | ⟨v, hv6, rfl⟩
  · simp only [s34_5, s34_8, s34_10, hv_no hx, Bool.false_eq_true, if_false, not_true]
    simp only [aView, hx]
    exact ⟨rfl, hS, Fr.rf⟩
  · have e0 := ix_nI hv6 (by decide)
    rw [hv_nI hv6]
    by_cases hc : S.th v = true
    · simp only [s34_5, s34_11, s34_12, if_pos hc, if_pos n10]
      have loop : ∀ d u, u + d = 6 → ff S.th u = none → Ev none 34 13 [.ref t, .int (nI v), .int (nI u)] [] h (fun rv h' => rv = some (.int (aView S (nI v)).1) ∧ HS h' t (aView S (nI v)).2 ∧ Fr t (t + 69) h h') := by
        intro d
        induction d with
        | zero =>
          intro u hu hf
          obtain rfl : u = 6 := by omega
          simp only [s34_13, s34_14, s34_16, s34_62, s34_64, if_pos (show (6 : Int32) ≤ nI 6 by decide)]
          simp only [aView, e0, hc, hf, not_true, if_false]
          exact ⟨rfl, hS, Fr.rf⟩
        | succ d ih =>
          intro u hu hf
          have hu6 : u < 6 := by omega
          simp only [s34_13, s34_14, s34_16, if_neg (le6 hu6)]
          simp only [s34_19, s34_20, s34_21, hS.f, c_hasView hS, hv_nI hu6, Option.toList_some, List.cons_append, List.nil_append]
          by_cases hd : S.th u = true
          · simp only [s34_24, s34_56, s34_59, if_pos hd, if_pos n10, nI_s]
            exact ih (u + 1) (by omega) (by unfold ff; rw [hf]; simp [hd])
          · have hff : ff S.th 6 = some u := by
              have h1 : ff S.th (u + 1) = some u := by unfold ff; rw [hf]; simp [hd]
              have h2 := ff_more h1 (6 - (u + 1))
              rwa [show u + 1 + (6 - (u + 1)) = 6 by omega] at h2
            have hne : u ≠ v := fun q => hd (by rw [q]; exact hc)
            simp only [s34_24, s34_27, s34_28, s34_29, s34_32, s34_33, s34_34, s34_35, s34_36, if_neg hd, not_true, if_false, hS.f, oB_some, obits_set S.th (n := 6) (by decide) hu6]
            obtain ⟨h1, g1, b1, r1⟩ := hS.setTh (va_up S.th u true) ⟨u, hu6, by unfold va_up; rw [if_pos rfl]⟩
            simp only [g1, oB_some, s34_39, s34_40, s34_43, s34_44, s34_45, s34_46, s34_49, s34_50, s34_51, b1.f, b1.vq hu6, b1.vq hv6, (b1.vK hu6).f]
            refine Call.mono (c_copyK (b1.vK hu6) (b1.vK hv6) (by omega)) ?_
            rintro rv h4 ⟨rfl, k4, r4⟩
            have hS4 := b1.setK hu6 k4 r4
            simp only [Option.toList_none, List.nil_append, s34_54, s34_55]
            simp only [aView, e0, hc, hff, not_true, if_false]
            exact ⟨trivial, hS4, r1.tr (frK hu6 r4)⟩
      exact loop 6 0 rfl rfl
    · simp only [s34_5, s34_8, s34_10, if_neg hc, not_true, if_false]
      simp only [aView, e0, hc, not_false_iff, if_true]
      exact ⟨rfl, hS, Fr.rf⟩
/-- a letter at a place of the order may be changed -/
theorem HS.setL (hS : HS h t S) {k : Nat} {M : Lt} (hk : S.lt[k]? = some M) : ∃ a, ldq h (t + 4) (nI k) = some (.ref a) ∧ HL h a M ∧ t + 29 ≤ a ∧ a + 5 ≤ t + 69 ∧ ∀ (h' : AHp) (b : Bool) (K' : Kn), HL h' a (M.1, M.2.1, M.2.2.1, b, K') → Fr a (a + 5) h h' → HS h' t (sLT S (S.lt.set k (M.1, M.2.1, M.2.2.1, b, K'))) := by
  obtain ⟨F, f, g, o, Ls, a1, ⟨e1, e4, e6, e7, e8, e9, e10, q1, q2, q3, e⟩, ⟨w1, w2, w3, w4, w5, w6, w7⟩⟩ := hS
  have h1 := (List.getElem?_eq_some_iff.mp hk).1
  have h2 : k < 8 := Nat.lt_of_lt_of_le h1 w3
  have h3 := a1.2.2.2.2.2.1 k h2
  have h4 : t + 29 + 5 * o k + 5 ≤ t + 69 := by omega
  have h5 := a1.lL h3
  rw [e k M hk] at h5
  have hmem := List.mem_of_getElem? hk
  refine ⟨t + 29 + 5 * o k, a1.lq h2, h5, Nat.le_add_right _ _, h4, fun h' b K' hL r => ?_⟩
  refine ⟨F, f, g, o, _, a1.sL h3 hL r, ⟨e1, e4, ?_, e7, e8, e9, e10, q1, q2, q3, fun j X hj => ?_⟩, ⟨w1, w2, ?_, w4, fun L hL' => ?_, w6, ?_⟩⟩
  · show F 6 = nI (S.lt.set k _).length
    rw [List.length_set]; exact e6
  · have hj : (S.lt.set k (M.1, M.2.1, M.2.2.1, b, K'))[j]? = some X := hj
    unfold va_up
    by_cases ejk : j = k
    · subst ejk
      rw [if_pos rfl]
      rw [List.getElem?_set_self h1] at hj
      exact Option.some.inj hj
    · rw [List.getElem?_set_ne (Ne.symm ejk)] at hj
      have hj8 : j < 8 := Nat.lt_of_lt_of_le (List.getElem?_eq_some_iff.mp hj).1 w3
      rw [if_neg (fun q => ejk (q3 j k hj8 h2 q))]
      exact e j X hj
  · show (S.lt.set k _).length ≤ 8
    rw [List.length_set]; exact w3
  · have hL' : L ∈ S.lt.set k (M.1, M.2.1, M.2.2.1, b, K') := hL'
    rcases List.mem_or_eq_of_mem_set hL' with z | z
    · exact w5 L z
    · rw [z]; exact w5 M hmem
  · show (S.lt.set k (M.1, M.2.1, M.2.2.1, b, K')).Pairwise (fun a c => a.2.2.1 ≤ c.2.2.1)
    rw [List.pairwise_iff_getElem] at w7 ⊢
    intro i j hi hj hij
    rw [List.length_set] at hi hj
    have hM : S.lt[k] = M := (List.getElem?_eq_some_iff.mp hk).2
    have := w7 i j hi hj hij
    rw [List.getElem_set, List.getElem_set]
    by_cases e1 : k = i
    · subst e1
      rw [if_pos rfl, if_neg (by omega)]
      rw [hM] at this
      exact this
    · rw [if_neg e1]
      by_cases e2 : k = j
      · subst e2
        rw [if_pos rfl]
        rw [hM] at this
        exact this
      · rw [if_neg e2]; exact this
theorem c_dropView (hS : HS h t S) (x : Int32) : Call 35 [.ref t, .int x] h (fun rv h' => rv = some (.int (aDrop S x).1) ∧ HS h' t (aDrop S x).2 ∧ Fr t (t + 69) h h') := by
  simp only [s35_0, s35_1, s35_2, s35_e, hS.f, c_hasView hS, Option.toList_some, List.cons_append, List.nil_append]
  rcases ix_cases x 6 with hx | ⟨v, hv6, rfl⟩
  · simp only [s35_5, s35_8, s35_10, hv_no hx, Bool.false_eq_true, if_false, not_true]
    simp only [aDrop, hx]
    exact ⟨rfl, hS, Fr.rf⟩
  · have e0 := ix_nI hv6 (by decide)
    rw [hv_nI hv6]
    by_cases hc : S.th v = true
    · simp only [s35_5, s35_11, s35_12, s35_13, if_pos hc, if_pos n10, hS.f, c_writersAtHome hS hv6, Option.toList_some, List.cons_append, List.nil_append]
      by_cases hz : homeSet S v = 0
      · have hz' : obits (fun w => decide (S.ho w = v) && !rt S w) (S.ct 0) = 0 := hz
        simp only [s35_16, s35_19, s35_20, s35_23, s35_24, hz', not_true, if_false, hS.f, c_countViews hS, Option.toList_some, List.cons_append, List.nil_append]
        by_cases h1 : cntI S.th 6 = 1
        · rw [if_neg (fun q => q h1)]
          simp only [s35_27, s35_29]
          simp only [aDrop, e0, hc, h1, not_true, if_false, or_true, if_true]
          exact ⟨rfl, hS, Fr.rf⟩
        · rw [if_pos h1]
          simp only [s35_30, s35_31, s35_32, s35_35, s35_36, s35_37, s35_38, s35_39, s35_40, s35_41, hS.f, oB_some, obits_clr S.th (n := 6) (by decide) hv6]
          obtain ⟨ha, g1, b1, r1⟩ := hS.setTh (va_up S.th v false) (one_left hv6 hc h1)
          simp only [g1, oB_some, s35_44, s35_45]
          have loop : ∀ d k (hh : AHp) (l : List Lt), k + d = S.lt.length → l.length = S.lt.length → (∀ i, l[i]? = if i < k then (S.lt[i]?).map (loseTo v) else S.lt[i]?) → HS hh t (sLT (sTH S (va_up S.th v false)) l) → Fr t (t + 69) h hh → Ev none 35 46 [.ref t, .int (nI v), .int (nI k)] [] hh (fun rv h' => rv = some (.int (aDrop S (nI v)).1) ∧ HS h' t (aDrop S (nI v)).2 ∧ Fr t (t + 69) h h') := by
            intro d
            induction d with
            | zero =>
              intro k hh l hk hl hi hSS hr
              obtain rfl : k = S.lt.length := by omega
              have el : l = S.lt.map (loseTo v) := by
                apply List.ext_getElem?
                intro i
                rw [hi i, List.getElem?_map]
                by_cases q : i < S.lt.length
                · rw [if_pos q]
                · rw [if_neg q, List.getElem?_eq_none (by omega)]; rfl
              have h8 := hS.w.2.2.1
              have e6 : nI (sLT (sTH S (va_up S.th v false)) l).lt.length = nI S.lt.length := by rw [show (sLT (sTH S (va_up S.th v false)) l).lt.length = l.length from rfl, hl]
              simp only [s35_46, s35_47, s35_48, s35_51, hSS.f, oB_some, e6, if_pos (Int32.le_refl _), s35_83, s35_84, c_countViews hSS, Option.toList_some, List.cons_append, List.nil_append, s35_87]
              subst el
              simp only [aDrop, e0, hc, hz, h1, not_true, if_false, or_self]
              exact ⟨trivial, hSS, hr⟩
            | succ d ih =>
              intro k hh l hk hl hi hSS hr
              have h8 := hS.w.2.2.1
              have hkl : k < S.lt.length := by omega
              have e6 : nI (sLT (sTH S (va_up S.th v false)) l).lt.length = nI S.lt.length := by rw [show (sLT (sTH S (va_up S.th v false)) l).lt.length = l.length from rfl, hl]
              have hM : S.lt[k]? = some S.lt[k] := List.getElem?_eq_getElem hkl
              have hlk : (sLT (sTH S (va_up S.th v false)) l).lt[k]? = some S.lt[k] := by
                show l[k]? = _
                rw [hi k, if_neg (Nat.lt_irrefl k)]; exact hM
              obtain ⟨a, q1, q2, q3, q4, q5⟩ := hSS.setL hlk
              have hto := hS.w.2.2.2.2.1 S.lt[k] (List.getElem_mem hkl)
              simp only [s35_46, s35_47, s35_48, s35_51, hSS.f, oB_some, e6, if_neg (nI_ge hkl (by omega))]
              simp only [s35_54, s35_55, s35_58, s35_59, s35_60, s35_63, s35_64, hSS.f, oB_some, q1, q2.f]
              by_cases hq : S.lt[k].2.1 = v
              · rw [if_neg (fun z => z (by rw [hq]))]
                simp only [s35_67, s35_68, s35_71, s35_72, s35_73, s35_74, hSS.f, oB_some, q1]
                obtain ⟨hb, g2, l2, r2⟩ := q2.s3 (x := true)
                have g2 : stf hh a 1 3 (.int 1) = some hb := g2
                simp only [g2, oB_some, s35_77, s35_80, nI_s]
                have hS2 := q5 hb true S.lt[k].2.2.2.2 l2 r2
                refine ih (k + 1) hb _ (by omega) (by rw [List.length_set]; exact hl) (fun i => ?_) hS2 (hr.tr (r2.up (by omega) (by omega)))
                show (l.set k _)[i]? = _
                by_cases e : i = k
                · subst e
                  rw [List.getElem?_set_self (by omega), if_pos (Nat.lt_succ_self i), hM]
                  simp [loseTo, hq]
                · rw [List.getElem?_set_ne (Ne.symm e), hi i]
                  by_cases e2 : i < k
                  · rw [if_pos e2, if_pos (by omega)]
                  · rw [if_neg e2, if_neg (by omega)]
              · rw [if_pos (fun z => hq ((nI_eq (by omega) (by omega)).mp z))]
                simp only [s35_77, s35_80, nI_s]
                refine ih (k + 1) hh l (by omega) hl (fun i => ?_) hSS hr
                rw [hi i]
                by_cases e : i = k
                · subst e
                  rw [if_neg (Nat.lt_irrefl i), if_pos (Nat.lt_succ_self i), hM]
                  simp [loseTo, hq]
                · by_cases e2 : i < k
                  · rw [if_pos e2, if_pos (by omega)]
                  · rw [if_neg e2, if_neg (by omega)]
          exact loop S.lt.length 0 ha S.lt (Nat.zero_add _) rfl (fun i => by rw [if_neg (Nat.not_lt_zero i)]) b1 r1
      · have hz' : ¬ obits (fun w => decide (S.ho w = v) && !rt S w) (S.ct 0) = 0 := hz
        simp only [s35_16, s35_27, s35_29, if_pos hz']
        simp only [aDrop, e0, hc, hz, not_true, not_false_iff, if_false, true_or, if_true]
        exact ⟨rfl, hS, Fr.rf⟩
    · simp only [s35_5, s35_8, s35_10, if_neg hc, not_true, if_false]
      simp only [aDrop, e0, hc, not_false_iff, if_true]
      exact ⟨rfl, hS, Fr.rf⟩
end VW
