/-! The model's history and text. -/
theorem ML.ext {s s' : Nat → Int32} {S : St} {n : Nat} {td : Nat → Nat} (h : ML s S n td) (he : ∀ i, i < 420 → s' i = s i) : ML s' S n td := by
  obtain ⟨z0, z1, z2, z3, z4, z5, z6, z7, z8⟩ := h
  refine ⟨by rw [he _ (by omega)]; exact z0, by rw [he _ (by omega)]; exact z1, by rw [he _ (by omega)]; exact z2, by rw [he _ (by omega)]; exact z3, by rw [he _ (by omega)]; exact z4, by rw [he _ (by omega)]; exact z5, fun u hu => ?_, fun w hw => ?_, z8⟩
  · obtain ⟨q1, q2, q3, q4⟩ := z6 u hu
    exact ⟨by rw [he _ (by omega)]; exact q1, q2, q3, q4.eq (fun i h1 h2 => he i (by omega))⟩
  · obtain ⟨q1, q2, q3⟩ := z7 w hw
    have : w < 8 := Nat.lt_of_lt_of_le hw z8
    exact ⟨by rw [he _ (by omega)]; exact q1, by rw [he _ (by omega)]; exact q2, q3⟩
theorem MXG.ext {G : Nat} {s s' : Nat → Int32} {S : St} (h : MXG G s S) (he : ∀ i, i < 420 → s' i = s i) : MXG G s' S := by
  obtain ⟨td, came, posted, P, hX, hc1, hp1, ht⟩ := h
  obtain ⟨x1, x2, x3, x4, x5, x6, x7, x8, x9, x10, x11⟩ := hX
  refine ⟨td, came, posted, P, ⟨x1.ext he, by rw [he _ (by omega)]; exact x2, by rw [he _ (by omega)]; exact x3, x4, x5, x6, x7, fun k q hq => ?_, x9, x10, x11⟩, hc1, hp1, ht⟩
  obtain ⟨y0, y1, y2, y3, y4, y5⟩ := x8 k q hq
  have hk : k < 8 := Nat.lt_of_lt_of_le (List.getElem?_eq_some_iff.mp hq).1 x7
  exact ⟨by rw [he _ (by omega)]; exact y0, by rw [he _ (by omega)]; exact y1, by rw [he _ (by omega)]; exact y2, by rw [he _ (by omega)]; exact y3, by rw [he _ (by omega)]; exact y4, y5.eq (fun i h1 h2 => he i (by omega))⟩
theorem MXG.mono {G G' : Nat} {s : Nat → Int32} {S : St} (h : MXG G s S) (hG : G ≤ G') : MXG G' s S := by
  obtain ⟨td, came, posted, P, hX, hc1, hp1, ht⟩ := h
  exact ⟨td, came, posted, P, hX, by omega, by omega, ht⟩
def HI (G : Nat) (F p : Nat → Int32) (H : List St) : Prop := F 4 = nI H.length ∧ H.length ≤ 4 ∧ ∀ k T, H[k]? = some T → MXG G (fun i => p (420 * k + i)) T ∧ IV G T
theorem HI.mono {G G' : Nat} {F F' p p' : Nat → Int32} {H : List St} (h : HI G F p H) (hG : G ≤ G') (hF : F' 4 = F 4) (hp : p' = p) : HI G' F' p' H := by
  subst hp
  exact ⟨hF.trans h.1, h.2.1, fun k T hk => ⟨(h.2.2 k T hk).1.mono hG, (h.2.2 k T hk).2.mono hG⟩⟩
theorem push_len (H : List St) (S : St) (h : H.length ≤ 4) : (pushH H S).length = if H.length < 4 then H.length + 1 else 4 := by
  unfold pushH
  by_cases c : H.length < 4
  · rw [if_pos c, if_pos c, List.length_append]; rfl
  · rw [if_neg c, if_neg c, List.length_append, List.length_tail, List.length_singleton]; omega
/-- a recorded state: the history as the model keeps it is the one with the state pushed -/
theorem HI.push {G : Nat} {F F' s : Nat → Int32} {A A' : Ar} {H : List St} {S : St} (h : HI G F A.1 H) (hF5 : F 5 = 0) (c : CH H.length F s A F' A') (x : MXG G s S) (i : IV G S) : HI G F' A'.1 (pushH H S) := by
  obtain ⟨c4, -, -, ca, cb⟩ := c.2 hF5
  obtain ⟨h1, h2, h3⟩ := h
  refine ⟨by rw [push_len H S h2]; exact c4, by rw [push_len H S h2]; split <;> omega, fun k T hk => ?_⟩
  unfold pushH at hk
  by_cases q : H.length < 4
  · rw [if_pos q] at hk
    have ca := ca q
    by_cases e : k < H.length
    · rw [List.getElem?_append_left e] at hk
      refine ⟨(h3 k T hk).1.ext (fun j hj => ?_), (h3 k T hk).2⟩
      show A'.1 (420 * k + j) = A.1 (420 * k + j)
      rw [ca _ (by omega), if_neg (by omega)]
    · have hkl := (List.getElem?_eq_some_iff.mp hk).1
      rw [List.length_append, List.length_singleton] at hkl
      have : k = H.length := by omega
      subst this
      rw [List.getElem?_append_right (Nat.le_refl _), Nat.sub_self] at hk
      cases hk
      refine ⟨x.ext (fun j hj => ?_), i⟩
      show A'.1 (420 * H.length + j) = s j
      rw [ca _ (by omega), if_pos (by omega), Nat.add_sub_cancel_left]
  · rw [if_neg q] at hk
    have h4 : H.length = 4 := by omega
    have cb := cb h4
    have htl : H.tail.length = 3 := by rw [List.length_tail]; omega
    by_cases e : k < 3
    · rw [List.getElem?_append_left (by omega), List.getElem?_tail] at hk
      refine ⟨(h3 (k + 1) T hk).1.ext (fun j hj => ?_), (h3 (k + 1) T hk).2⟩
      show A'.1 (420 * k + j) = A.1 (420 * (k + 1) + j)
      rw [cb _ (by omega), if_pos (by omega), show 420 * k + j + 420 = 420 * (k + 1) + j by omega]
    · have hkl := (List.getElem?_eq_some_iff.mp hk).1
      rw [List.length_append, List.length_singleton, htl] at hkl
      have : k = 3 := by omega
      subst this
      rw [List.getElem?_append_right (by omega), htl] at hk
      cases hk
      refine ⟨x.ext (fun j hj => ?_), i⟩
      show A'.1 (420 * 3 + j) = s j
      rw [cb _ (by omega), if_neg (by omega), show 420 * 3 + j - 1260 = j by omega]
section MUN
variable {h h' : AHp} {F s : Nat → Int32} {A : Ar}
theorem m_undo (hM : HM h F s A) {m : Nat} (hm : m ≤ 4) (hF : F 4 = nI m) : Call 141 [.ref 423] h (fun rv h' => rv = some (.int (if m = 0 then eN else nI (m - 1))) ∧ (∃ F' s', HM h' F' s' A ∧ (∀ j, j ≠ 4 → F' j = F j) ∧ F' 4 = nI (m - 1) ∧ (m = 0 → s' = s) ∧ (0 < m → ∀ i, i < 420 → s' i = A.1 (420 * (m - 1) + i))) ∧ Fr 423 430 h h') := by
  simp only [s141_0, s141_1, s141_4, s141_e, hM.f, oB_some, hF, (show (nI m = 0) = (m = 0) from propext (nI_eq (show m < 2147483648 by omega) (show 0 < 2147483648 by decide)))]
  by_cases c0 : m = 0
  · rw [if_neg (fun q => q c0), if_pos c0]
    simp only [s141_7, s141_9]
    exact ⟨by first | trivial | rfl, ⟨F, s, hM, fun _ _ => rfl, by rw [hF, c0], fun _ => rfl, fun q => by omega⟩, Fr.rf⟩
  · rw [if_pos c0, if_neg c0]
    obtain ⟨n, rfl⟩ : ∃ n, m = n + 1 := ⟨m - 1, by omega⟩
    obtain ⟨h1, e1, k1, r1⟩ := hM.sF (k := 4) (by decide) (nI n)
    simp only [s141_10, s141_11, s141_12, s141_15, s141_16, s141_17, s141_20, s141_21, hM.f, oB_some, hF, nI_pred, e1]
    have loop : ∀ d k (hh : AHp) (s1 : Nat → Int32), k + d = 420 → HM hh (upd F 4 (nI n)) s1 A → (∀ i, i < k → s1 i = A.1 (420 * n + i)) → Fr 423 430 h hh →
        Ev none 141 22 [.ref 423, .int (nI k)] [] hh (fun rv h' => rv = some (.int (nI (n + 1 - 1))) ∧ (∃ F' s', HM h' F' s' A ∧ (∀ j, j ≠ 4 → F' j = F j) ∧ F' 4 = nI (n + 1 - 1) ∧ (n + 1 = 0 → s' = s) ∧ (0 < n + 1 → ∀ i, i < 420 → s' i = A.1 (420 * (n + 1 - 1) + i))) ∧ Fr 423 430 h h') := by
      intro d
      induction d with
      | zero =>
        intro k hh s1 hk y1 y2 y3
        obtain rfl : k = 420 := by omega
        have e4 : upd F 4 (nI n) 4 = nI n := u_eq
        simp only [s141_22, s141_23, s141_26, if_pos (show (420 : Int32) ≤ nI 420 by decide), s141_56, s141_57, s141_60, y1.f, oB_some, e4]
        exact ⟨by first | trivial | rfl, ⟨_, s1, y1, fun j hj => u_ne hj, e4, fun q => by omega, fun _ => y2⟩, y3⟩
      | succ d ih =>
        intro k hh s1 hk y1 y2 y3
        obtain ⟨h2, e2, k2, r2⟩ := y1.ss (show k < 420 by omega) (A.1 (420 * n + k))
        have e4 : upd F 4 (nI n) 4 = nI n := u_eq
        have l1 := y1.lp (show 420 * n + k < 1680 by omega)
        have e420 : (420 : Int32) * nI n + nI k = nI (420 * n + k) := by rw [show (420 : Int32) = nI 420 from rfl, nI_mul, nI_add]
        simp only [s141_22, s141_23, s141_26, if_neg (show ¬ (420 : Int32) ≤ nI k from nI_ge (b := 420) (by omega) (by decide))]
        simp only [s141_29, s141_30, s141_33, s141_34, s141_35, s141_38, s141_41, s141_42, s141_45, s141_46, s141_47, s141_48, s141_49, s141_50, s141_53, y1.f, oB_some, e4, e420, l1, e2, nI_1]
        refine ih (k + 1) h2 _ (by omega) k2 (fun i hi => ?_) (y3.tr r2)
        by_cases e : i = k
        · subst e; exact u_eq
        · rw [u_ne e]; exact y2 i (by omega)
    exact loop 420 0 h1 s (Nat.zero_add _) k1 (fun i hi => by omega) r1
theorem HM.lx (hM : HM h F s A) {i : Nat} (hi : i < 60) : ldi h 428 (nI i) = some (A.2.2.2.1 i) := hM.2.2.2.2.2.1.ld hi (by decide)
theorem HM.sx (hM : HM h F s A) {i : Nat} (hi : i < 60) (x : Int32) : ∃ h', sti h 428 (nI i) x = some h' ∧ HM h' F s (A.1, A.2.1, A.2.2.1, upd A.2.2.2.1 i x, A.2.2.2.2) ∧ Fr 423 430 h h' := by
  obtain ⟨a1, a2, a3, a4, a5, a6, a7⟩ := hM
  obtain ⟨h', e, b, r⟩ := a6.st (x := x) hi (by decide)
  exact ⟨h', e, ⟨a1.fr r (by omega), a2.fr r (by omega), a3.fr r (by omega), a4.fr r (by omega), a5.fr r (by omega), b, a7.fr r (by omega)⟩, r.up (by omega) (by omega)⟩
theorem HM.lt (hM : HM h F s A) {i : Nat} (hi : i < 3) : ldi h 429 (nI i) = some (A.2.2.2.2 i) := hM.2.2.2.2.2.2.ld hi (by decide)
theorem HM.stl (hM : HM h F s A) {i : Nat} (hi : i < 3) (x : Int32) : ∃ h', sti h 429 (nI i) x = some h' ∧ HM h' F s (A.1, A.2.1, A.2.2.1, A.2.2.2.1, upd A.2.2.2.2 i x) ∧ Fr 423 430 h h' := by
  obtain ⟨a1, a2, a3, a4, a5, a6, a7⟩ := hM
  obtain ⟨h', e, b, r⟩ := a7.st (x := x) hi (by decide)
  exact ⟨h', e, ⟨a1.fr r (by omega), a2.fr r (by omega), a3.fr r (by omega), a4.fr r (by omega), a5.fr r (by omega), a6.fr r (by omega), b⟩, r.up (by omega) (by omega)⟩
theorem m_type (hM : HM h F s A) {n : Nat} (hn : n ≤ 60) (hF : F 7 = nI n) (x : Int32) : Call 142 [.ref 423, .int x] h (fun rv h' => rv = some (.int (if 32 ≤ x ∧ x ≤ 126 then (if n < 60 then nI (n + 1) else eL) else eI)) ∧ HM h' (if 32 ≤ x ∧ x ≤ 126 then (if n < 60 then upd F 7 (nI (n + 1)) else F) else F) s (A.1, A.2.1, A.2.2.1, (if 32 ≤ x ∧ x ≤ 126 then (if n < 60 then upd A.2.2.2.1 n x else A.2.2.2.1) else A.2.2.2.1), A.2.2.2.2) ∧ Fr 423 430 h h') := by
  simp only [s142_0, s142_1, s142_3, s142_5, s142_8, s142_e, m_in, Option.toList_some, List.cons_append, List.nil_append]
  by_cases cx : (32 : Int32) ≤ x ∧ x ≤ 126
  · simp only [if_pos cx]
    rw [if_pos (show ¬ (1 : Int32) = 0 by decide)]
    simp only [s142_14, s142_15, s142_18, s142_20, hM.f, oB_some, hF, (show (60 : Int32) = nI 60 from rfl), nI_eq (show n < 2147483648 by omega) (show 60 < 2147483648 by decide)]
    by_cases c6 : n = 60
    · rw [if_neg (fun q => q c6)]
      have c7 : ¬ n < 60 := by omega
      simp only [if_neg c7]
      simp only [s142_23, s142_25]
      exact ⟨by first | trivial | rfl, hM, Fr.rf⟩
    · rw [if_pos c6]
      have c7 : n < 60 := by omega
      simp only [if_pos c7]
      obtain ⟨h1, e1, k1, r1⟩ := hM.sx c7 x
      obtain ⟨h2, e2, k2, r2⟩ := k1.sF (k := 7) (by decide) (nI (n + 1))
      have e7 : upd F 7 (nI (n + 1)) 7 = nI (n + 1) := u_eq
      simp only [s142_26, s142_27, s142_30, s142_31, s142_34, s142_35, s142_36, s142_37, s142_38, s142_41, s142_42, s142_43, s142_46, s142_47, s142_50, hM.f, k1.f, k2.f, oB_some, hF, e1, nI_1, e2, e7]
      exact ⟨by first | trivial | rfl, k2, r1.tr r2⟩
  · simp only [if_neg cx]
    rw [if_neg (fun q => q trivial)]
    simp only [s142_11, s142_13]
    exact ⟨by first | trivial | rfl, hM, Fr.rf⟩
theorem m_clearText (hM : HM h F s A) {n : Nat} (hF : F 7 = nI n) : Call 143 [.ref 423] h (fun rv h' => rv = some (.int (nI n)) ∧ HM h' (upd F 7 0) s A ∧ Fr 423 430 h h') := by
  obtain ⟨h2, e2, k2, r2⟩ := hM.sF (k := 7) (by decide) 0
  simp only [s143_e, s143_0, s143_1, s143_4, s143_5, s143_6, s143_7, s143_10, s143_11, hM.f, oB_some, hF, e2]
  exact ⟨by first | trivial | rfl, k2, r2⟩
end MUN
