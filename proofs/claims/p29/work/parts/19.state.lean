/-! A state: views, homes, heirs, letters, counters; what the heap holds of it; its reading methods. -/
/-- a letter: from, to, arrival, lost, what it tells -/
abbrev Lt : Type := Nat × Nat × Nat × Bool × Kn
/-- views' knowledge, which views there are, homes, heirs, letters in the order of coming, numbers (0: writers, 1: time, 2: letters taken in, 3: lost), parts merged -/
abbrev St : Type := (Nat → Kn) × (Nat → Bool) × (Nat → Nat) × (Nat → Int32) × List Lt × (Nat → Nat) × Int32
abbrev St.vk (S : St) : Nat → Kn := S.1
abbrev St.th (S : St) : Nat → Bool := S.2.1
abbrev St.ho (S : St) : Nat → Nat := S.2.2.1
abbrev St.he (S : St) : Nat → Int32 := S.2.2.2.1
abbrev St.lt (S : St) : List Lt := S.2.2.2.2.1
abbrev St.ct (S : St) : Nat → Nat := S.2.2.2.2.2.1
abbrev St.ot (S : St) : Int32 := S.2.2.2.2.2.2
def bI (b : Bool) : Int32 := if b = true then 1 else 0
def HL (h : AHp) (a : Nat) (L : Lt) : Prop := HO h a 1 [.int (nI L.1), .int (nI L.2.1), .int (nI L.2.2.1), .int (bI L.2.2.2.1), .ref (a + 1)] ∧ HK h (a + 1) L.2.2.2.2
/-- what is the same in every state that can be: homes are views, numbers are small -/
def Wf (S : St) : Prop := S.ct 0 ≤ 8 ∧ (∀ w, w < S.ct 0 → S.ho w < 6) ∧ S.lt.length ≤ 8 ∧ S.ct 1 < 2000 ∧ (∀ L ∈ S.lt, L.1 < 6 ∧ L.2.1 < 6 ∧ L.2.2.1 < 1000000000) ∧ (∃ v, v < 6 ∧ S.th v = true) ∧ S.lt.Pairwise (fun a c => a.2.2.1 ≤ c.2.2.1)
/-- what the heap holds of a state object, raw: F its numbers by field, K its views, f homes, g heirs, o the letters' order, Ls the letters by their cells -/
def HR (h : AHp) (t : Nat) (F : Nat → Int32) (K : Nat → Kn) (f g : Nat → Int32) (o : Nat → Nat) (Ls : Nat → Lt) : Prop :=
  HO h t 3 [.ref (t + 1), .int (F 1), .ref (t + 2), .ref (t + 3), .int (F 4), .ref (t + 4), .int (F 6), .int (F 7), .int (F 8), .int (F 9), .int (F 10)] ∧
  HQ h (t + 1) 1 6 (fun v => t + 5 + 4 * v) ∧ (∀ v, v < 6 → HK h (t + 5 + 4 * v) (K v)) ∧ HA h (t + 2) 8 f ∧ HA h (t + 3) 8 g ∧
  (∀ k, k < 8 → o k < 8) ∧ HQ h (t + 4) 2 8 (fun k => t + 29 + 5 * o k) ∧ ∀ j, j < 8 → HL h (t + 29 + 5 * j) (Ls j)
def RS (F f g : Nat → Int32) (o : Nat → Nat) (Ls : Nat → Lt) (S : St) : Prop :=
  F 1 = obits S.th 6 ∧ F 4 = nI (S.ct 0) ∧ F 6 = nI S.lt.length ∧ F 7 = nI (S.ct 1) ∧ F 8 = nI (S.ct 2) ∧ F 9 = nI (S.ct 3) ∧ F 10 = S.ot ∧
  (∀ w, w < S.ct 0 → f w = nI (S.ho w)) ∧ (∀ w, w < S.ct 0 → g w = S.he w) ∧ (∀ i j, i < 8 → j < 8 → o i = o j → i = j) ∧ ∀ (k : Nat) (M : Lt), S.lt[k]? = some M → Ls (o k) = M
def HS (h : AHp) (t : Nat) (S : St) : Prop := ∃ F f g o Ls, HR h t F S.vk f g o Ls ∧ RS F f g o Ls S ∧ Wf S
def hv (S : St) (x : Int32) : Bool := match ix x 6 with
  | some v => S.th v
  | none => false
def hw (S : St) (x : Int32) : Bool := (ix x (S.ct 0)).isSome
def rt (S : St) (w : Nat) : Bool := !decide (S.he w = -1)
section ST
variable {h h' : AHp} {t a : Nat} {S : St} {L : Lt}
theorem HL.fr {lo hi : Nat} (hL : HL h a L) (hf : Fr lo hi h h') (hd : a + 5 ≤ lo ∨ hi ≤ a) : HL h' a L := ⟨hL.1.fr hf (by omega), hL.2.fr hf (by omega)⟩
theorem HL.f (hL : HL h a L) : fldv h a 1 0 = some (.int (nI L.1)) ∧ fldv h a 1 1 = some (.int (nI L.2.1)) ∧ fldv h a 1 2 = some (.int (nI L.2.2.1)) ∧ fldv h a 1 3 = some (.int (bI L.2.2.2.1)) ∧ fldv h a 1 4 = some (.ref (a + 1)) ∧ isO h a 1 := ⟨hL.1.ld rfl, hL.1.ld rfl, hL.1.ld rfl, hL.1.ld rfl, hL.1.ld rfl, hL.1.is⟩
theorem HR.fr {lo hi : Nat} {F f g : Nat → Int32} {K : Nat → Kn} {o : Nat → Nat} {Ls : Nat → Lt} (hS : HR h t F K f g o Ls) (hf : Fr lo hi h h') (hd : t + 69 ≤ lo ∨ hi ≤ t) : HR h' t F K f g o Ls := by
  obtain ⟨a1, a2, a3, a4, a5, a6, a7, a8⟩ := hS
  exact ⟨a1.fr hf (by omega), a2.fr hf (by omega), fun v hv => (a3 v hv).fr hf (by omega), a4.fr hf (by omega), a5.fr hf (by omega), a6, a7.fr hf (by omega), fun j hj => (a8 j hj).fr hf (by omega)⟩
theorem HS.fr {lo hi : Nat} (hS : HS h t S) (hf : Fr lo hi h h') (hd : t + 69 ≤ lo ∨ hi ≤ t) : HS h' t S := by
  obtain ⟨F, f, g, o, Ls, a1, a2⟩ := hS
  exact ⟨F, f, g, o, Ls, a1.fr hf hd, a2⟩
section HRS
variable {F f g : Nat → Int32} {K : Nat → Kn} {o : Nat → Nat} {Ls : Nat → Lt}
theorem HR.fl (hS : HR h t F K f g o Ls) : fldv h t 3 0 = some (.ref (t + 1)) ∧ fldv h t 3 1 = some (.int (F 1)) ∧ fldv h t 3 2 = some (.ref (t + 2)) ∧ fldv h t 3 3 = some (.ref (t + 3)) ∧ fldv h t 3 4 = some (.int (F 4)) ∧ fldv h t 3 5 = some (.ref (t + 4)) ∧ fldv h t 3 6 = some (.int (F 6)) ∧ fldv h t 3 7 = some (.int (F 7)) ∧ fldv h t 3 8 = some (.int (F 8)) ∧ fldv h t 3 9 = some (.int (F 9)) ∧ fldv h t 3 10 = some (.int (F 10)) ∧ isO h t 3 :=
  ⟨hS.1.ld rfl, hS.1.ld rfl, hS.1.ld rfl, hS.1.ld rfl, hS.1.ld rfl, hS.1.ld rfl, hS.1.ld rfl, hS.1.ld rfl, hS.1.ld rfl, hS.1.ld rfl, hS.1.ld rfl, hS.1.is⟩
theorem HR.vq (hS : HR h t F K f g o Ls) {v : Nat} (hv : v < 6) : ldq h (t + 1) (nI v) = some (.ref (t + 5 + 4 * v)) := hS.2.1.ld hv (by decide) (by decide)
theorem HR.vK (hS : HR h t F K f g o Ls) {v : Nat} (hv : v < 6) : HK h (t + 5 + 4 * v) (K v) := hS.2.2.1 v hv
theorem HR.lq (hS : HR h t F K f g o Ls) {k : Nat} (hk : k < 8) : ldq h (t + 4) (nI k) = some (.ref (t + 29 + 5 * o k)) := hS.2.2.2.2.2.2.1.ld hk (by decide) (by decide)
theorem HR.lL (hS : HR h t F K f g o Ls) {j : Nat} (hj : j < 8) : HL h (t + 29 + 5 * j) (Ls j) := hS.2.2.2.2.2.2.2 j hj
theorem HR.sF (hS : HR h t F K f g o Ls) {k : Nat} (hk : k = 1 ∨ k = 4 ∨ k = 6 ∨ k = 7 ∨ k = 8 ∨ k = 9 ∨ k = 10) (x : Int32) : ∃ h', stf h t 3 k (.int x) = some h' ∧ HR h' t (upd F k x) K f g o Ls ∧ Fr t (t + 69) h h' := by
  obtain ⟨a1, a2, a3, a4, a5, a6, a7, a8⟩ := hS
  obtain ⟨h1, e, b, r⟩ := a1.st (k := k) (v := .int x) (by show k < 11; omega) (by rcases hk with rfl | rfl | rfl | rfl | rfl | rfl | rfl <;> rfl)
  refine ⟨h1, e, ⟨?_, a2.fr r (by omega), fun v hv => (a3 v hv).fr r (by omega), a4.fr r (by omega), a5.fr r (by omega), a6, a7.fr r (by omega), fun j hj => (a8 j hj).fr r (by omega)⟩, r.up (by omega) (by omega)⟩
  rcases hk with rfl | rfl | rfl | rfl | rfl | rfl | rfl <;> exact b
theorem HR.sK (hS : HR h t F K f g o Ls) {v : Nat} {K' : Kn} (hv : v < 6) (hk : HK h' (t + 5 + 4 * v) K') (r : Fr (t + 5 + 4 * v) (t + 5 + 4 * v + 4) h h') : HR h' t F (va_up K v K') f g o Ls := by
  obtain ⟨a1, a2, a3, a4, a5, a6, a7, a8⟩ := hS
  refine ⟨a1.fr r (by omega), a2.fr r (by omega), fun w hw => ?_, a4.fr r (by omega), a5.fr r (by omega), a6, a7.fr r (by omega), fun j hj => (a8 j hj).fr r (by omega)⟩
  unfold va_up
  by_cases e : w = v
  · subst e; rw [if_pos rfl]; exact hk
  · rw [if_neg e]; exact (a3 w hw).fr r (by omega)
theorem HR.sho (hS : HR h t F K f g o Ls) {w : Nat} (hw : w < 8) (x : Int32) : ∃ h', sti h (t + 2) (nI w) x = some h' ∧ HR h' t F K (upd f w x) g o Ls ∧ Fr t (t + 69) h h' := by
  obtain ⟨a1, a2, a3, a4, a5, a6, a7, a8⟩ := hS
  obtain ⟨h1, e, b, r⟩ := a4.st (x := x) hw (by decide)
  exact ⟨h1, e, ⟨a1.fr r (by omega), a2.fr r (by omega), fun v hv => (a3 v hv).fr r (by omega), b, a5.fr r (by omega), a6, a7.fr r (by omega), fun j hj => (a8 j hj).fr r (by omega)⟩, r.up (by omega) (by omega)⟩
theorem HR.she (hS : HR h t F K f g o Ls) {w : Nat} (hw : w < 8) (x : Int32) : ∃ h', sti h (t + 3) (nI w) x = some h' ∧ HR h' t F K f (upd g w x) o Ls ∧ Fr t (t + 69) h h' := by
  obtain ⟨a1, a2, a3, a4, a5, a6, a7, a8⟩ := hS
  obtain ⟨h1, e, b, r⟩ := a5.st (x := x) hw (by decide)
  exact ⟨h1, e, ⟨a1.fr r (by omega), a2.fr r (by omega), fun v hv => (a3 v hv).fr r (by omega), a4.fr r (by omega), b, a6, a7.fr r (by omega), fun j hj => (a8 j hj).fr r (by omega)⟩, r.up (by omega) (by omega)⟩
theorem HR.sL (hS : HR h t F K f g o Ls) {j : Nat} {L' : Lt} (hj : j < 8) (hk : HL h' (t + 29 + 5 * j) L') (r : Fr (t + 29 + 5 * j) (t + 29 + 5 * j + 5) h h') : HR h' t F K f g o (va_up Ls j L') := by
  obtain ⟨a1, a2, a3, a4, a5, a6, a7, a8⟩ := hS
  refine ⟨a1.fr r (by omega), a2.fr r (by omega), fun w hw => (a3 w hw).fr r (by omega), a4.fr r (by omega), a5.fr r (by omega), a6, a7.fr r (by omega), fun i hi => ?_⟩
  unfold va_up
  by_cases e : i = j
  · subst e; rw [if_pos rfl]; exact hk
  · rw [if_neg e]; exact (a8 i hi).fr r (by omega)
theorem HR.so (hS : HR h t F K f g o Ls) {k j : Nat} (hk : k < 8) (hj : j < 8) : ∃ h', stq h (t + 4) (nI k) (t + 29 + 5 * j) = some h' ∧ HR h' t F K f g (va_up o k j) Ls ∧ Fr t (t + 69) h h' := by
  obtain ⟨a1, a2, a3, a4, a5, a6, a7, a8⟩ := hS
  obtain ⟨h1, e, b, r⟩ := a7.st (v := t + 29 + 5 * j) hk (by decide) (by decide) (a8 j hj).1.is rfl
  refine ⟨h1, e, ⟨a1.fr r (by omega), a2.fr r (by omega), fun v hv => (a3 v hv).fr r (by omega), a4.fr r (by omega), a5.fr r (by omega), fun i hi => ?_, ?_, fun i hi => (a8 i hi).fr r (by omega)⟩, r.up (by omega) (by omega)⟩
  · unfold va_up
    by_cases q : i = k
    · rw [if_pos q]; exact hj
    · rw [if_neg q]; exact a6 i hi
  · obtain ⟨q, b1, b2⟩ := b
    refine ⟨q, b1, fun i hi => ?_⟩
    rw [b2 i hi]
    unfold va_up
    by_cases q : i = k
    · simp [q]
    · simp [q]
end HRS
theorem HS.f (hS : HS h t S) : fldv h t 3 0 = some (.ref (t + 1)) ∧ fldv h t 3 1 = some (.int (obits S.th 6)) ∧ fldv h t 3 2 = some (.ref (t + 2)) ∧ fldv h t 3 3 = some (.ref (t + 3)) ∧ fldv h t 3 4 = some (.int (nI (S.ct 0))) ∧ fldv h t 3 5 = some (.ref (t + 4)) ∧ fldv h t 3 6 = some (.int (nI S.lt.length)) ∧ fldv h t 3 7 = some (.int (nI (S.ct 1))) ∧ fldv h t 3 8 = some (.int (nI (S.ct 2))) ∧ fldv h t 3 9 = some (.int (nI (S.ct 3))) ∧ fldv h t 3 10 = some (.int S.ot) ∧ isO h t 3 := by
  obtain ⟨F, f, g, o, Ls, a1, ⟨e1, e4, e6, e7, e8, e9, e10, -⟩, -⟩ := hS
  have := a1.fl
  rwa [e1, e4, e6, e7, e8, e9, e10] at this
theorem HS.w (hS : HS h t S) : Wf S := by
  obtain ⟨F, f, g, o, Ls, a1, a2, a3⟩ := hS
  exact a3
theorem HS.vq (hS : HS h t S) {v : Nat} (hv : v < 6) : ldq h (t + 1) (nI v) = some (.ref (t + 5 + 4 * v)) := by
  obtain ⟨F, f, g, o, Ls, a1, a2, a3⟩ := hS
  exact a1.vq hv
theorem HS.vK (hS : HS h t S) {v : Nat} (hv : v < 6) : HK h (t + 5 + 4 * v) (S.vk v) := by
  obtain ⟨F, f, g, o, Ls, a1, a2, a3⟩ := hS
  exact a1.vK hv
theorem HS.lho (hS : HS h t S) {w : Nat} (hw : w < S.ct 0) : ldi h (t + 2) (nI w) = some (nI (S.ho w)) := by
  obtain ⟨F, f, g, o, Ls, a1, ⟨-, -, -, -, -, -, -, e, -⟩, a3⟩ := hS
  have := a3.1
  rw [a1.2.2.2.1.ld (by omega) (by decide), e w hw]
theorem HS.lhe (hS : HS h t S) {w : Nat} (hw : w < S.ct 0) : ldi h (t + 3) (nI w) = some (S.he w) := by
  obtain ⟨F, f, g, o, Ls, a1, ⟨-, -, -, -, -, -, -, -, e, -⟩, a3⟩ := hS
  have := a3.1
  rw [a1.2.2.2.2.1.ld (by omega) (by decide), e w hw]
/-- the letter at a place of the order -/
theorem HS.lL (hS : HS h t S) {k : Nat} {M : Lt} (hk : S.lt[k]? = some M) : ∃ a, ldq h (t + 4) (nI k) = some (.ref a) ∧ HL h a M ∧ t + 29 ≤ a ∧ a + 5 ≤ t + 69 := by
  obtain ⟨F, f, g, o, Ls, a1, ⟨-, -, -, -, -, -, -, -, -, -, e⟩, a3⟩ := hS
  have h1 := (List.getElem?_eq_some_iff.mp hk).1
  have h2 : k < 8 := Nat.lt_of_lt_of_le h1 a3.2.2.1
  have h3 := a1.2.2.2.2.2.1 k h2
  have h4 : t + 29 + 5 * o k + 5 ≤ t + 69 := by omega
  refine ⟨t + 29 + 5 * o k, a1.lq h2, ?_, Nat.le_add_right _ _, h4⟩
  have := a1.lL h3
  rwa [e k M hk] at this
theorem hv_nI {v : Nat} (hv6 : v < 6) : hv S (nI v) = S.th v := by unfold hv; rw [ix_nI hv6 (by decide)]
theorem c_hasView (hS : HS h t S) (x : Int32) : ∀ post, Call 18 [.ref t, .int x] h post = post (some (.int (if hv S x = true then 1 else 0))) h := by
  refine call_eq ?_
  simp only [s18_0, s18_1, s18_2, s18_3, s18_e, c_isWithin, Option.toList_some, List.cons_append, List.nil_append]
  have e5 : (5 : Int32) = nI 6 - 1 := by decide
  rw [e5]
  rcases ix_cases x 6 with hx | ⟨v, hv6, rfl⟩
  · have hn : ¬ ((0 : Int32) ≤ x ∧ x ≤ nI 6 - 1) := fun q => by
      have := (ix_iff (n := 6) (by decide)).mpr q
      rw [hx] at this; cases this
    rw [if_neg hn]
    simp only [s18_6, s18_9, s18_10, s18_13, s18_14, s18_15, s18_16, s18_17, s18_20, s18_21, s18_24, s18_25, if_pos]
    simp [hv, hx]
  · have hp := (ix_iff (x := nI v) (n := 6) (by decide)).mp (by rw [ix_nI hv6 (by decide)]; rfl)
    rw [if_pos hp]
    simp only [s18_6, s18_9, s18_10, s18_13, s18_14, s18_15, s18_16, s18_17, if_neg (show ¬ (1 : Int32) = 0 by decide), hS.f, oB_some]
    have hb := gb_obits S.th (n := 6) (by decide) hv6
    unfold gb at hb
    by_cases hc : obits S.th 6 &&& ((1 : Int32) <<< (nI v &&& 31)) = 0
    · rw [if_pos hc]
      simp only [s18_20, s18_21, s18_24, s18_25]
      simp [hc] at hb
      simp [hv, ix_nI hv6, ← hb]
    · rw [if_neg hc]
      simp only [s18_20, s18_21, s18_24, s18_25]
      simp [hc] at hb
      simp [hv, ix_nI hv6, ← hb]
theorem c_hasWriter (hS : HS h t S) (x : Int32) : ∀ post, Call 19 [.ref t, .int x] h post = post (some (.int (if hw S x = true then 1 else 0))) h := by
  refine call_eq ?_
  have h8 := hS.w.1
  simp only [s19_e, s19_0, s19_1, s19_2, s19_3, s19_6, s19_7, s19_8, s19_11, hS.f, oB_some, c_isWithin, Option.toList_some, List.cons_append, List.nil_append]
  have := ix_iff (x := x) (n := S.ct 0) (by omega)
  by_cases hc : (0 : Int32) ≤ x ∧ x ≤ nI (S.ct 0) - 1
  · rw [if_pos hc]
    simp [hw, this.mpr hc]
  · rw [if_neg hc]
    have h2 : hw S x = false := by
      cases hh : hw S x with
      | false => rfl
      | true => exact absurd (this.mp hh) hc
    simp [h2]
theorem c_hasRetired (hS : HS h t S) {w : Nat} (hw : w < S.ct 0) : ∀ post, Call 20 [.ref t, .int (nI w)] h post = post (some (.int (if rt S w = true then 1 else 0))) h := by
  refine call_eq ?_
  simp only [s20_e, s20_0, s20_1, s20_4, s20_5, s20_6, s20_7, s20_10, s20_11, s20_14, s20_15, hS.f, oB_some, hS.lhe hw]
  by_cases hc : S.he w = -1
  · rw [if_pos hc]; simp [rt, hc]
  · rw [if_neg hc]; simp [rt, hc]
theorem c_countViews (hS : HS h t S) : ∀ post, Call 21 [.ref t] h post = post (some (.int (cntI S.th 6))) h := by
  refine call_eq ?_
  simp only [s21_e, s21_0, s21_1, s21_4, s21_7, hS.f, oB_some, c_bitCount, bc_6, Option.toList_some, List.cons_append, List.nil_append]
  simp
theorem c_countActive (hS : HS h t S) : ∀ post, Call 22 [.ref t] h post = post (some (.int (cntI (fun w => !rt S w) (S.ct 0)))) h := by
  refine call_eq ?_
  have h8 := hS.w.1
  have loop : ∀ d w, w + d = S.ct 0 → Ev none 22 4 [.ref t, .int (cntI (fun w => !rt S w) w), .int (nI w)] [] h (fun r g => r = some (.int (cntI (fun w => !rt S w) (S.ct 0))) ∧ g = h) := by
    intro d
    induction d with
    | zero =>
      intro w hw
      obtain rfl : w = S.ct 0 := by omega
      simp only [s22_4, s22_5, s22_6, s22_9, s22_29, s22_30, hS.f, oB_some, if_pos (Int32.le_refl _)]
      simp
    | succ d ih =>
      intro w hw
      have hw8 : w < S.ct 0 := by omega
      simp only [s22_4, s22_5, s22_6, s22_9, hS.f, oB_some, if_neg (nI_ge hw8 (by omega))]
      simp only [s22_12, s22_13, s22_14, hS.f, c_hasRetired hS hw8, Option.toList_some, List.cons_append, List.nil_append]
      have ih := ih (w + 1) (by omega)
      by_cases hc : rt S w = true
      · simp only [s22_17, s22_20, s22_23, s22_26, if_pos hc, nI_s]
        simpa [cntI, hc] using ih
      · simp only [s22_17, s22_20, s22_23, s22_26, if_neg hc, nI_s]
        simpa [cntI, hc] using ih
  simp only [s22_0, s22_1, s22_2, s22_3, s22_e]
  exact loop (S.ct 0) 0 (Nat.zero_add _)
theorem c_homeOf (hS : HS h t S) {w : Nat} (hw : w < S.ct 0) : ∀ post, Call 23 [.ref t, .int (nI w)] h post = post (some (.ref (t + 5 + 4 * S.ho w))) h := by
  refine call_eq ?_
  simp only [s23_e, s23_0, s23_1, s23_4, s23_5, s23_8, s23_9, s23_10, s23_11, hS.f, oB_some, hS.lho hw, hS.vq (hS.w.2.1 w hw)]
  simp
theorem c_homeVersion (hS : HS h t S) {w : Nat} (hw : w < S.ct 0) : ∀ post, Call 24 [.ref t, .int (nI w)] h post = post (some (.int ((S.vk (S.ho w)).1 w))) h := by
  refine call_eq ?_
  have h8 := hS.w.1
  have hk := hS.vK (hS.w.2.1 w hw)
  simp only [s24_e, s24_0, s24_1, s24_2, s24_5, s24_8, s24_9, s24_10, hS.f, c_homeOf hS hw, Option.toList_some, List.cons_append, List.nil_append, hk.f, oB_some, hk.lv (show w < 8 by omega)]
  simp
theorem c_writersAtHome (hS : HS h t S) {v : Nat} (hv : v < 6) : ∀ post, Call 25 [.ref t, .int (nI v)] h post = post (some (.int (obits (fun w => decide (S.ho w = v) && !rt S w) (S.ct 0)))) h := by
  refine call_eq ?_
  have h8 := hS.w.1
  have loop : ∀ d w, w + d = S.ct 0 → Ev none 25 4 [.ref t, .int (nI v), .int (obits (fun w => decide (S.ho w = v) && !rt S w) w), .int (nI w)] [] h (fun r g => r = some (.int (obits (fun w => decide (S.ho w = v) && !rt S w) (S.ct 0))) ∧ g = h) := by
    intro d
    induction d with
    | zero =>
      intro w hw
      obtain rfl : w = S.ct 0 := by omega
      simp only [s25_4, s25_5, s25_6, s25_9, s25_42, s25_43, hS.f, oB_some, if_pos (Int32.le_refl _)]
      simp
    | succ d ih =>
      intro w hw
      have hw8 : w < S.ct 0 := by omega
      have hh := hS.w.2.1 w hw8
      simp only [s25_4, s25_5, s25_6, s25_9, hS.f, oB_some, if_neg (nI_ge hw8 (by omega))]
      simp only [s25_12, s25_13, s25_16, s25_17, s25_18, s25_19, hS.f, oB_some, hS.lho hw8]
      have ih := ih (w + 1) (by omega)
      by_cases hc : S.ho w = v
      · rw [if_neg (fun q => q (by rw [hc]))]
        simp only [s25_22, s25_23, s25_24, hS.f, c_hasRetired hS hw8, Option.toList_some, List.cons_append, List.nil_append]
        by_cases hr : rt S w = true
        · simp only [s25_27, s25_30, s25_31, s25_32, s25_33, s25_34, s25_35, s25_36, s25_39, if_pos hr, nI_s]
          simpa [obits, hc, hr] using ih
        · simp only [s25_27, s25_30, s25_31, s25_32, s25_33, s25_34, s25_35, s25_36, s25_39, if_neg hr, nI_s]
          simpa [obits, hc, hr] using ih
      · have hc2 : ¬ nI (S.ho w) = nI v := fun q => hc ((nI_eq (by omega) (by omega)).mp q)
        rw [if_pos hc2]
        simp only [s25_36, s25_39, nI_s]
        simpa [obits, hc] using ih
  simp only [s25_0, s25_1, s25_2, s25_3, s25_e]
  exact loop (S.ct 0) 0 (Nat.zero_add _)
theorem c_viewsSame (hS : HS h t S) {v : Nat} (hv6 : v < 6) : ∀ post, Call 26 [.ref t, .int (nI v)] h post = post (some (.int (obits (fun u => S.th u && kEq (S.vk u) (S.vk v)) 6))) h := by
  refine call_eq ?_
  have loop : ∀ d u, u + d = 6 → Ev none 26 4 [.ref t, .int (nI v), .int (obits (fun u => S.th u && kEq (S.vk u) (S.vk v)) u), .int (nI u)] [] h (fun r g => r = some (.int (obits (fun u => S.th u && kEq (S.vk u) (S.vk v)) 6)) ∧ g = h) := by
    intro d
    induction d with
    | zero =>
      intro u hu
      obtain rfl : u = 6 := by omega
      simp only [s26_4, s26_5, s26_7, s26_48, s26_49, if_pos (show (6 : Int32) ≤ nI 6 by decide)]
      simp
    | succ d ih =>
      intro u hu
      have hu6 : u < 6 := by omega
      simp only [s26_4, s26_5, s26_7, if_neg (le6 hu6)]
      simp only [s26_10, s26_11, s26_12, hS.f, c_hasView hS, hv_nI hu6, Option.toList_some, List.cons_append, List.nil_append]
      have ih := ih (u + 1) (by omega)
      by_cases hc : S.th u = true
      · rw [if_pos hc]
        simp only [s26_15, s26_18, s26_19, s26_22, s26_23, s26_24, s26_25, s26_28, s26_29, s26_30, if_neg (show ¬ (1 : Int32) = 0 by decide), hS.f, oB_some, hS.vq hu6, hS.vq hv6, (hS.vK hu6).f, c_knowsTheSameAs (hS.vK hu6) (hS.vK hv6), Option.toList_some, List.cons_append, List.nil_append]
        by_cases hr : kEq (S.vk u) (S.vk v) = true
        · simp only [s26_33, s26_36, s26_37, s26_38, s26_39, s26_40, s26_41, s26_42, s26_45, if_pos hr, if_neg (show ¬ (1 : Int32) = 0 by decide), nI_s]
          simpa [obits, hc, hr] using ih
        · simp only [s26_33, s26_36, s26_37, s26_38, s26_39, s26_40, s26_41, s26_42, s26_45, if_neg hr, if_true, nI_s]
          simpa [obits, hc, hr] using ih
      · simp only [s26_15, s26_42, s26_45, if_neg hc, if_true, nI_s]
        simpa [obits, hc] using ih
  simp only [s26_0, s26_1, s26_2, s26_3, s26_e]
  exact loop 6 0 rfl
theorem c_viewsUp (hS : HS h t S) {w : Nat} (hw : w < S.ct 0) : ∀ post, Call 27 [.ref t, .int (nI w)] h post = post (some (.int (obits (fun u => S.th u && decide ((S.vk u).1 w = (S.vk (S.ho w)).1 w)) 6))) h := by
  refine call_eq ?_
  have h8 := hS.w.1
  have hw8 : w < 8 := by omega
  have loop : ∀ d u, u + d = 6 → Ev none 27 4 [.ref t, .int (nI w), .int (obits (fun u => S.th u && decide ((S.vk u).1 w = (S.vk (S.ho w)).1 w)) u), .int (nI u)] [] h (fun r g => r = some (.int (obits (fun u => S.th u && decide ((S.vk u).1 w = (S.vk (S.ho w)).1 w)) 6)) ∧ g = h) := by
    intro d
    induction d with
    | zero =>
      intro u hu
      obtain rfl : u = 6 := by omega
      simp only [s27_4, s27_5, s27_7, s27_49, s27_50, if_pos (show (6 : Int32) ≤ nI 6 by decide)]
      simp
    | succ d ih =>
      intro u hu
      have hu6 : u < 6 := by omega
      simp only [s27_4, s27_5, s27_7, if_neg (le6 hu6)]
      simp only [s27_10, s27_11, s27_12, hS.f, c_hasView hS, hv_nI hu6, Option.toList_some, List.cons_append, List.nil_append]
      have ih := ih (u + 1) (by omega)
      by_cases hc : S.th u = true
      · rw [if_pos hc]
        simp only [s27_15, s27_18, s27_19, s27_22, s27_23, s27_24, s27_27, s27_28, s27_29, s27_30, s27_31, if_neg (show ¬ (1 : Int32) = 0 by decide), hS.f, oB_some, hS.vq hu6, (hS.vK hu6).f, (hS.vK hu6).lv hw8, c_homeVersion hS hw, Option.toList_some, List.cons_append, List.nil_append]
        by_cases hr : (S.vk u).1 w = (S.vk (S.ho w)).1 w
        · simp only [s27_34, s27_37, s27_38, s27_39, s27_40, s27_41, s27_42, s27_43, s27_46, if_neg (fun q : ¬ _ => q hr), nI_s]
          simpa [obits, hc, hr] using ih
        · simp only [s27_34, s27_37, s27_38, s27_39, s27_40, s27_41, s27_42, s27_43, s27_46, if_pos hr, nI_s]
          simpa [obits, hc, hr] using ih
      · simp only [s27_15, s27_43, s27_46, if_neg hc, if_true, nI_s]
        simpa [obits, hc] using ih
  simp only [s27_0, s27_1, s27_2, s27_3, s27_e]
  exact loop 6 0 rfl
theorem c_viewsGrave (hS : HS h t S) {w : Nat} (hw : w < S.ct 0) : ∀ post, Call 28 [.ref t, .int (nI w)] h post = post (some (.int (obits (fun u => S.th u && gb (S.vk u).2.2.2 w) 6))) h := by
  refine call_eq ?_
  have h8 := hS.w.1
  have hw8 : w < 8 := by omega
  have loop : ∀ d u, u + d = 6 → Ev none 28 4 [.ref t, .int (nI w), .int (obits (fun u => S.th u && gb (S.vk u).2.2.2 w) u), .int (nI u)] [] h (fun r g => r = some (.int (obits (fun u => S.th u && gb (S.vk u).2.2.2 w) 6)) ∧ g = h) := by
    intro d
    induction d with
    | zero =>
      intro u hu
      obtain rfl : u = 6 := by omega
      simp only [s28_4, s28_5, s28_7, s28_43, s28_44, if_pos (show (6 : Int32) ≤ nI 6 by decide)]
      simp
    | succ d ih =>
      intro u hu
      have hu6 : u < 6 := by omega
      simp only [s28_4, s28_5, s28_7, if_neg (le6 hu6)]
      simp only [s28_10, s28_11, s28_12, hS.f, c_hasView hS, hv_nI hu6, Option.toList_some, List.cons_append, List.nil_append]
      have ih := ih (u + 1) (by omega)
      by_cases hc : S.th u = true
      · rw [if_pos hc]
        simp only [s28_15, s28_18, s28_19, s28_22, s28_23, s28_24, s28_25, if_neg (show ¬ (1 : Int32) = 0 by decide), hS.f, oB_some, hS.vq hu6, (hS.vK hu6).f, c_hasGrave (hS.vK hu6), Option.toList_some, List.cons_append, List.nil_append]
        by_cases hr : gb (S.vk u).2.2.2 w = true
        · simp only [s28_28, s28_31, s28_32, s28_33, s28_34, s28_35, s28_36, s28_37, s28_40, if_pos hr, if_neg (show ¬ (1 : Int32) = 0 by decide), nI_s]
          simpa [obits, hc, hr] using ih
        · simp only [s28_28, s28_31, s28_32, s28_33, s28_34, s28_35, s28_36, s28_37, s28_40, if_neg hr, if_true, nI_s]
          simpa [obits, hc, hr] using ih
      · simp only [s28_15, s28_37, s28_40, if_neg hc, if_true, nI_s]
        simpa [obits, hc] using ih
  simp only [s28_0, s28_1, s28_2, s28_3, s28_e]
  exact loop 6 0 rfl
/-- the first view with the least version of a part -/
def lkv (S : St) (w : Nat) : Nat → Option Nat
  | 0 => none
  | n + 1 => match lkv S w n with
    | none => if S.th n = true then some n else none
    | some m => if S.th n = true ∧ (S.vk n).1 w < (S.vk m).1 w then some n else some m
def lk (S : St) (w : Nat) : Int32 := match lkv S w 6 with
  | none => 0
  | some m => (S.vk m).2.1 w - (S.vk m).2.2.1 w
theorem lkv_lt {w : Nat} : ∀ {n m : Nat}, lkv S w n = some m → m < n := by
  intro n
  induction n with
  | zero => intro m h; cases h
  | succ n ih =>
    intro m h
    unfold lkv at h
    split at h
    · split at h
      · cases h; omega
      · cases h
    · rename_i m' hm
      have := ih hm
      split at h
      · cases h; omega
      · cases h; omega
end ST
