/-! The class's outer object: six states that change places, the history, the scratch, the text. -/
def ad : Nat → Nat
  | 0 => 1
  | 1 => 70
  | k + 2 => 147 + 69 * k
theorem ad_b : ∀ i, i < 6 → 1 ≤ ad i ∧ ad i + 69 ≤ 423 ∧ (ad i + 69 ≤ 139 ∨ 147 ≤ ad i) := by decide
theorem ad_d : ∀ i, i < 6 → ∀ j, j < 6 → i ≠ j → ad i + 69 ≤ ad j ∨ ad j + 69 ≤ ad i := by decide
def HP0 (h : AHp) (q : Nat → Nat) (n : Nat) (C : Nat → St) (K : Kn) (F f g : Nat → Int32) : Prop :=
  HO h 0 4 [.ref (ad (q 4)), .ref (ad (q 5)), .ref 139, .int (nI n), .ref 140, .ref 144] ∧ HQ h 139 3 4 (fun k => ad (q k)) ∧
  (∀ j, j < 6 → HS h (ad j) (C j)) ∧ HK h 140 K ∧ HC h F f g ∧ (∀ i, i < 6 → q i < 6) ∧ ∀ i j, i < 6 → j < 6 → q i = q j → i = j
/-- the outer object with the trial's address and state: present state S, history H, text tc of length tn -/
def HPT (h : AHp) (a : Nat) (S : St) (H : List St) (T : St) (tn : Nat) (tc : Nat → Int32) : Prop :=
  ∃ q C K F g, HP0 h q H.length C K F tc g ∧ F 1 = nI tn ∧ tn ≤ 60 ∧ H.length ≤ 4 ∧ ad (q 5) = a ∧ C (q 5) = T ∧ C (q 4) = S ∧ ∀ k, k < H.length → H[k]? = some (C (q k))
def HP (h : AHp) (S : St) (H : List St) (tn : Nat) (tc : Nat → Int32) : Prop := ∃ a T, HPT h a S H T tn tc
def pushH (H : List St) (S : St) : List St := if H.length < 4 then H ++ [S] else H.tail ++ [S]
theorem HQ.to {h : AHp} {a kd n : Nat} {f f2 : Nat → Nat} (hA : HQ h a kd n f) (he : ∀ i, i < n → f i = f2 i) : HQ h a kd n f2 := by
  obtain ⟨g, h1, h2⟩ := hA
  exact ⟨g, h1, fun i hi => by rw [h2 i hi, he i hi]⟩
theorem HO.at {h h' : AHp} {a c : Nat} {fs : List Value} (hO : HO h a c fs) (e : h'[a]? = h[a]?) : HO h' a c fs := by unfold HO; rw [e]; exact hO
theorem HA.at {h h' : AHp} {a n : Nat} {f : Nat → Int32} (hA : HA h a n f) (e : h'[a]? = h[a]?) : HA h' a n f := by
  obtain ⟨g, h1, h2⟩ := hA
  exact ⟨g, by rw [e]; exact h1, h2⟩
theorem HQ.at {h h' : AHp} {a kd n : Nat} {f : Nat → Nat} (hA : HQ h a kd n f) (e : h'[a]? = h[a]?) : HQ h' a kd n f := by
  obtain ⟨g, h1, h2⟩ := hA
  exact ⟨g, by rw [e]; exact h1, h2⟩
theorem HK.at {h h' : AHp} {k : Nat} {K : Kn} (hK : HK h k K) (e : ∀ j, k ≤ j → j < k + 4 → h'[j]? = h[j]?) : HK h' k K :=
  ⟨hK.1.at (e _ (by omega) (by omega)), hK.2.1.at (e _ (by omega) (by omega)), hK.2.2.1.at (e _ (by omega) (by omega)), hK.2.2.2.at (e _ (by omega) (by omega))⟩
theorem HL.at {h h' : AHp} {a : Nat} {L : Lt} (hL : HL h a L) (e : ∀ j, a ≤ j → j < a + 5 → h'[j]? = h[j]?) : HL h' a L :=
  ⟨hL.1.at (e _ (by omega) (by omega)), hL.2.at (fun j h1 h2 => e j (by omega) (by omega))⟩
theorem HS.at {h h' : AHp} {t : Nat} {S : St} (hS : HS h t S) (e : ∀ j, t ≤ j → j < t + 69 → h'[j]? = h[j]?) : HS h' t S := by
  obtain ⟨F, f, g, o, Ls, ⟨a1, a2, a3, a4, a5, a6, a7, a8⟩, b⟩ := hS
  exact ⟨F, f, g, o, Ls, ⟨a1.at (e _ (by omega) (by omega)), a2.at (e _ (by omega) (by omega)), fun v hv => (a3 v hv).at (fun j h1 h2 => e j (by omega) (by omega)), a4.at (e _ (by omega) (by omega)), a5.at (e _ (by omega) (by omega)), a6, a7.at (e _ (by omega) (by omega)), fun i hi => (a8 i hi).at (fun j h1 h2 => e j (by omega) (by omega))⟩, b⟩
section OS
variable {h h' : AHp} {S T : St} {H : List St} {tn a : Nat} {tc : Nat → Int32}
theorem HP0.f {q : Nat → Nat} {n : Nat} {C : Nat → St} {K : Kn} {F f g : Nat → Int32} (hP : HP0 h q n C K F f g) : fldv h 0 4 0 = some (.ref (ad (q 4))) ∧ fldv h 0 4 1 = some (.ref (ad (q 5))) ∧ fldv h 0 4 2 = some (.ref 139) ∧ fldv h 0 4 3 = some (.int (nI n)) ∧ fldv h 0 4 4 = some (.ref 140) ∧ fldv h 0 4 5 = some (.ref 144) ∧ isO h 0 4 :=
  ⟨hP.1.ld rfl, hP.1.ld rfl, hP.1.ld rfl, hP.1.ld rfl, hP.1.ld rfl, hP.1.ld rfl, hP.1.is⟩
theorem HP.f (hP : HP h S H tn tc) : ∃ a b, HS h a S ∧ 1 ≤ a ∧ a + 69 ≤ 423 ∧ (a + 69 ≤ 139 ∨ 147 ≤ a) ∧ fldv h 0 4 0 = some (.ref a) ∧ fldv h 0 4 1 = some (.ref b) ∧ fldv h 0 4 2 = some (.ref 139) ∧ fldv h 0 4 3 = some (.int (nI H.length)) ∧ fldv h 0 4 4 = some (.ref 140) ∧ fldv h 0 4 5 = some (.ref 144) ∧ isO h 0 4 := by
  obtain ⟨a, T, q, C, K, F, g, h0, -, -, -, -, -, h1, -⟩ := hP
  have h4 := h0.2.2.2.2.2.1 4 (by decide)
  have := ad_b (q 4) h4
  refine ⟨ad (q 4), ad (q 5), ?_, this.1, this.2.1, this.2.2, h0.f⟩
  rw [← h1]
  exact h0.2.2.1 _ h4
theorem HP.K (hP : HP h S H tn tc) : ∃ K, HK h 140 K := by
  obtain ⟨a, T, q, C, K, F, g, h0, -⟩ := hP
  exact ⟨K, h0.2.2.2.1⟩
theorem HP.setK (hP : HP h S H tn tc) {K : Kn} (hK : HK h' 140 K) (r : Fr 140 144 h h') : HP h' S H tn tc := by
  obtain ⟨a, T, q, C, K, F, g, ⟨a1, a2, a3, a4, a5, a6, a7⟩, h1⟩ := hP
  refine ⟨a, T, q, C, _, F, g, ⟨a1.fr r (by omega), a2.fr r (by omega), fun j hj => (a3 j hj).fr r ?_, hK, a5.fr r (by omega), a6, a7⟩, h1⟩
  have := ad_b j hj
  omega
theorem HP.C (hP : HP h S H tn tc) : tn ≤ 60 ∧ ∃ F g, HC h F tc g ∧ F 1 = nI tn := by
  obtain ⟨a, T, q, C, K, F, g, h0, h1, h2, -⟩ := hP
  exact ⟨h2, F, g, h0.2.2.2.2.1, h1⟩
theorem HP.setC (hP : HP h S H tn tc) {F f g : Nat → Int32} {n : Nat} (hC : HC h' F f g) (hn : F 1 = nI n) (hb : n ≤ 60) (r : Fr 144 147 h h') : HP h' S H n f := by
  obtain ⟨a, T, q, C, K, F', g', ⟨a1, a2, a3, a4, a5, a6, a7⟩, -, -, h1⟩ := hP
  refine ⟨a, T, q, C, K, F, g, ⟨a1.fr r (by omega), a2.fr r (by omega), fun j hj => (a3 j hj).fr r ?_, a4.fr r (by omega), hC, a6, a7⟩, hn, hb, h1⟩
  have := ad_b j hj
  omega
theorem HPT.st (hP : HPT h a S H T tn tc) : HS h a T ∧ 1 ≤ a ∧ a + 69 ≤ 423 ∧ (a + 69 ≤ 139 ∨ 147 ≤ a) := by
  obtain ⟨q, C, K, F, g, h0, -, -, -, rfl, rfl, -⟩ := hP
  have h5 := h0.2.2.2.2.2.1 5 (by decide)
  exact ⟨h0.2.2.1 _ h5, ad_b _ h5⟩
/-- the trial (and the text object's numbers) may change -/
theorem HPT.run (hP : HPT h a S H T tn tc) {T' : St} {F' g' : Nat → Int32} (hS : HS h' a T') (r : FrT a h h') (hC : HC h' F' tc g') (hF : F' 1 = nI tn) : HPT h' a S H T' tn tc := by
  obtain ⟨q, C, K, F, g, ⟨a1, a2, a3, a4, a5, a6, a7⟩, h1, h2, h3, rfl, rfl, h6, h7⟩ := hP
  have q5 := a6 5 (by decide)
  have b5 := ad_b _ q5
  have fr : ∀ lo hi : Nat, hi ≤ ad (q 5) ∨ ad (q 5) + 69 ≤ lo → hi ≤ 144 ∨ 147 ≤ lo → ∀ j, lo ≤ j → j < hi → h'[j]? = h[j]? := by
    intro lo hi z1 z2 j z3 z4
    exact r.2 j (by omega) (by omega)
  have ne : ∀ i, i < 6 → i ≠ 5 → q i ≠ q 5 := fun i hi hn he => hn (a7 i 5 hi (by decide) he)
  refine ⟨q, va_up C (q 5) T', K, F', g', ⟨?_, ?_, ?_, ?_, hC, a6, a7⟩, hF, h2, h3, rfl, ?_, ?_, ?_⟩
  · unfold HO; rw [fr 0 1 (by omega) (by omega) 0 (by omega) (by omega)]; exact a1
  · obtain ⟨k, b1, b2⟩ := a2
    exact ⟨k, by rw [fr 139 140 (by omega) (by omega) 139 (by omega) (by omega)]; exact b1, b2⟩
  · intro j hj
    unfold va_up
    by_cases e : j = q 5
    · subst e; rw [if_pos rfl]; exact hS
    · rw [if_neg e]
      have d1 := ad_d j hj (q 5) q5 e
      have d2 := ad_b j hj
      exact (a3 j hj).at (fr (ad j) (ad j + 69) (by omega) (by omega))
  · exact a4.at (fr 140 144 (by omega) (by omega))
  · unfold va_up; rw [if_pos rfl]
  · unfold va_up; rw [if_neg (ne 4 (by decide) (by decide))]; exact h6
  · intro k hk
    unfold va_up
    rw [if_neg (ne k (by omega) (by omega))]
    exact h7 k hk
end OS
