def KZ (K : Kn) : Prop := ∀ w, w < 8 → K.1 w = 0 → K.2.1 w = 0 ∧ K.2.2.1 w = 0
def IZ (S : St) : Prop := (∀ v, v < 6 → KZ (S.vk v)) ∧ ∀ M ∈ S.lt, KZ M.2.2.2.2
def GZ (S : St) : Prop := ∀ v, v < 6 → (∃ k, k < 256 ∧ (S.vk v).2.2.2 = nI k) ∧ ∀ w, w < 8 → 0 ≤ (S.vk v).1 w
/-! What is so in every state that calls can reach (G: how many orders were done at most). -/
def KV (G c : Nat) (R : Nat → Bool) (a : Nat → Nat) (K : Kn) : Prop := (∃ p, K.2.2.2 = obits p 8) ∧ ∀ w, w < 8 → ∃ x y z, K.1 w = nI x ∧ K.2.1 w = nI y ∧ K.2.2.1 w = nI z ∧ x ≤ G ∧ y ≤ a w ∧ z ≤ a w ∧ (x = 0 → y = 0 ∧ z = 0) ∧ (c ≤ w → x = 0) ∧ (gb K.2.2.2 w = true → x = 0 ∧ w < c ∧ R w = true)
def sA (R : Nat → Bool) (a : Nat → Nat) : Nat → Nat
  | 0 => 0
  | n + 1 => sA R a n + if R n = true then 0 else a n
def IV (G : Nat) (S : St) : Prop := ∃ a : Nat → Nat, (∀ v, v < 6 → KV G (S.ct 0) (rt S) a (S.vk v)) ∧ (∀ M ∈ S.lt, KV G (S.ct 0) (rt S) a M.2.2.2.2) ∧ (∀ w, w < 8 → a w ≤ 999 * G) ∧ sA (rt S) a (S.ct 0) ≤ 999 * G ∧ S.ct 0 ≤ 8
theorem sA_ext {R R' : Nat → Bool} {a a' : Nat → Nat} : ∀ n, (∀ i, i < n → R i = R' i ∧ a i = a' i) → sA R a n = sA R' a' n := by
  intro n
  induction n with
  | zero => intro _; rfl
  | succ n ih =>
    intro he
    unfold sA
    rw [ih (fun i hi => he i (by omega)), (he n (by omega)).1, (he n (by omega)).2]
theorem sA_up (R : Nat → Bool) (a : Nat → Nat) (w d : Nat) : ∀ n, sA R (va_up a w (a w + d)) n ≤ sA R a n + (if w < n then d else 0) := by
  intro n
  induction n with
  | zero => exact Nat.zero_le _
  | succ n ih =>
    unfold sA va_up
    unfold va_up at ih
    by_cases c : R n = true
    · rw [if_pos c, if_pos c]
      by_cases e : w < n
      · rw [if_pos e] at ih; rw [if_pos (by omega)]; omega
      · rw [if_neg e] at ih
        split <;> omega
    · rw [if_neg c, if_neg c]
      by_cases e : n = w
      · subst e
        rw [if_neg (Nat.lt_irrefl n)] at ih
        rw [if_pos rfl, if_pos (Nat.lt_succ_self n)]
        omega
      · rw [if_neg e]
        by_cases e2 : w < n
        · rw [if_pos e2] at ih; rw [if_pos (by omega)]; omega
        · rw [if_neg e2] at ih; rw [if_neg (by omega)]; omega
theorem sA_ret (R : Nat → Bool) (a : Nat → Nat) {w : Nat} (hR : R w = false) : ∀ n, sA (va_up R w true) a n + (if w < n then a w else 0) = sA R a n := by
  intro n
  induction n with
  | zero => rfl
  | succ n ih =>
    unfold sA va_up
    unfold va_up at ih
    by_cases e : n = w
    · subst e
      rw [if_neg (Nat.lt_irrefl n)] at ih
      rw [if_pos rfl, if_pos rfl, if_pos (Nat.lt_succ_self n), hR, if_neg Bool.false_ne_true]
      omega
    · rw [if_neg e]
      by_cases e2 : w < n
      · rw [if_pos e2] at ih; rw [if_pos (show w < n + 1 by omega)]; omega
      · rw [if_neg e2] at ih; rw [if_neg (show ¬ w < n + 1 by omega)]; omega
theorem sA_in {R : Nat → Bool} {a : Nat → Nat} {w : Nat} (hR : R w = false) : ∀ n, w < n → a w ≤ sA R a n := by
  intro n
  induction n with
  | zero => intro h; omega
  | succ n ih =>
    intro h
    unfold sA
    by_cases e : n = w
    · subst e; rw [hR]; simp
    · have := ih (by omega); omega
section KVS
variable {G c : Nat} {R R' : Nat → Bool} {a a' : Nat → Nat} {K O : Kn}
theorem KV.mono {G' c' : Nat} (h : KV G c R a K) (h1 : G ≤ G') (h2 : c ≤ c') (h3 : ∀ u, u < c → R u = true → R' u = true) (h4 : ∀ w, w < c → a w ≤ a' w) : KV G' c' R' a' K := by
  refine ⟨h.1, fun w hw => ?_⟩
  obtain ⟨x, y, z, e1, e2, e3, b1, b2, b3, b4, b5, b6⟩ := h.2 w hw
  by_cases q : w < c
  · have := h4 w q
    exact ⟨x, y, z, e1, e2, e3, by omega, by omega, by omega, b4, fun q => b5 (by omega), fun q => ⟨(b6 q).1, by have := (b6 q).2.1; omega, h3 w (b6 q).2.1 (b6 q).2.2⟩⟩
  · have x0 := b5 (by omega)
    obtain ⟨y0, z0⟩ := b4 x0
    exact ⟨x, y, z, e1, e2, e3, by omega, by omega, by omega, b4, fun _ => x0, fun q => ⟨(b6 q).1, by have := (b6 q).2.1; omega, h3 w (b6 q).2.1 (b6 q).2.2⟩⟩
theorem KV.kz (h : KV G c R a K) (hG : G ≤ 40000) : KZ K := by
  intro w hw e
  obtain ⟨x, y, z, e1, e2, e3, b1, b2, b3, b4, b5, b6⟩ := h.2 w hw
  have : x = 0 := by
    rw [e1] at e
    exact (nI_eq (show x < 2147483648 by omega) (show 0 < 2147483648 by decide)).mp e
  rw [e2, e3, (b4 this).1, (b4 this).2]
  exact ⟨rfl, rfl⟩
theorem gb_or (g k : Int32) {w : Nat} (hw : w < 32) : gb (g ||| k) w = (gb g w || gb k w) := by
  rw [gb_bt _ hw, gb_bt _ hw, gb_bt _ hw, b_or]
theorem obits_or (p q : Nat → Bool) {n : Nat} (hn : n ≤ 32) : obits p n ||| obits q n = obits (fun i => p i || q i) n := by
  refine b_ext (fun i _ => ?_)
  rw [b_or, bt_obits p n hn, bt_obits q n hn, bt_obits _ n hn]
  cases decide (i < n) <;> rfl
theorem KV.tk (h : KV G c R a K) (k : KV G c R a O) : KV G c R a (kTk K O) := by
  obtain ⟨⟨p, hp⟩, h⟩ := h
  obtain ⟨⟨q, hq⟩, k⟩ := k
  refine ⟨⟨fun i => p i || q i, ?_⟩, fun w hw => ?_⟩
  · show K.2.2.2 ||| O.2.2.2 = _
    rw [hp, hq, obits_or _ _ (by decide)]
  · obtain ⟨x, y, z, e1, e2, e3, b1, b2, b3, b4, b5, b6⟩ := h w hw
    obtain ⟨x', y', z', e1', e2', e3', b1', b2', b3', b4', b5', b6'⟩ := k w hw
    have hor := gb_or K.2.2.2 O.2.2.2 (show w < 32 by omega)
    show ∃ x y z, pick K O w (K.1 w) (O.1 w) = nI x ∧ pick K O w (K.2.1 w) (O.2.1 w) = nI y ∧ pick K O w (K.2.2.1 w) (O.2.2.1 w) = nI z ∧ _ ∧ _ ∧ _ ∧ _ ∧ _ ∧ (gb (K.2.2.2 ||| O.2.2.2) w = true → _)
    by_cases cg : gb (K.2.2.2 ||| O.2.2.2) w = true
    · refine ⟨0, 0, 0, pick_g cg, pick_g cg, pick_g cg, Nat.zero_le _, Nat.zero_le _, Nat.zero_le _, fun _ => ⟨rfl, rfl⟩, fun _ => rfl, fun _ => ⟨rfl, ?_⟩⟩
      rw [hor] at cg
      cases g1 : gb K.2.2.2 w with
      | true => exact (b6 g1).2
      | false =>
        rw [g1] at cg
        exact (b6' cg).2
    · by_cases cl : K.1 w < O.1 w
      · exact ⟨x', y', z', (pick_b cg cl).trans e1', (pick_b cg cl).trans e2', (pick_b cg cl).trans e3', b1', b2', b3', b4', b5', fun q => absurd q cg⟩
      · exact ⟨x, y, z, (pick_a cg cl).trans e1, (pick_a cg cl).trans e2, (pick_a cg cl).trans e3, b1, b2, b3, b4, b5, fun q => absurd q cg⟩
theorem KV.raise (h : KV G c R a K) {w i j d : Nat} (hw : w < c) (hR : R w = false) (hi : i ≤ d) (hj : j ≤ d) : KV (G + 1) c R (va_up a w (a w + d)) (kRaise K w (nI i) (nI j)) := by
  refine ⟨h.1, fun u hu => ?_⟩
  obtain ⟨x, y, z, e1, e2, e3, b1, b2, b3, b4, b5, b6⟩ := h.2 u hu
  show ∃ x y z, upd K.1 w (K.1 w + 1) u = nI x ∧ upd K.2.1 w (K.2.1 w + nI i) u = nI y ∧ upd K.2.2.1 w (K.2.2.1 w + nI j) u = nI z ∧ _ ∧ y ≤ va_up a w (a w + d) u ∧ z ≤ va_up a w (a w + d) u ∧ _ ∧ _ ∧ (gb K.2.2.2 u = true → _)
  unfold upd va_up
  by_cases e : u = w
  · subst e
    simp only [if_pos, e1, e2, e3, nI_add, nI_1]
    exact ⟨x + 1, y + i, z + j, rfl, rfl, rfl, by omega, by omega, by omega, fun q => by omega, fun q => by omega, fun q => by have := (b6 q).2.2; rw [hR] at this; cases this⟩
  · simp only [if_neg e]
    exact ⟨x, y, z, e1, e2, e3, by omega, b2, b3, b4, b5, b6⟩
theorem KV.beq (h : KV G c R a K) {w e : Nat} (hw8 : w < 8) (he8 : e < 8) (hw : w < c) (he : e < c) (hne : w ≠ e) (hR : ∀ u, u < c → R u = true → R' u = true) (h1 : R' w = true) (h2 : R' e = false) : KV (G + 1) c R' (va_up a e (a e + a w)) (kBeq K w e) := by
  obtain ⟨⟨p, hp⟩, h⟩ := h
  obtain ⟨xw, yw, zw, w1, w2, w3, v1, v2, v3, v4, v5, v6⟩ := h w hw8
  have hg : K.2.2.2 ||| ((1 : Int32) <<< (nI w &&& 31)) = obits (va_up p w true) 8 := by rw [hp]; exact obits_set p (by decide) hw8
  have hgb : ∀ u, u < 8 → gb (K.2.2.2 ||| ((1 : Int32) <<< (nI w &&& 31))) u = if u = w then true else gb K.2.2.2 u := by
    intro u hu
    rw [hg, gb_obits _ (by decide) hu, hp, gb_obits _ (by decide) hu]
    rfl
  refine ⟨⟨_, hg⟩, fun u hu => ?_⟩
  obtain ⟨x, y, z, e1, e2, e3, b1, b2, b3, b4, b5, b6⟩ := h u hu
  show ∃ x y z, upd (upd K.1 e (K.1 e + 1)) w 0 u = nI x ∧ upd (upd K.2.1 e (K.2.1 e + K.2.1 w)) w 0 u = nI y ∧ upd (upd K.2.2.1 e (K.2.2.1 e + K.2.2.1 w)) w 0 u = nI z ∧ _ ∧ y ≤ va_up a e (a e + a w) u ∧ z ≤ va_up a e (a e + a w) u ∧ _ ∧ _ ∧ (gb (K.2.2.2 ||| ((1 : Int32) <<< (nI w &&& 31))) u = true → _)
  rw [hgb u hu]
  unfold upd va_up
  by_cases q1 : u = w
  · subst q1
    simp only [if_pos]
    exact ⟨0, 0, 0, rfl, rfl, rfl, Nat.zero_le _, Nat.zero_le _, Nat.zero_le _, fun _ => ⟨rfl, rfl⟩, fun _ => rfl, fun _ => ⟨rfl, hw, h1⟩⟩
  · simp only [if_neg q1]
    by_cases q2 : u = e
    · subst q2
      simp only [if_pos, e1, e2, e3, w2, w3, nI_add, nI_1]
      refine ⟨x + 1, y + yw, z + zw, rfl, rfl, rfl, by omega, by omega, by omega, fun q => by omega, fun q => by omega, fun q => ?_⟩
      have := hR u he (b6 q).2.2
      rw [h2] at this; cases this
    · simp only [if_neg q2]
      exact ⟨x, y, z, e1, e2, e3, by omega, b2, b3, b4, b5, fun q => ⟨(b6 q).1, (b6 q).2.1, hR u (b6 q).2.1 (b6 q).2.2⟩⟩
theorem sm_nI {f : Nat → Int32} {B : Nat} : ∀ n, (∀ w, w < n → ∃ y, f w = nI y ∧ y ≤ B) → ∃ y, sm f n = nI y ∧ y ≤ n * B := by
  intro n
  induction n with
  | zero => intro _; exact ⟨0, rfl, Nat.zero_le _⟩
  | succ n ih =>
    intro he
    obtain ⟨y, h1, h2⟩ := ih (fun w hw => he w (by omega))
    obtain ⟨z, h3, h4⟩ := he n (by omega)
    refine ⟨y + z, ?_, ?_⟩
    · unfold sm; rw [h1, h3, nI_add]
    · rw [Nat.succ_mul]; omega
theorem isE_f {x : Int32} (h : -2000000001 < x.toInt) : isE x = false := by
  unfold isE
  apply decide_eq_false
  rintro ⟨-, q⟩
  rw [i_le] at q
  have e : (eI).toInt = -2000000001 := by decide
  omega
theorem isE_nI {n : Nat} (h : n < 2147483648) : isE (nI n) = false := isE_f (by rw [nI_toInt h]; omega)
theorem ne_sum (h : KV G c R a K) (ha : ∀ w, w < 8 → a w ≤ 999 * G) (hG : G ≤ 40000) : isE (kSum K) = false := by
  obtain ⟨y, h1, h2⟩ := sm_nI (f := K.2.1) (B := 999 * G) 8 (fun w hw => by
    obtain ⟨x, y, z, e1, e2, e3, b1, b2, b3, -⟩ := h.2 w hw
    exact ⟨y, e2, Nat.le_trans b2 (ha w hw)⟩)
  obtain ⟨z, h3, h4⟩ := sm_nI (f := K.2.2.1) (B := 999 * G) 8 (fun w hw => by
    obtain ⟨x, y, z, e1, e2, e3, b1, b2, b3, -⟩ := h.2 w hw
    exact ⟨z, e3, Nat.le_trans b3 (ha w hw)⟩)
  refine isE_f ?_
  unfold kSum
  rw [h1, h3, Int32.toInt_sub, nI_toInt (by omega), nI_toInt (by omega), Int.bmod_eq_of_le (by omega) (by omega)]
  omega
end KVS
theorem obits_256 (p : Nat → Bool) : ∃ k, k < 256 ∧ obits p 8 = nI k := by
  refine ⟨(obits p 8).toNatClampNeg, ?_⟩
  simp only [obits]
  generalize p 0 = b0
  generalize p 1 = b1
  generalize p 2 = b2
  generalize p 3 = b3
  generalize p 4 = b4
  generalize p 5 = b5
  generalize p 6 = b6
  generalize p 7 = b7
  revert b0 b1 b2 b3 b4 b5 b6 b7
  decide +kernel
section IVS
variable {G : Nat} {S : St}
theorem IV.mono {G' : Nat} (h : IV G S) (hG : G ≤ G') : IV G' S := by
  obtain ⟨a, h1, h2, h3, h4, h5⟩ := h
  exact ⟨a, fun v hv => (h1 v hv).mono hG (Nat.le_refl _) (fun _ _ q => q) (fun _ _ => Nat.le_refl _), fun M hM => (h2 M hM).mono hG (Nat.le_refl _) (fun _ _ q => q) (fun _ _ => Nat.le_refl _), fun w hw => by have := h3 w hw; omega, by omega, h5⟩
theorem IV.iz (h : IV G S) (hG : G ≤ 40000) : IZ S := by
  obtain ⟨a, h1, h2, -⟩ := h
  exact ⟨fun v hv => (h1 v hv).kz hG, fun M hM => (h2 M hM).kz hG⟩
theorem IV.gz (h : IV G S) (hG : G ≤ 40000) : GZ S := by
  obtain ⟨a, h1, h2, -⟩ := h
  intro v hv
  obtain ⟨⟨p, hp⟩, k⟩ := h1 v hv
  refine ⟨by rw [hp]; exact obits_256 p, fun w hw => ?_⟩
  obtain ⟨x, y, z, e1, e2, e3, b1, -⟩ := k w hw
  rw [e1]
  exact nI_pos' (by omega)
theorem IV.nw (h : IV G S) {v w : Nat} (hv : v < 6) (hw : w < 8) (hc : S.ct 0 ≤ w) : (S.vk v).1 w = 0 ∧ (S.vk v).2.1 w = 0 ∧ (S.vk v).2.2.1 w = 0 := by
  obtain ⟨a, h1, h2, -⟩ := h
  obtain ⟨x, y, z, e1, e2, e3, b1, b2, b3, b4, b5, -⟩ := (h1 v hv).2 w hw
  have x0 := b5 hc
  rw [e1, e2, e3, x0, (b4 x0).1, (b4 x0).2]
  exact ⟨rfl, rfl, rfl⟩
end IVS
