/-! The law's cells and the class's state: the relation, and how changes keep it. -/
theorem up_ne {α : Type} (f : Nat → α) {i j : Nat} (h : j ≠ i) (x : α) : va_up f i x j = f j := by
  unfold va_up; rw [if_neg h]
theorem up_eq {α : Type} (f : Nat → α) (i : Nat) (x : α) : va_up f i x i = x := by
  unfold va_up; rw [if_pos rfl]
/-- below a cell nothing is changed -/
def Bl (n : Nat) (h h' : AHp) : Prop := ∀ j, j < n → h'[j]? = h[j]?
theorem Bl.tr {n : Nat} {h h1 h2 : AHp} (a : Bl n h h1) (b : Bl n h1 h2) : Bl n h h2 := fun j hj => (b j hj).trans (a j hj)
theorem Bl.fr {n lo hi : Nat} {h h1 : AHp} (a : Fr lo hi h h1) (hd : n ≤ lo) : Bl n h h1 := fun j hj => a.2 j (by omega)
theorem Bl.ap {n : Nat} {h : AHp} {e : AE} (hd : n ≤ h.length) : Bl n h (h ++ [e]) := fun j hj => List.getElem?_append_left (by omega)
theorem Bl.up {n m : Nat} {h h1 : AHp} (a : Bl n h h1) (hd : m ≤ n) : Bl m h h1 := fun j hj => a j (by omega)
theorem HP.bl {h h' : AHp} {S : St} {H : List St} {tn : Nat} {tc : Nat → Int32} (p : HP h S H tn tc) (b : Bl 423 h h') : HP h' S H tn tc := by
  obtain ⟨a, T, q, C, K, F, g, ⟨b1, b2, b3, b4, b5, b6, b7⟩, c⟩ := p
  refine ⟨a, T, q, C, K, F, g, ⟨b1.at (b _ (by omega)), b2.at (b _ (by omega)), fun j hj => (b3 j hj).at (fun i h1 h2 => b i ?_), b4.at (fun i h1 h2 => b i (by omega)), ⟨b5.1.at (b _ (by omega)), b5.2.1.at (b _ (by omega)), b5.2.2.at (b _ (by omega))⟩, b6, b7⟩, c⟩
  have := ad_b j hj
  omega
theorem sm_sub (f g : Nat → Int32) : ∀ n, sm (fun w => f w - g w) n = sm f n - sm g n := by
  intro n
  induction n with
  | zero => show (0 : Int32) = 0 - 0; decide
  | succ n ih =>
    show sm (fun w => f w - g w) n + (f n - g n) = (sm f n + f n) - (sm g n + g n)
    rw [ih]
    simp only [Int32.sub_eq_add_neg, Int32.neg_add]
    ac_rfl
theorem sm_ext {f g : Nat → Int32} : ∀ n, (∀ w, w < n → f w = g w) → sm f n = sm g n := by
  intro n
  induction n with
  | zero => intro _; rfl
  | succ n ih =>
    intro he
    show sm f n + f n = sm g n + g n
    rw [ih (fun w hw => he w (by omega)), he n (by omega)]
theorem KV.nil {G c : Nat} {R : Nat → Bool} {a : Nat → Nat} : KV G c R a kNil := by
  refine ⟨⟨fun _ => false, by simp [kNil, obits]⟩, fun w hw => ⟨0, 0, 0, rfl, rfl, rfl, Nat.zero_le _, Nat.zero_le _, Nat.zero_le _, fun _ => ⟨rfl, rfl⟩, fun _ => rfl, fun q => ?_⟩⟩
  have : gb (0 : Int32) w = false := by rw [gb_bt _ (by omega), b_zero]
  have q' : gb (0 : Int32) w = true := q
  rw [this] at q'; cases q'
theorem srt_map {f : Lt → Lt} (hf : ∀ M, (f M).2.2.1 = M.2.2.1) (l : List Lt) : (srt l).map f = srt (l.map f) := by
  have ins : ∀ (M : Lt) (l : List Lt), (insR M l).map f = insR (f M) (l.map f) := by
    intro M l
    induction l with
    | nil => rfl
    | cons x l ih =>
      rw [List.map_cons]
      unfold insR
      rw [hf, hf]
      by_cases c : x.2.2.1 ≤ M.2.2.1
      · rw [if_pos c, if_pos c, List.map_cons, ih]
      · rw [if_neg c, if_neg c]; rfl
  have key : ∀ (l E : List Lt), (l.foldl (fun acc x => insR x acc) E).map f = (l.map f).foldl (fun acc x => insR x acc) (E.map f) := by
    intro l
    induction l with
    | nil => intro E; rfl
    | cons x l ih =>
      intro E
      rw [List.foldl_cons, ih, List.map_cons, List.foldl_cons, ins]
  exact key l []

def CX (A : WA) (S : St) (st po : Nat) : Prop := A 0 0 = nI (S.ct 0) ∧ A 0 2 = nI (S.ct 1) ∧ A 0 3 = nI (S.ct 2) ∧ A 0 4 = nI (S.ct 3) ∧ A 0 5 = S.ot ∧ A 0 6 = nI st ∧ A 0 7 = nI po
def TX (S : St) (u : Nat → Nat) : Prop := ∀ v, v < 6 → S.th v = decide (0 < u v)
def WX (A : WA) (S : St) : Prop := ∀ w, w < S.ct 0 → A 6 w = nI (S.ho w) ∧ A 7 w = S.he w ∧ (S.he w = -1 ∨ ∃ i, i < 8 ∧ S.he w = nI i)
def PX (S : St) (u : Nat → Nat) (st po : Nat) (P : List Pt) : Prop := (∀ q ∈ P, q.2.2.1 < 6 ∧ q.2.2.2.1 < 6 ∧ 1 ≤ q.1 ∧ q.1 ≤ st ∧ q.2.2.2.2.2.1 = decide (¬ u q.2.2.2.1 = q.1) ∧ S.ct 1 < q.2.2.2.2.1 ∧ q.2.2.2.2.1 ≤ S.ct 1 + 99 ∧ q.2.1 < po) ∧ P.Pairwise (fun a c => a.2.1 < c.2.1) ∧ S.lt = srt (pL P)
def RX (G : Nat) (A : WA) (S : St) (u : Nat → Nat) (st po : Nat) (P : List Pt) : Prop := CX A S st po ∧ UX A u st ∧ TX S u ∧ VX A S ∧ WX A S ∧ LtP A P ∧ PX S u st po P ∧ st ≤ G + 2 ∧ po ≤ G
/-- the law's cells go with the class's state -/
def RG (G : Nat) (A : WA) (S : St) : Prop := ∃ u st po P, RX G A S u st po P
def LI (G : Nat) (h : AHp) : Prop := h.length = 435 ∧ ∃ (S : St) (H : List St) (tc : Nat → Int32), HP h S H 0 tc ∧ IV G S ∧ ∃ A, HW h A ∧ RG G A S
theorem sS_no {S : St} {r : Int32 × St} (h : isE r.1 = false) : sS S r = r.2 := by unfold sS; rw [h, if_neg Bool.false_ne_true]
theorem sS_same {S : St} {r : Int32 × St} (h : r.2 = S) : sS S r = S := by
  unfold sS
  split
  · rfl
  · exact h
theorem sS_iv {S : St} {G : Nat} {r : Int32 × St} (h : IV G S) (h2 : IV (G + 1) r.2) : IV (G + 1) (sS S r) := by
  unfold sS
  split
  · exact h.mono (Nat.le_succ G)
  · exact h2
theorem HP.fr9 {h h' : AHp} {S : St} {H : List St} {tn : Nat} {tc : Nat → Int32} (p : HP h S H tn tc) (r : Fr 423 435 h h') : HP h' S H tn tc := p.bl (Bl.fr r (Nat.le_refl _))
theorem RG.mono {G : Nat} {A : WA} {S : St} (h : RG G A S) : RG (G + 1) A S := by
  obtain ⟨u, st, po, P, a1, a2, a3, a4, a5, a6, a7, a8, a9⟩ := h
  exact ⟨u, st, po, P, a1, a2, a3, a4, a5, a6, a7, by omega, by omega⟩
/-- a sum over parts that are known is the sum over all -/
theorem sumK {G c : Nat} {R : Nat → Bool} {a : Nat → Nat} {K : Kn} (k : KV G c R a K) (hG : G ≤ 40000) {fa fb fc : Nat → Int32} {t : Nat} (hK : ∀ w, w < 8 → fa (t + w) = K.1 w ∧ fb (t + w) = K.2.1 w ∧ fc (t + w) = K.2.2.1 w) : sm (smT fa fb fc t) 8 = kSum K := by
  have e : kSum K = sm (fun w => K.2.1 w - K.2.2.1 w) 8 := (sm_sub _ _ 8).symm
  rw [e]
  refine sm_ext 8 (fun w hw => ?_)
  obtain ⟨q1, q2, q3⟩ := hK w hw
  obtain ⟨x, y, z, e1, e2, e3, b1, b2, b3, b4, b5, b6⟩ := k.2 w hw
  unfold smT
  rw [q1, q2, q3]
  by_cases d : 0 < K.1 w
  · rw [if_pos d]
  · rw [if_neg d]
    have x0 : x = 0 := by
      apply Classical.byContradiction
      intro q
      apply d
      rw [e1]
      exact nI_lt (a := 0) (by omega) (by omega)
    obtain ⟨y0, z0⟩ := b4 x0
    rw [e2, e3, y0, z0]
    decide
section RXS
variable {G : Nat} {A : WA} {S : St} {u : Nat → Nat} {st po : Nat} {P : List Pt}
theorem rx_raise (h : RX G A S u st po P) {v w : Nat} (hv : v < 6) (hw : w < 8) (i j : Int32) : RX (G + 1) (ua (ua (ua A 3 (8 * v + w) (A 3 (8 * v + w) + 1)) 4 (8 * v + w) (A 4 (8 * v + w) + i)) 5 (8 * v + w) (A 5 (8 * v + w) + j)) (sVK S (va_up S.vk v (kRaise (S.vk v) w i j))) u st po P := by
  obtain ⟨⟨c0, c2, c3, c4, c5, c6, c7⟩, hU, hT, hV, hW, hL, hP, b1, b2⟩ := h
  have e : ∀ k a, (k ≠ 3 ∧ k ≠ 4 ∧ k ≠ 5) → ua (ua (ua A 3 (8 * v + w) (A 3 (8 * v + w) + 1)) 4 (8 * v + w) (A 4 (8 * v + w) + i)) 5 (8 * v + w) (A 5 (8 * v + w) + j) k a = A k a := by
    intro k a hk
    rw [ua_k hk.2.2, ua_k hk.2.1, ua_k hk.1]
  refine ⟨?_, fun x hx => ?_, hT, fun x hx => ?_, fun x hx => ?_, hL.keep (fun k a hk => e k a (by omega)), hP, by omega, by omega⟩
  · unfold CX
    rw [e 0 _ (by decide), e 0 _ (by decide), e 0 _ (by decide), e 0 _ (by decide), e 0 _ (by decide), e 0 _ (by decide), e 0 _ (by decide)]
    exact ⟨c0, c2, c3, c4, c5, c6, c7⟩
  · rw [e 1 _ (by decide)]; exact hU x hx
  · obtain ⟨v1, v2⟩ := hV x hx
    refine ⟨?_, fun y hy => ?_⟩
    · rw [e 2 _ (by decide), v1]
      show _ = (va_up S.vk v _ x).2.2.2
      unfold va_up
      split
      · rename_i q; rw [q]; rfl
      · rfl
    · obtain ⟨z1, z2, z3⟩ := v2 y hy
      show _ = (va_up S.vk v (kRaise (S.vk v) w i j) x).1 y ∧ _ = (va_up S.vk v (kRaise (S.vk v) w i j) x).2.1 y ∧ _ = (va_up S.vk v (kRaise (S.vk v) w i j) x).2.2.1 y
      by_cases cx : x = v ∧ y = w
      · obtain ⟨rfl, rfl⟩ := cx
        rw [up_eq, ua_k (by decide), ua_k (by decide), ua_s, ua_k (by decide), ua_s, ua_s, z1, z2, z3]
        show _ = upd _ y _ y ∧ _ = upd _ y _ y ∧ _ = upd _ y _ y
        unfold upd
        rw [if_pos rfl, if_pos rfl, if_pos rfl]
        exact ⟨rfl, rfl, rfl⟩
      · have ne : 8 * x + y ≠ 8 * v + w := by omega
        rw [ua_i, if_neg (fun q => ne q.2), ua_i, if_neg (fun q => ne q.2), ua_i, if_neg (fun q => ne q.2), z1, ua_i, if_neg (fun q => ne q.2), ua_i, if_neg (fun q => ne q.2), ua_i, if_neg (fun q => ne q.2), z2, ua_i, if_neg (fun q => ne q.2), ua_i, if_neg (fun q => ne q.2), ua_i, if_neg (fun q => ne q.2), z3]
        by_cases d : x = v
        · subst d
          rw [up_eq]
          have nw : y ≠ w := fun q => cx ⟨rfl, q⟩
          show _ = upd _ w _ y ∧ _ = upd _ w _ y ∧ _ = upd _ w _ y
          unfold upd
          rw [if_neg nw, if_neg nw, if_neg nw]
          exact ⟨rfl, rfl, rfl⟩
        · rw [up_ne _ d]
          exact ⟨rfl, rfl, rfl⟩
  · rw [e 6 _ (by decide), e 7 _ (by decide)]; exact hW x hx
theorem rx_move (h : RX G A S u st po P) {v w : Nat} : RX (G + 1) (ua A 6 w (nI v)) (sHO S (va_up S.ho w v)) u st po P := by
  obtain ⟨⟨c0, c2, c3, c4, c5, c6, c7⟩, hU, hT, hV, hW, hL, hP, b1, b2⟩ := h
  refine ⟨?_, fun x hx => ?_, hT, fun x hx => ?_, fun x hx => ?_, hL.keep (fun k a hk => by rw [ua_k (by omega)]), hP, by omega, by omega⟩
  · unfold CX
    rw [ua_k (by decide)]
    exact ⟨c0, c2, c3, c4, c5, c6, c7⟩
  · rw [ua_k (by decide)]; exact hU x hx
  · rw [ua_k (by decide), ua_k (by decide), ua_k (by decide), ua_k (by decide)]; exact hV x hx
  · obtain ⟨z1, z2⟩ := hW x hx
    rw [ua_k (k' := 7) (by decide)]
    refine ⟨?_, z2⟩
    show _ = nI (va_up S.ho w v x)
    by_cases d : x = w
    · subst d; rw [ua_s, up_eq]
    · rw [ua_j d, up_ne _ d]; exact z1
theorem rx_writer (h : RX G A S u st po P) {v : Nat} (hv : v < 6) (h8 : S.ct 0 < 8) (hz : (S.vk v).1 (S.ct 0) = 0) :
    RX (G + 1) (ua (ua (ua (ua A 6 (S.ct 0) (nI v)) 7 (S.ct 0) (-1)) 3 (8 * v + S.ct 0) 1) 0 0 (nI (S.ct 0 + 1))) (sVK (sHE (sHO (sCT S (va_up S.ct 0 (S.ct 0 + 1))) (va_up S.ho (S.ct 0) v)) (va_up S.he (S.ct 0) (-1))) (va_up S.vk v (kRaise (S.vk v) (S.ct 0) 0 0))) u st po P := by
  obtain ⟨⟨c0, c2, c3, c4, c5, c6, c7⟩, hU, hT, hV, hW, hL, hP, b1, b2⟩ := h
  obtain ⟨c, hc⟩ : ∃ c, c = S.ct 0 := ⟨_, rfl⟩
  rw [← hc] at h8 hz ⊢
  have e : ∀ k a, (k ≠ 6 ∧ k ≠ 7 ∧ k ≠ 3 ∧ (k = 0 → a ≠ 0)) → ua (ua (ua (ua A 6 c (nI v)) 7 c (-1)) 3 (8 * v + c) 1) 0 0 (nI (c + 1)) k a = A k a := by
    intro k a hk
    rw [ua_i, if_neg (fun q => hk.2.2.2 q.1 q.2), ua_k hk.2.2.1, ua_k hk.2.1, ua_k hk.1]
  refine ⟨?_, fun x hx => ?_, hT, fun x hx => ?_, fun x hx => ?_, hL.keep (fun k a hk => e k a (by omega)), hP, by omega, by omega⟩
  · unfold CX
    rw [ua_s, e 0 _ (by decide), e 0 _ (by decide), e 0 _ (by decide), e 0 _ (by decide), e 0 _ (by decide), e 0 _ (by decide)]
    exact ⟨rfl, c2, c3, c4, c5, c6, c7⟩
  · rw [e 1 _ (by omega)]; exact hU x hx
  · obtain ⟨v1, v2⟩ := hV x hx
    refine ⟨?_, fun y hy => ?_⟩
    · rw [e 2 _ (by omega), v1]
      show _ = (va_up S.vk v _ x).2.2.2
      unfold va_up
      split
      · rename_i q; rw [q]; rfl
      · rfl
    · obtain ⟨z1, z2, z3⟩ := v2 y hy
      show _ = (va_up S.vk v (kRaise (S.vk v) c 0 0) x).1 y ∧ _ = (va_up S.vk v (kRaise (S.vk v) c 0 0) x).2.1 y ∧ _ = (va_up S.vk v (kRaise (S.vk v) c 0 0) x).2.2.1 y
      rw [e 4 _ (by omega), e 5 _ (by omega), ua_k (by decide), z2, z3]
      have k2 : (va_up S.vk v (kRaise (S.vk v) c 0 0) x).2.1 y = (S.vk x).2.1 y ∧ (va_up S.vk v (kRaise (S.vk v) c 0 0) x).2.2.1 y = (S.vk x).2.2.1 y := by
        by_cases d : x = v
        · subst d
          rw [up_eq]
          show upd _ c _ y = _ ∧ upd _ c _ y = _
          unfold upd
          by_cases d2 : y = c
          · rw [if_pos d2, if_pos d2, d2, Int32.add_zero, Int32.add_zero]; exact ⟨rfl, rfl⟩
          · rw [if_neg d2, if_neg d2]; exact ⟨rfl, rfl⟩
        · rw [up_ne _ d]; exact ⟨rfl, rfl⟩
      rw [k2.1, k2.2]
      refine ⟨?_, rfl, rfl⟩
      by_cases cx : x = v ∧ y = c
      · obtain ⟨rfl, rfl⟩ := cx
        rw [up_eq, ua_s]
        show _ = upd _ y _ y
        unfold upd
        rw [if_pos rfl, hz]
        decide
      · have ne : 8 * x + y ≠ 8 * v + c := by omega
        rw [ua_j ne, ua_k (by decide), ua_k (by decide), z1]
        by_cases d : x = v
        · subst d
          rw [up_eq]
          have nw : y ≠ c := fun q => cx ⟨rfl, q⟩
          show _ = upd _ c _ y
          unfold upd
          rw [if_neg nw]
        · rw [up_ne _ d]
  · have hx' : x < c + 1 := hx
    rw [ua_k (k' := 6) (by decide), ua_k (k' := 6) (by decide), ua_k (k' := 6) (by decide), ua_k (k' := 7) (by decide), ua_k (k' := 7) (by decide)]
    show _ = nI (va_up S.ho c v x) ∧ _ = va_up S.he c (-1) x ∧ (va_up S.he c (-1) x = -1 ∨ ∃ i, i < 8 ∧ va_up S.he c (-1) x = nI i)
    by_cases d : x = c
    · subst d
      rw [ua_s, ua_s, up_eq, up_eq]
      exact ⟨rfl, rfl, Or.inl rfl⟩
    · rw [ua_j d, ua_j d, up_ne _ d, up_ne _ d, ua_k (by decide)]
      exact hW x (by omega)
end RXS
