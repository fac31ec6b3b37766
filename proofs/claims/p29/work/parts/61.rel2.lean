/-! How retiring, views, merging, posting and ticks keep the relation. -/
section RXT
variable {G : Nat} {A : WA} {S : St} {u : Nat → Nat} {st po : Nat} {P : List Pt}
def rtA (A : WA) (v w i : Nat) : WA := ua (ua (ua (ua (ua (ua (ua (ua A 3 (8 * v + i) (A 3 (8 * v + i) + 1)) 4 (8 * v + i) (A 4 (8 * v + i) + A 4 (8 * v + w))) 5 (8 * v + i) (A 5 (8 * v + i) + A 5 (8 * v + w))) 3 (8 * v + w) 0) 4 (8 * v + w) 0) 5 (8 * v + w) 0) 2 v (A 2 v ||| ((1 : Int32) <<< (nI w &&& 31)))) 7 w (nI i)
theorem rtA_at (A : WA) (v w i : Nat) (k a : Nat) : rtA A v w i k a = if k = 7 ∧ a = w then nI i else if k = 2 ∧ a = v then A 2 v ||| ((1 : Int32) <<< (nI w &&& 31)) else if k = 5 ∧ a = 8 * v + w then 0 else if k = 4 ∧ a = 8 * v + w then 0 else if k = 3 ∧ a = 8 * v + w then 0 else if k = 5 ∧ a = 8 * v + i then A 5 (8 * v + i) + A 5 (8 * v + w) else if k = 4 ∧ a = 8 * v + i then A 4 (8 * v + i) + A 4 (8 * v + w) else if k = 3 ∧ a = 8 * v + i then A 3 (8 * v + i) + 1 else A k a := by
  unfold rtA
  rw [ua_i, ua_i, ua_i, ua_i, ua_i, ua_i, ua_i, ua_i]
theorem rx_retire (h : RX G A S u st po P) {v w i : Nat} (hv : v < 6) (hw : w < 8) (hi : i < 8) (hne : w ≠ i) : RX (G + 1) (rtA A v w i) (sVK (sHE S (va_up S.he w (nI i))) (va_up S.vk v (kBeq (S.vk v) w i))) u st po P := by
  obtain ⟨⟨c0, c2, c3, c4, c5, c6, c7⟩, hU, hT, hV, hW, hL, hP, b1, b2⟩ := h
  have e : ∀ k a, (k ≠ 7 ∧ k ≠ 2 ∧ k ≠ 3 ∧ k ≠ 4 ∧ k ≠ 5) → rtA A v w i k a = A k a := by
    intro k a hk
    rw [rtA_at, if_neg (by omega), if_neg (by omega), if_neg (by omega), if_neg (by omega), if_neg (by omega), if_neg (by omega), if_neg (by omega), if_neg (by omega)]
  refine ⟨?_, fun x hx => ?_, hT, fun x hx => ?_, fun x hx => ?_, hL.keep (fun k a hk => e k a (by omega)), hP, by omega, by omega⟩
  · unfold CX
    rw [e 0 _ (by decide), e 0 _ (by decide), e 0 _ (by decide), e 0 _ (by decide), e 0 _ (by decide), e 0 _ (by decide), e 0 _ (by decide)]
    exact ⟨c0, c2, c3, c4, c5, c6, c7⟩
  · rw [e 1 _ (by decide)]; exact hU x hx
  · obtain ⟨v1, v2⟩ := hV x hx
    by_cases d : x = v
    · subst d
      show _ = (va_up S.vk x (kBeq (S.vk x) w i) x).2.2.2 ∧ ∀ y, y < 8 → _ = (va_up S.vk x (kBeq (S.vk x) w i) x).1 y ∧ _ = (va_up S.vk x (kBeq (S.vk x) w i) x).2.1 y ∧ _ = (va_up S.vk x (kBeq (S.vk x) w i) x).2.2.1 y
      rw [up_eq]
      refine ⟨?_, fun y hy => ?_⟩
      · rw [rtA_at, if_neg (by omega), if_pos ⟨rfl, rfl⟩, v1]; rfl
      · obtain ⟨z1, z2, z3⟩ := v2 y hy
        obtain ⟨w1, w2, w3⟩ := v2 w hw
        show _ = upd (upd (S.vk x).1 i ((S.vk x).1 i + 1)) w 0 y ∧ _ = upd (upd (S.vk x).2.1 i ((S.vk x).2.1 i + (S.vk x).2.1 w)) w 0 y ∧ _ = upd (upd (S.vk x).2.2.1 i ((S.vk x).2.2.1 i + (S.vk x).2.2.1 w)) w 0 y
        unfold upd
        by_cases d1 : y = w
        · subst d1
          rw [if_pos rfl, if_pos rfl, if_pos rfl]
          refine ⟨?_, ?_, ?_⟩
          · rw [rtA_at, if_neg (by omega), if_neg (by omega), if_neg (by omega), if_neg (by omega), if_pos ⟨rfl, rfl⟩]
          · rw [rtA_at, if_neg (by omega), if_neg (by omega), if_neg (by omega), if_pos ⟨rfl, rfl⟩]
          · rw [rtA_at, if_neg (by omega), if_neg (by omega), if_pos ⟨rfl, rfl⟩]
        · rw [if_neg d1, if_neg d1, if_neg d1]
          by_cases d2 : y = i
          · subst d2
            rw [if_pos rfl, if_pos rfl, if_pos rfl, ← z1, ← z2, ← z3, ← w2, ← w3]
            refine ⟨?_, ?_, ?_⟩
            · rw [rtA_at, if_neg (by omega), if_neg (by omega), if_neg (by omega), if_neg (by omega), if_neg (by omega), if_neg (by omega), if_neg (by omega), if_pos ⟨rfl, rfl⟩]
            · rw [rtA_at, if_neg (by omega), if_neg (by omega), if_neg (by omega), if_neg (by omega), if_neg (by omega), if_neg (by omega), if_pos ⟨rfl, rfl⟩]
            · rw [rtA_at, if_neg (by omega), if_neg (by omega), if_neg (by omega), if_neg (by omega), if_neg (by omega), if_pos ⟨rfl, rfl⟩]
          · rw [if_neg d2, if_neg d2, if_neg d2, ← z1, ← z2, ← z3]
            refine ⟨?_, ?_, ?_⟩
            · rw [rtA_at, if_neg (by omega), if_neg (by omega), if_neg (by omega), if_neg (by omega), if_neg (by omega), if_neg (by omega), if_neg (by omega), if_neg (by omega)]
            · rw [rtA_at, if_neg (by omega), if_neg (by omega), if_neg (by omega), if_neg (by omega), if_neg (by omega), if_neg (by omega), if_neg (by omega), if_neg (by omega)]
            · rw [rtA_at, if_neg (by omega), if_neg (by omega), if_neg (by omega), if_neg (by omega), if_neg (by omega), if_neg (by omega), if_neg (by omega), if_neg (by omega)]
    · show _ = (va_up S.vk v (kBeq (S.vk v) w i) x).2.2.2 ∧ ∀ y, y < 8 → _ = (va_up S.vk v (kBeq (S.vk v) w i) x).1 y ∧ _ = (va_up S.vk v (kBeq (S.vk v) w i) x).2.1 y ∧ _ = (va_up S.vk v (kBeq (S.vk v) w i) x).2.2.1 y
      rw [up_ne _ d]
      have q : ∀ k a, k ≠ 7 → (k = 2 → a ≠ v) → (k ≠ 2 → a ≠ 8 * v + w ∧ a ≠ 8 * v + i) → rtA A v w i k a = A k a := by
        intro k a h7 h2 h3
        rw [rtA_at, if_neg (by omega), if_neg (by omega), if_neg (by omega), if_neg (by omega), if_neg (by omega), if_neg (by omega), if_neg (by omega), if_neg (by omega)]
      refine ⟨?_, fun y hy => ?_⟩
      · rw [q 2 x (by decide) (fun _ => d) (fun z => absurd rfl z)]; exact v1
      · rw [q 3 _ (by decide) (fun z => by omega) (fun _ => by omega), q 4 _ (by decide) (fun z => by omega) (fun _ => by omega), q 5 _ (by decide) (fun z => by omega) (fun _ => by omega)]
        exact v2 y hy
  · obtain ⟨z1, z2, z3⟩ := hW x hx
    show _ = _ ∧ _ = va_up S.he w (nI i) x ∧ (va_up S.he w (nI i) x = -1 ∨ ∃ j, j < 8 ∧ va_up S.he w (nI i) x = nI j)
    rw [e 6 _ (by decide)]
    by_cases d : x = w
    · subst d
      rw [up_eq, rtA_at, if_pos ⟨rfl, rfl⟩]
      exact ⟨z1, rfl, Or.inr ⟨i, hi, rfl⟩⟩
    · rw [up_ne _ d, rtA_at, if_neg (by omega), if_neg (by omega), if_neg (by omega), if_neg (by omega), if_neg (by omega), if_neg (by omega), if_neg (by omega), if_neg (by omega)]
      exact ⟨z1, z2, z3⟩
theorem rx_view (h : RX G A S u st po P) {v f : Nat} (hv : v < 6) (hf : f < 6) (hth : S.th f = false) : RX (G + 1) (mgA (ua (ua (ua A 0 6 (nI (st + 1))) 1 f (nI (st + 1))) 2 f (A 2 v)) (8 * f) 8 (S.vk v)) (sVK (sTH S (va_up S.th f true)) (va_up S.vk f (S.vk v))) (va_up u f (st + 1)) (st + 1) po P := by
  obtain ⟨⟨c0, c2, c3, c4, c5, c6, c7⟩, hU, hT, hV, hW, hL, hP, b1, b2⟩ := h
  have uf : u f = 0 := by
    have := hT f hf
    rw [hth] at this
    have := of_decide_eq_false this.symm
    omega
  have e : ∀ k a, (k ≠ 1 ∧ k ≠ 2 ∧ k ≠ 3 ∧ k ≠ 4 ∧ k ≠ 5 ∧ (k = 0 → a ≠ 6)) → mgA (ua (ua (ua A 0 6 (nI (st + 1))) 1 f (nI (st + 1))) 2 f (A 2 v)) (8 * f) 8 (S.vk v) k a = A k a := by
    intro k a hk
    rw [mgA_k ⟨hk.2.2.1, hk.2.2.2.1, hk.2.2.2.2.1⟩, ua_k hk.2.1, ua_k hk.1, ua_i, if_neg (fun q => hk.2.2.2.2.2 q.1 q.2)]
  refine ⟨?_, fun x hx => ?_, fun x hx => ?_, fun x hx => ?_, fun x hx => ?_, hL.keep (fun k a hk => e k a (by omega)), ⟨fun q hq => ?_, hP.2⟩, by omega, by omega⟩
  · unfold CX
    rw [e 0 0 (by omega), e 0 2 (by omega), e 0 3 (by omega), e 0 4 (by omega), e 0 5 (by omega), e 0 7 (by omega), mgA_k (by decide), ua_k (by decide), ua_k (by decide), ua_s]
    exact ⟨c0, c2, c3, c4, c5, rfl, c7⟩
  · obtain ⟨q1, q2⟩ := hU x hx
    rw [mgA_k (by decide), ua_k (by decide)]
    by_cases d : x = f
    · subst d; rw [ua_s, up_eq]; exact ⟨rfl, Nat.le_refl _⟩
    · rw [ua_j d, up_ne _ d, ua_k (by decide)]; exact ⟨q1, by omega⟩
  · show va_up S.th f true x = decide (0 < va_up u f (st + 1) x)
    by_cases d : x = f
    · subst d; rw [up_eq, up_eq]; simp
    · rw [up_ne _ d, up_ne _ d]; exact hT x hx
  · show _ = (va_up S.vk f (S.vk v) x).2.2.2 ∧ ∀ y, y < 8 → _ = (va_up S.vk f (S.vk v) x).1 y ∧ _ = (va_up S.vk f (S.vk v) x).2.1 y ∧ _ = (va_up S.vk f (S.vk v) x).2.2.1 y
    by_cases d : x = f
    · subst d
      rw [up_eq]
      refine ⟨?_, fun y hy => ⟨mgA_3 hy, mgA_4 hy, mgA_5 hy⟩⟩
      rw [mgA_k (by decide), ua_s]; exact (hV v hv).1
    · rw [up_ne _ d]
      obtain ⟨v1, v2⟩ := hV x hx
      refine ⟨?_, fun y hy => ?_⟩
      · rw [mgA_k (by decide), ua_j d, ua_k (by decide), ua_k (by decide)]; exact v1
      · rw [mgA_out (by omega), mgA_out (by omega), mgA_out (by omega), ua_k (by decide), ua_k (by decide), ua_k (by decide), ua_k (by decide), ua_k (by decide), ua_k (by decide), ua_k (by decide), ua_k (by decide), ua_k (by decide)]
        exact v2 y hy
  · rw [e 6 _ (by omega), e 7 _ (by omega)]; exact hW x hx
  · obtain ⟨p1, p2, p3, p4, p5, p6, p7, p8⟩ := hP.1 q hq
    refine ⟨p1, p2, p3, by omega, ?_, p6, p7, p8⟩
    rw [p5]
    by_cases d : q.2.2.2.1 = f
    · rw [d, up_eq, uf]
      apply decide_eq_decide.mpr
      omega
    · rw [up_ne _ d]
theorem rx_drop (h : RX G A S u st po P) {v : Nat} : RX (G + 1) (ua A 1 v 0) (sLT (sTH S (va_up S.th v false)) (S.lt.map (loseTo v))) (va_up u v 0) st po (P.map (fun q => (q.1, q.2.1, loseTo v q.2.2))) := by
  obtain ⟨⟨c0, c2, c3, c4, c5, c6, c7⟩, hU, hT, hV, hW, hL, hP, b1, b2⟩ := h
  have lt1 : ∀ L : Lt, (loseTo v L).1 = L.1 ∧ (loseTo v L).2.1 = L.2.1 ∧ (loseTo v L).2.2.1 = L.2.2.1 ∧ (loseTo v L).2.2.2.2 = L.2.2.2.2 ∧ (loseTo v L).2.2.2.1 = (decide (L.2.1 = v) || L.2.2.2.1) := by
    intro L
    unfold loseTo
    by_cases c : L.2.1 = v
    · rw [if_pos c]; simp [c]
    · rw [if_neg c]; simp [c]
  refine ⟨?_, fun x hx => ?_, fun x hx => ?_, fun x hx => ?_, fun x hx => ?_, ⟨?_, ?_, fun k q hk => ?_⟩, ⟨fun q hq => ?_, ?_, ?_⟩, by omega, by omega⟩
  · unfold CX
    rw [ua_k (by decide)]
    exact ⟨c0, c2, c3, c4, c5, c6, c7⟩
  · obtain ⟨q1, q2⟩ := hU x hx
    by_cases d : x = v
    · subst d; rw [ua_s, up_eq]; exact ⟨rfl, Nat.zero_le _⟩
    · rw [ua_j d, up_ne _ d]; exact ⟨q1, q2⟩
  · show va_up S.th v false x = decide (0 < va_up u v 0 x)
    by_cases d : x = v
    · subst d; rw [up_eq, up_eq]; rfl
    · rw [up_ne _ d, up_ne _ d]; exact hT x hx
  · rw [ua_k (by decide), ua_k (by decide), ua_k (by decide), ua_k (by decide)]; exact hV x hx
  · rw [ua_k (by decide), ua_k (by decide)]; exact hW x hx
  · rw [List.length_map]; exact hL.1
  · rw [List.length_map, ua_k (by decide)]; exact hL.2.1
  · rw [List.getElem?_map] at hk
    obtain ⟨p, hp, rfl⟩ := Option.map_eq_some_iff.mp hk
    obtain ⟨y0, y1, y2, y3, y4, y5, y6⟩ := hL.2.2 k p hp
    obtain ⟨t1, t2, t3, t4, t5⟩ := lt1 p.2.2
    rw [ua_k (by decide), ua_k (by decide), ua_k (by decide), ua_k (by decide)]
    show _ = nI (loseTo v p.2.2).1 ∧ _ = nI (loseTo v p.2.2).2.1 ∧ _ = nI p.1 ∧ _ = nI (loseTo v p.2.2).2.2.1 ∧ _ = nI p.2.1 ∧ _ = (loseTo v p.2.2).2.2.2.2.2.2.2 ∧ ∀ w, w < 8 → _ = (loseTo v p.2.2).2.2.2.2.1 w ∧ _ = (loseTo v p.2.2).2.2.2.2.2.1 w ∧ _ = (loseTo v p.2.2).2.2.2.2.2.2.1 w
    rw [t1, t2, t3, t4]
    exact ⟨y0, y1, y2, y3, y4, y5, y6⟩
  · obtain ⟨p, hp, rfl⟩ := List.mem_map.mp hq
    obtain ⟨p1, p2, p3, p4, p5, p6, p7, p8⟩ := hP.1 p hp
    obtain ⟨t1, t2, t3, t4, t5⟩ := lt1 p.2.2
    show (loseTo v p.2.2).1 < 6 ∧ (loseTo v p.2.2).2.1 < 6 ∧ 1 ≤ p.1 ∧ p.1 ≤ st ∧ (loseTo v p.2.2).2.2.2.1 = decide (¬ va_up u v 0 (loseTo v p.2.2).2.1 = p.1) ∧ S.ct 1 < (loseTo v p.2.2).2.2.1 ∧ (loseTo v p.2.2).2.2.1 ≤ S.ct 1 + 99 ∧ p.2.1 < po
    rw [t1, t2, t3, t5]
    refine ⟨p1, p2, p3, p4, ?_, p6, p7, p8⟩
    by_cases d : p.2.2.2.1 = v
    · rw [d, up_eq]
      have : ¬ 0 = p.1 := by omega
      simp [this]
    · rw [up_ne _ d, p5]
      simp [d]
  · rw [List.pairwise_map]; exact hP.2.1
  · show S.lt.map (loseTo v) = srt ((P.map (fun q => (q.1, q.2.1, loseTo v q.2.2))).map (fun q => q.2.2))
    rw [hP.2.2, srt_map (fun M => (lt1 M).2.2.1), List.map_map, List.map_map]
    rfl
theorem rx_merge (h : RX G A S u st po P) {v i : Nat} (hv : v < 6) (hi : i < 6) : RX (G + 1) (ua (mgA (ua A 2 v ((S.vk v).2.2.2 ||| (S.vk i).2.2.2)) (8 * v) 8 (kTk (S.vk v) (S.vk i))) 0 5 (S.ot + kCt (S.vk v) (S.vk i))) (sOT (sVK S (va_up S.vk v (kTk (S.vk v) (S.vk i)))) (S.ot + kCt (S.vk v) (S.vk i))) u st po P := by
  obtain ⟨⟨c0, c2, c3, c4, c5, c6, c7⟩, hU, hT, hV, hW, hL, hP, b1, b2⟩ := h
  have V2 := hV.merge (O := S.vk i) hv (S' := sOT (sVK S (va_up S.vk v (kTk (S.vk v) (S.vk i)))) (S.ot + kCt (S.vk v) (S.vk i))) rfl
  obtain ⟨N, hN⟩ : ∃ N, N = kTk (S.vk v) (S.vk i) := ⟨_, rfl⟩
  obtain ⟨X, hX⟩ : ∃ X, X = S.ot + kCt (S.vk v) (S.vk i) := ⟨_, rfl⟩
  rw [← hN, ← hX] at V2 ⊢
  have e : ∀ k a, (k ≠ 2 ∧ k ≠ 3 ∧ k ≠ 4 ∧ k ≠ 5 ∧ (k = 0 → a ≠ 5)) → ua (mgA (ua A 2 v ((S.vk v).2.2.2 ||| (S.vk i).2.2.2)) (8 * v) 8 N) 0 5 X k a = A k a := by
    intro k a hk
    rw [ua_i, if_neg (fun q => hk.2.2.2.2 q.1 q.2), mg_kp ⟨hk.1, hk.2.1, hk.2.2.1, hk.2.2.2.1⟩]
  refine ⟨?_, fun x hx => ?_, hT, fun x hx => ?_, fun x hx => ?_, hL.keep (fun k a hk => e k a (by omega)), hP, by omega, by omega⟩
  · unfold CX
    rw [e 0 _ (by omega), e 0 _ (by omega), e 0 _ (by omega), e 0 _ (by omega), e 0 6 (by omega), e 0 7 (by omega), ua_s]
    exact ⟨c0, c2, c3, c4, rfl, c6, c7⟩
  · rw [e 1 _ (by omega)]; exact hU x hx
  · rw [ua_k (by decide), ua_k (by decide), ua_k (by decide), ua_k (by decide)]
    exact V2 x hx
  · rw [e 6 _ (by omega), e 7 _ (by omega)]; exact hW x hx
/-- a letter's parts are copied -/
def ltA (A : WA) (t n : Nat) (N : Kn) : WA := fun k j => if t ≤ j ∧ j < t + n then (if k = 9 then N.1 (j - t) else if k = 10 then N.2.1 (j - t) else if k = 11 then N.2.2.1 (j - t) else A k j) else A k j
theorem ltA_out {t n : Nat} {N : Kn} {k j : Nat} (hj : j < t ∨ t + n ≤ j) : ltA A t n N k j = A k j := if_neg (by omega)
theorem ltA_k {t n : Nat} {N : Kn} {k j : Nat} (hk : k ≠ 9 ∧ k ≠ 10 ∧ k ≠ 11) : ltA A t n N k j = A k j := by
  unfold ltA
  rw [if_neg hk.1, if_neg hk.2.1, if_neg hk.2.2]
  split <;> rfl
theorem ltA_9 {t n : Nat} {N : Kn} {w : Nat} (hw : w < n) : ltA A t n N 9 (t + w) = N.1 w := by
  unfold ltA
  rw [if_pos (by omega), if_pos rfl, Nat.add_sub_cancel_left]
theorem ltA_10 {t n : Nat} {N : Kn} {w : Nat} (hw : w < n) : ltA A t n N 10 (t + w) = N.2.1 w := by
  unfold ltA
  rw [if_pos (by omega), if_neg (by decide), if_pos rfl, Nat.add_sub_cancel_left]
theorem ltA_11 {t n : Nat} {N : Kn} {w : Nat} (hw : w < n) : ltA A t n N 11 (t + w) = N.2.2.1 w := by
  unfold ltA
  rw [if_pos (by omega), if_neg (by decide), if_neg (by decide), if_pos rfl, Nat.add_sub_cancel_left]
theorem ltA_s {t n : Nat} {N : Kn} (k j : Nat) : ua (ua (ua (ltA A t n N) 9 (t + n) (N.1 n)) 10 (t + n) (N.2.1 n)) 11 (t + n) (N.2.2.1 n) k j = ltA A t (n + 1) N k j := by
  by_cases e : j = t + n
  · subst e
    by_cases c3 : k = 9
    · subst c3; rw [ua_k (by decide), ua_k (by decide), ua_s, ltA_9 (Nat.lt_succ_self n)]
    by_cases c4 : k = 10
    · subst c4; rw [ua_k (by decide), ua_s, ltA_10 (Nat.lt_succ_self n)]
    by_cases c5 : k = 11
    · subst c5; rw [ua_s, ltA_11 (Nat.lt_succ_self n)]
    rw [ua_k c5, ua_k c4, ua_k c3, ltA_k ⟨c3, c4, c5⟩, ltA_k ⟨c3, c4, c5⟩]
  · rw [ua_i, if_neg (fun q => e q.2), ua_i, if_neg (fun q => e q.2), ua_i, if_neg (fun q => e q.2)]
    unfold ltA
    by_cases c : t ≤ j ∧ j < t + n
    · rw [if_pos c, if_pos (show t ≤ j ∧ j < t + (n + 1) by omega)]
    · rw [if_neg c, if_neg (show ¬ (t ≤ j ∧ j < t + (n + 1)) by omega)]
def psA (A : WA) (n : Nat) (a0 a1 a2 a3 a4 a5 : Int32) : WA := ua (ua (ua (ua (ua (ua A 8 (6 * n) a0) 8 (6 * n + 1) a1) 8 (6 * n + 2) a2) 8 (6 * n + 3) a3) 8 (6 * n + 4) a4) 8 (6 * n + 5) a5
theorem psA_k {n : Nat} {a0 a1 a2 a3 a4 a5 : Int32} {k a : Nat} (hk : k ≠ 8 ∨ a < 6 * n) : psA A n a0 a1 a2 a3 a4 a5 k a = A k a := by
  unfold psA
  rw [ua_i, if_neg (by omega), ua_i, if_neg (by omega), ua_i, if_neg (by omega), ua_i, if_neg (by omega), ua_i, if_neg (by omega), ua_i, if_neg (by omega)]
theorem psA_8 {n : Nat} {a0 a1 a2 a3 a4 a5 : Int32} : psA A n a0 a1 a2 a3 a4 a5 8 (6 * n) = a0 ∧ psA A n a0 a1 a2 a3 a4 a5 8 (6 * n + 1) = a1 ∧ psA A n a0 a1 a2 a3 a4 a5 8 (6 * n + 2) = a2 ∧ psA A n a0 a1 a2 a3 a4 a5 8 (6 * n + 3) = a3 ∧ psA A n a0 a1 a2 a3 a4 a5 8 (6 * n + 4) = a4 ∧ psA A n a0 a1 a2 a3 a4 a5 8 (6 * n + 5) = a5 := by
  unfold psA
  refine ⟨?_, ?_, ?_, ?_, ?_, ua_s _ _ _ _⟩
  · rw [ua_j (by omega), ua_j (by omega), ua_j (by omega), ua_j (by omega), ua_j (by omega), ua_s]
  · rw [ua_j (by omega), ua_j (by omega), ua_j (by omega), ua_j (by omega), ua_s]
  · rw [ua_j (by omega), ua_j (by omega), ua_j (by omega), ua_s]
  · rw [ua_j (by omega), ua_j (by omega), ua_s]
  · rw [ua_j (by omega), ua_s]
def ptA (A : WA) (n v : Nat) (a0 a1 a2 a3 a4 a5 : Int32) (N : Kn) (po : Nat) : WA := ua (ua (ltA (psA A n a0 a1 a2 a3 a4 a5) (8 * n) 8 N) 0 1 (nI (n + 1))) 0 7 (nI (po + 1))
theorem rx_post (h : RX G A S u st po P) {v i t : Nat} (hv : v < 6) (hi : i < 6) (h8 : P.length < 8) (hu : 0 < u i) (ht1 : 1 ≤ t) (ht2 : t ≤ 99) : RX (G + 1) (ptA A P.length v (nI v) (nI i) (nI (u i)) (nI (S.ct 1 + t)) (nI po) (S.vk v).2.2.2 (S.vk v) po) (sLT S (insR (v, i, S.ct 1 + t, false, S.vk v) S.lt)) u st (po + 1) (P ++ [(u i, po, v, i, S.ct 1 + t, false, S.vk v)]) := by
  obtain ⟨⟨c0, c2, c3, c4, c5, c6, c7⟩, hU, hT, hV, hW, hL, hP, b1, b2⟩ := h
  obtain ⟨n, hn⟩ : ∃ n, n = P.length := ⟨_, rfl⟩
  rw [← hn] at h8 ⊢
  obtain ⟨B, hB⟩ : ∃ B, B = ptA A n v (nI v) (nI i) (nI (u i)) (nI (S.ct 1 + t)) (nI po) (S.vk v).2.2.2 (S.vk v) po := ⟨_, rfl⟩
  rw [← hB]
  have e : ∀ k a, (k = 0 → a ≠ 1 ∧ a ≠ 7) → (k = 8 → a < 6 * n) → (k = 9 ∨ k = 10 ∨ k = 11 → a < 8 * n) → B k a = A k a := by
    intro k a h0 h8' h9
    rw [hB]
    unfold ptA
    rw [ua_i, if_neg (fun q => (h0 q.1).2 q.2), ua_i, if_neg (fun q => (h0 q.1).1 q.2)]
    by_cases d : k = 9 ∨ k = 10 ∨ k = 11
    · rw [ltA_out (Or.inl (h9 d)), psA_k (by omega)]
    · rw [ltA_k (by omega), psA_k (by omega)]
  have e8 : ∀ c, c < 6 → B 8 (6 * n + c) = psA A n (nI v) (nI i) (nI (u i)) (nI (S.ct 1 + t)) (nI po) (S.vk v).2.2.2 8 (6 * n + c) := by
    intro c hc
    rw [hB]
    unfold ptA
    rw [ua_k (by decide), ua_k (by decide), ltA_k (by decide)]
  obtain ⟨s0, s1, s2, s3, s4, s5⟩ := psA_8 (A := A) (n := n) (a0 := nI v) (a1 := nI i) (a2 := nI (u i)) (a3 := nI (S.ct 1 + t)) (a4 := nI po) (a5 := (S.vk v).2.2.2)
  refine ⟨?_, fun x hx => ?_, hT, fun x hx => ?_, fun x hx => ?_, ⟨?_, ?_, fun k q hk => ?_⟩, ⟨fun q hq => ?_, ?_, ?_⟩, by omega, by omega⟩
  · unfold CX
    rw [e 0 0 (by omega) (by omega) (by omega), e 0 2 (by omega) (by omega) (by omega), e 0 3 (by omega) (by omega) (by omega), e 0 4 (by omega) (by omega) (by omega), e 0 5 (by omega) (by omega) (by omega), e 0 6 (by omega) (by omega) (by omega)]
    refine ⟨c0, c2, c3, c4, c5, c6, ?_⟩
    rw [hB]; unfold ptA; rw [ua_s]
  · rw [e 1 _ (by omega) (by omega) (by omega)]; exact hU x hx
  · rw [e 2 _ (by omega) (by omega) (by omega)]
    refine ⟨(hV x hx).1, fun y hy => ?_⟩
    rw [e 3 _ (by omega) (by omega) (by omega), e 4 _ (by omega) (by omega) (by omega), e 5 _ (by omega) (by omega) (by omega)]
    exact (hV x hx).2 y hy
  · rw [e 6 _ (by omega) (by omega) (by omega), e 7 _ (by omega) (by omega) (by omega)]; exact hW x hx
  · rw [List.length_append, ← hn]; exact h8
  · rw [List.length_append, ← hn, hB]; unfold ptA; rw [ua_j (by decide), ua_s]; rfl
  · by_cases d : k = n
    · rw [d, hn, List.getElem?_append_right (Nat.le_refl _), Nat.sub_self] at hk
      have hk' : q = (u i, po, v, i, S.ct 1 + t, false, S.vk v) := (Option.some.inj hk).symm
      subst hk'
      rw [d]
      refine ⟨(e8 0 (by decide)).trans s0, (e8 1 (by decide)).trans s1, (e8 2 (by decide)).trans s2, (e8 3 (by decide)).trans s3, (e8 4 (by decide)).trans s4, (e8 5 (by decide)).trans s5, fun w hw => ?_⟩
      have e9 : ∀ a, (a = 9 ∨ a = 10 ∨ a = 11) → B a (8 * n + w) = ltA (psA A n (nI v) (nI i) (nI (u i)) (nI (S.ct 1 + t)) (nI po) (S.vk v).2.2.2) (8 * n) 8 (S.vk v) a (8 * n + w) := by
        intro a ha
        rw [hB]; unfold ptA
        rw [ua_k (by omega), ua_k (by omega)]
      rw [e9 9 (by decide), e9 10 (by decide), e9 11 (by decide), ltA_9 hw, ltA_10 hw, ltA_11 hw]
      exact ⟨rfl, rfl, rfl⟩
    · have hkn : k < n := by
        have := (List.getElem?_eq_some_iff.mp hk).1
        rw [List.length_append, ← hn] at this
        have : k < n + 1 := this
        omega
      rw [List.getElem?_append_left (by omega)] at hk
      obtain ⟨y0, y1, y2, y3, y4, y5, y6⟩ := hL.2.2 k q hk
      rw [e 8 _ (by omega) (by omega) (by omega), e 8 _ (by omega) (by omega) (by omega), e 8 _ (by omega) (by omega) (by omega), e 8 _ (by omega) (by omega) (by omega), e 8 _ (by omega) (by omega) (by omega), e 8 _ (by omega) (by omega) (by omega)]
      refine ⟨y0, y1, y2, y3, y4, y5, fun w hw => ?_⟩
      rw [e 9 _ (by omega) (by omega) (by omega), e 10 _ (by omega) (by omega) (by omega), e 11 _ (by omega) (by omega) (by omega)]
      exact y6 w hw
  · rcases List.mem_append.mp hq with z | z
    · obtain ⟨p1, p2, p3, p4, p5, p6, p7, p8⟩ := hP.1 q z
      exact ⟨p1, p2, p3, p4, p5, p6, p7, by omega⟩
    · rw [List.mem_singleton.mp z]
      have ui := (hU i hi).2
      refine ⟨hv, hi, hu, ui, ?_, ?_, ?_, Nat.lt_succ_self po⟩
      · show false = decide (¬ u i = u i)
        simp
      · show S.ct 1 < S.ct 1 + t
        omega
      · show S.ct 1 + t ≤ S.ct 1 + 99
        omega
  · rw [List.pairwise_append]
    refine ⟨hP.2.1, List.pairwise_singleton .., fun a ha b hb => ?_⟩
    rw [List.mem_singleton.mp hb]
    exact (hP.1 a ha).2.2.2.2.2.2.2
  · show insR _ S.lt = srt (pL (P ++ [_]))
    rw [hP.2.2]
    unfold pL
    rw [List.map_append, List.map_singleton, srt_snoc]
theorem foldl_same (l : List Lt) : ∀ S : St, (l.foldl recv S).th = S.th ∧ (l.foldl recv S).ho = S.ho ∧ (l.foldl recv S).he = S.he ∧ (l.foldl recv S).ct 0 = S.ct 0 := by
  induction l with
  | nil => intro S; exact ⟨rfl, rfl, rfl, rfl⟩
  | cons M l ih =>
    intro S
    obtain ⟨a1, a2, a3, a4⟩ := ih (recv S M)
    rw [List.foldl_cons, a1, a2, a3, a4]
    unfold recv
    split
    · exact ⟨rfl, rfl, rfl, rfl⟩
    · exact ⟨rfl, rfl, rfl, rfl⟩
theorem fold_ct2 (l : List Lt) : ∀ S : St, (l.foldl recv S).ct 2 ≤ S.ct 2 + l.length := by
  induction l with
  | nil => intro S; exact Nat.le_refl _
  | cons M l ih =>
    intro S
    have a := ih (recv S M)
    have b : (recv S M).ct 2 ≤ S.ct 2 + 1 := by
      unfold recv
      split
      · exact Nat.le_succ _
      · exact Nat.le_refl _
    rw [List.foldl_cons, List.length_cons]
    omega
/-- the law's tick has done what ticks do -/
theorem rx_tick (h : RX G A S u st po P) {t : Nat} {h0 h1 : AHp} {rv : Option Value} (hT : S.ct 1 + t ≤ 1999) (q : TkQ A (sCT S (va_up S.ct 1 (S.ct 1 + t))) P (S.ct 1 + t) 0 h0 rv h1) : ∃ j, rv = some (.int (nI j)) ∧ Fr 423 435 h0 h1 ∧ j ≤ 8 ∧ nI (((due (S.ct 1 + t) S.lt).foldl recv (sCT S (va_up S.ct 1 (S.ct 1 + t)))).ct 2) - nI (S.ct 2) = nI j ∧ ∃ A', HW h1 A' ∧ RG (G + 1) A' (sLT ((due (S.ct 1 + t) S.lt).foldl recv (sCT S (va_up S.ct 1 (S.ct 1 + t)))) (S.lt.drop (due (S.ct 1 + t) S.lt).length)) := by
  obtain ⟨⟨c0, c2, c3, c4, c5, c6, c7⟩, hU, hTX, hV, hW, hL, hP, b1, b2⟩ := h
  obtain ⟨A', P', j, w1, w2, w3, w4, w5, w6, w7, w8, w9, w10, w11, w12, w13, w14⟩ := q
  rw [← hP.2.2] at w4 w6 w8 w9 w10 w12
  obtain ⟨D, hD⟩ : ∃ D, D = due (S.ct 1 + t) S.lt := ⟨_, rfl⟩
  rw [← hD] at w4 w6 w8 w9 w10 w12 ⊢
  have dl : D.length ≤ 8 := by
    have z1 : D.length ≤ S.lt.length := by rw [hD]; exact (List.takeWhile_sublist _).length_le
    have z2 : S.lt.length ≤ 8 := by rw [hP.2.2, srt_len, List.length_map]; exact hL.1
    omega
  have dc := fold_ct2 D (sCT S (va_up S.ct 1 (S.ct 1 + t)))
  obtain ⟨s1, s2, s3, s4⟩ := foldl_same D (sCT S (va_up S.ct 1 (S.ct 1 + t)))
  obtain ⟨s5, s6⟩ := fold_lt D (sCT S (va_up S.ct 1 (S.ct 1 + t)))
  obtain ⟨T, hT'⟩ : ∃ T, T = D.foldl recv (sCT S (va_up S.ct 1 (S.ct 1 + t))) := ⟨_, rfl⟩
  rw [← hT'] at w4 w6 w8 w9 w10 s1 s2 s3 s4 s5 s6 dc ⊢
  have dc' : T.ct 2 ≤ S.ct 2 + D.length := dc
  have w4' : T.ct 2 = S.ct 2 + j := w4
  have s4' : T.ct 0 = S.ct 0 := s4
  have s6' : T.ct 1 = S.ct 1 + t := s6
  refine ⟨j, by rw [w3, Nat.zero_add], w2, by omega, ?_, A', w1, u, st, po, P', ⟨?_, ?_, w8, w9, w10, ?_, ?_⟩, fun v hv => ?_, fun v hv => ?_, w6, fun w hw => ?_, w5, ⟨fun q hq => ?_, hP.2.1.sublist w13, w12.symm⟩, by omega, by omega⟩
  · rw [w4', pk_sub (Nat.le_add_right _ _), Nat.add_sub_cancel_left]
  · rw [w11 0 0 (by unfold kp; omega), c0]
    show _ = nI (T.ct 0)
    rw [s4']
  · rw [w7]
    show _ = nI (T.ct 1)
    rw [s6']
  · rw [w11 0 6 (by unfold kp; omega)]; exact c6
  · rw [w11 0 7 (by unfold kp; omega)]; exact c7
  · rw [w11 1 v (by unfold kp; omega)]; exact hU v hv
  · show T.th v = _
    rw [s1]; exact hTX v hv
  · have hw' : w < S.ct 0 := by rw [← s4']; exact hw
    rw [w11 6 w (by unfold kp; omega), w11 7 w (by unfold kp; omega)]
    show _ = nI (T.ho w) ∧ _ = T.he w ∧ (T.he w = -1 ∨ ∃ i, i < 8 ∧ T.he w = nI i)
    rw [s2, s3]
    exact hW w hw'
  · obtain ⟨p1, p2, p3, p4, p5, p6, p7, p8⟩ := hP.1 q (w13.subset hq)
    have := w14 q hq
    show _ ∧ _ ∧ _ ∧ _ ∧ _ ∧ T.ct 1 < _ ∧ _ ≤ T.ct 1 + 99 ∧ _
    rw [s6']
    exact ⟨p1, p2, p3, p4, p5, this, by omega, p8⟩
end RXT
