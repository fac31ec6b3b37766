/-! What is so in every state stays so, whatever is done. -/
section IVK
variable {G : Nat} {S : St}
theorem rt_up {w : Nat} {x : Int32} (u : Nat) : rt (sHE S (va_up S.he w x)) u = if u = w then !decide (x = -1) else rt S u := by
  show (!decide (va_up S.he w x u = -1)) = _
  unfold va_up
  by_cases e : u = w
  · rw [if_pos e, if_pos e]
  · rw [if_neg e, if_neg e]; rfl
theorem ix_lt {x : Int32} {n w : Nat} (h : ix x n = some w) : w < n := (ix_some h).1
theorem iv_writer (h : IV G S) (x : Int32) : IV (G + 1) (aWriter S x).2 := by
  unfold aWriter
  split
  · exact h.mono (Nat.le_succ G)
  · rename_i v hx
    split
    · exact h.mono (Nat.le_succ G)
    · split
      · exact h.mono (Nat.le_succ G)
      · rename_i c1 c2
        have c8 : S.ct 0 < 8 := Classical.not_not.mp c2
        obtain ⟨a, h1, h2, h3, h4, h5⟩ := h
        obtain ⟨R', hR'⟩ : ∃ R', R' = rt (sVK (sHE (sHO (sCT S (va_up S.ct 0 (S.ct 0 + 1))) (va_up S.ho (S.ct 0) v)) (va_up S.he (S.ct 0) (-1))) (va_up S.vk v (kRaise (S.vk v) (S.ct 0) 0 0))) := ⟨_, rfl⟩
        have hR : ∀ u, R' u = if u = S.ct 0 then false else rt S u := by
          intro u
          rw [hR']
          exact rt_up (S := sHO (sCT S (va_up S.ct 0 (S.ct 0 + 1))) (va_up S.ho (S.ct 0) v)) u
        have base : ∀ K, KV G (S.ct 0) (rt S) a K → KV (G + 1) (S.ct 0 + 1) R' (va_up a (S.ct 0) 0) K := fun K k =>
          k.mono (Nat.le_succ G) (Nat.le_succ _) (fun u hu q => by rw [hR, if_neg (by omega)]; exact q) (fun w hw => by unfold va_up; rw [if_neg (by omega)]; exact Nat.le_refl _)
        have base0 : ∀ K, KV G (S.ct 0) (rt S) a K → KV G (S.ct 0 + 1) R' (va_up a (S.ct 0) 0) K := fun K k =>
          k.mono (Nat.le_refl G) (Nat.le_succ _) (fun u hu q => by rw [hR, if_neg (by omega)]; exact q) (fun w hw => by unfold va_up; rw [if_neg (by omega)]; exact Nat.le_refl _)
        refine ⟨va_up a (S.ct 0) 0, fun u hu => ?_, fun M hM => ?_, fun w hw => ?_, ?_, ?_⟩
        · show KV (G + 1) (S.ct 0 + 1) _ _ (va_up S.vk v (kRaise (S.vk v) (S.ct 0) 0 0) u)
          rw [← hR']
          by_cases e : u = v
          · subst e
            unfold va_up
            rw [if_pos rfl]
            have := (base0 _ (h1 u hu)).raise (w := S.ct 0) (i := 0) (j := 0) (d := 0) (Nat.lt_succ_self _) (by rw [hR, if_pos rfl]) (Nat.le_refl 0) (Nat.le_refl 0)
            refine this.mono (Nat.le_refl _) (Nat.le_refl _) (fun _ _ q => q) (fun w _ => ?_)
            unfold va_up
            split <;> simp
          · have : va_up S.vk v (kRaise (S.vk v) (S.ct 0) 0 0) u = S.vk u := by unfold va_up; rw [if_neg e]
            rw [this]
            exact base _ (h1 u hu)
        · show KV (G + 1) (S.ct 0 + 1) _ _ _
          rw [← hR']
          exact base _ (h2 M hM)
        · have := h3 w hw
          unfold va_up
          split <;> omega
        · show sA _ _ (S.ct 0 + 1) ≤ _
          rw [← hR']
          unfold sA
          have e1 : sA R' (va_up a (S.ct 0) 0) (S.ct 0) = sA (rt S) a (S.ct 0) := sA_ext _ (fun i hi => ⟨by rw [hR, if_neg (by omega)], by unfold va_up; rw [if_neg (by omega)]⟩)
          rw [e1]
          have e2 : va_up a (S.ct 0) 0 (S.ct 0) = 0 := by unfold va_up; rw [if_pos rfl]
          rw [e2]
          split <;> omega
        · show S.ct 0 + 1 ≤ 8
          omega
theorem iv_raise (h : IV G S) {w i j : Nat} (hw : w < S.ct 0) (hR : rt S w = false) (hi : i ≤ 999) (hj : j ≤ 999) : IV (G + 1) (sVK S (va_up S.vk (S.ho w) (kRaise (S.vk (S.ho w)) w (nI i) (nI j)))) := by
  obtain ⟨a, h1, h2, h3, h4, h5⟩ := h
  have base : ∀ K, KV G (S.ct 0) (rt S) a K → KV (G + 1) (S.ct 0) (rt S) (va_up a w (a w + 999)) K := fun K k =>
    k.mono (Nat.le_succ G) (Nat.le_refl _) (fun u hu q => q) (fun u hu => by unfold va_up; split <;> (try subst_vars) <;> omega)
  refine ⟨va_up a w (a w + 999), fun u hu => ?_, fun M hM => base _ (h2 M hM), fun u hu => ?_, ?_, h5⟩
  · show KV (G + 1) (S.ct 0) (rt S) _ (va_up S.vk (S.ho w) (kRaise (S.vk (S.ho w)) w (nI i) (nI j)) u)
    by_cases e : u = S.ho w
    · subst e
      have : va_up S.vk (S.ho w) (kRaise (S.vk (S.ho w)) w (nI i) (nI j)) (S.ho w) = kRaise (S.vk (S.ho w)) w (nI i) (nI j) := by unfold va_up; rw [if_pos rfl]
      rw [this]
      exact (h1 _ hu).raise hw hR hi hj
    · have : va_up S.vk (S.ho w) (kRaise (S.vk (S.ho w)) w (nI i) (nI j)) u = S.vk u := by unfold va_up; rw [if_neg e]
      rw [this]
      exact base _ (h1 u hu)
  · have := h3 u hu
    have := h3 w (by omega)
    unfold va_up
    split <;> omega
  · show sA (rt S) _ (S.ct 0) ≤ _
    have := sA_up (rt S) a w 999 (S.ct 0)
    rw [if_pos hw] at this
    omega
theorem nI_9 {a : Int32} (h : (1 : Int32) ≤ a ∧ a ≤ 999) : ∃ i, i ≤ 999 ∧ 1 ≤ i ∧ a = nI i := by
  obtain ⟨q, h1, h2, h3, -⟩ := tk_nI (n := 999) (M := 999) rfl h
  exact ⟨q, h3, h2, h1⟩
theorem iv_add (h : IV G S) (x a : Int32) : IV (G + 1) (aAdd S x a).2 := by
  unfold aAdd
  split
  · exact h.mono (Nat.le_succ G)
  · rename_i w hx
    split
    · exact h.mono (Nat.le_succ G)
    · split
      · exact h.mono (Nat.le_succ G)
      · rename_i c1 c2
        obtain ⟨i, hi, -, rfl⟩ := nI_9 (Classical.not_not.mp c1)
        exact iv_raise h (j := 0) (ix_lt hx) (by simpa using c2) hi (by omega)
theorem iv_take (h : IV G S) (x a : Int32) : IV (G + 1) (aTake S x a).2 := by
  unfold aTake
  split
  · exact h.mono (Nat.le_succ G)
  · rename_i w hx
    split
    · exact h.mono (Nat.le_succ G)
    · split
      · exact h.mono (Nat.le_succ G)
      · rename_i c1 c2
        obtain ⟨i, hi, -, rfl⟩ := nI_9 (Classical.not_not.mp c1)
        exact iv_raise h (i := 0) (ix_lt hx) (by simpa using fun q => c2 (Or.inl q)) (by omega) hi
theorem iv_retire (h : IV G S) (x z : Int32) : IV (G + 1) (aRetire S x z).2 := by
  unfold aRetire
  split
  · rename_i w e hx hz
    split
    · exact h.mono (Nat.le_succ G)
    · split
      · exact h.mono (Nat.le_succ G)
      · rename_i c1 c2
        have hw := ix_lt hx
        have he := ix_lt hz
        have r1 : rt S w = false := by simpa using fun q => c2 (Or.inl q)
        have r2 : rt S e = false := by simpa using fun q => c2 (Or.inr (Or.inl q))
        obtain ⟨a, h1, h2, h3, h4, h5⟩ := h
        have hR : ∀ u, rt (sHE S (va_up S.he w (nI e))) u = va_up (rt S) w true u := by
          intro u
          rw [rt_up]
          unfold va_up
          by_cases q : u = w
          · rw [if_pos q, if_pos q]
            have : ¬ nI e = -1 := nI_m1 (by omega)
            simp [this]
          · rw [if_neg q, if_neg q]
        have hRf : rt (sHE S (va_up S.he w (nI e))) = va_up (rt S) w true := funext hR
        have keep : ∀ u, u < S.ct 0 → rt S u = true → va_up (rt S) w true u = true := by
          intro u _ q
          unfold va_up
          split
          · rfl
          · exact q
        have base : ∀ K, KV G (S.ct 0) (rt S) a K → KV (G + 1) (S.ct 0) (va_up (rt S) w true) (va_up a e (a e + a w)) K := fun K k =>
          k.mono (Nat.le_succ G) (Nat.le_refl _) keep (fun u hu => by unfold va_up; split <;> (try subst_vars) <;> omega)
        have rw1 : va_up (rt S) w true w = true := by unfold va_up; rw [if_pos rfl]
        have re1 : va_up (rt S) w true e = false := by unfold va_up; rw [if_neg (fun q => c1 q.symm)]; exact r2
        have hs : sA (va_up (rt S) w true) (va_up a e (a e + a w)) (S.ct 0) ≤ 999 * G := by
          have q1 := sA_up (va_up (rt S) w true) a e (a w) (S.ct 0)
          have q2 := sA_ret (rt S) a r1 (S.ct 0)
          rw [if_pos he] at q1
          rw [if_pos hw] at q2
          omega
        refine ⟨va_up a e (a e + a w), fun u hu => ?_, fun M hM => ?_, fun u hu => ?_, ?_, h5⟩
        · show KV (G + 1) (S.ct 0) (rt (sHE S (va_up S.he w (nI e)))) _ (va_up S.vk (S.ho w) (kBeq (S.vk (S.ho w)) w e) u)
          rw [hRf]
          by_cases q : u = S.ho w
          · subst q
            have : va_up S.vk (S.ho w) (kBeq (S.vk (S.ho w)) w e) (S.ho w) = kBeq (S.vk (S.ho w)) w e := by unfold va_up; rw [if_pos rfl]
            rw [this]
            exact (h1 _ hu).beq (by omega) (by omega) hw he c1 keep rw1 re1
          · have : va_up S.vk (S.ho w) (kBeq (S.vk (S.ho w)) w e) u = S.vk u := by unfold va_up; rw [if_neg q]
            rw [this]
            exact base _ (h1 u hu)
        · show KV (G + 1) (S.ct 0) (rt (sHE S (va_up S.he w (nI e)))) _ _
          rw [hRf]
          exact base _ (h2 M hM)
        · by_cases q : u = e
          · subst q
            have := sA_in re1 (a := va_up a u (a u + a w)) _ he
            omega
          · have : va_up a e (a e + a w) u = a u := by unfold va_up; rw [if_neg q]
            rw [this]
            have := h3 u hu
            omega
        · show sA (rt (sHE S (va_up S.he w (nI e)))) _ (S.ct 0) ≤ _
          rw [hRf]
          omega
  · exact h.mono (Nat.le_succ G)
theorem iv_move (h : IV G S) (x z : Int32) : IV (G + 1) (aMove S x z).2 := by
  unfold aMove
  split
  · split
    · exact h.mono (Nat.le_succ G)
    · split
      · exact h.mono (Nat.le_succ G)
      · exact h.mono (S := S) (Nat.le_succ G)
  · exact h.mono (Nat.le_succ G)
theorem iv_setK (h : IV G S) {v : Nat} {K : Kn} (hK : ∀ a, v < 6 → (∀ u, u < 6 → KV G (S.ct 0) (rt S) a (S.vk u)) → (∀ M ∈ S.lt, KV G (S.ct 0) (rt S) a M.2.2.2.2) → KV G (S.ct 0) (rt S) a K) : IV G (sVK S (va_up S.vk v K)) := by
  obtain ⟨a, h1, h2, h3, h4, h5⟩ := h
  refine ⟨a, fun u hu => ?_, h2, h3, h4, h5⟩
  show KV G (S.ct 0) (rt S) a (va_up S.vk v K u)
  unfold va_up
  split
  · rename_i q; subst q; exact hK a hu h1 h2
  · exact h1 u hu
theorem iv_view (h : IV G S) (x : Int32) : IV (G + 1) (aView S x).2 := by
  unfold aView
  split
  · exact h.mono (Nat.le_succ G)
  · rename_i v hx
    split
    · exact h.mono (Nat.le_succ G)
    · split
      · exact h.mono (Nat.le_succ G)
      · exact (iv_setK h (K := S.vk v) (fun a _ h1 _ => h1 v (ix_lt hx))).mono (Nat.le_succ G)
theorem iv_drop (h : IV G S) (x : Int32) : IV (G + 1) (aDrop S x).2 := by
  unfold aDrop
  split
  · exact h.mono (Nat.le_succ G)
  · rename_i v hx
    split
    · exact h.mono (Nat.le_succ G)
    · split
      · exact h.mono (Nat.le_succ G)
      · refine IV.mono (G := G) ?_ (Nat.le_succ G)
        obtain ⟨a, h1, h2, h3, h4, h5⟩ := h
        refine ⟨a, h1, fun M hM => ?_, h3, h4, h5⟩
        obtain ⟨L, hL, rfl⟩ := List.mem_map.mp (show M ∈ S.lt.map (loseTo v) from hM)
        have e : (loseTo v L).2.2.2.2 = L.2.2.2.2 := by unfold loseTo; split <;> rfl
        show KV G (S.ct 0) (rt S) a (loseTo v L).2.2.2.2
        rw [e]
        exact h2 L hL
theorem iv_merge (h : IV G S) (x z : Int32) : IV (G + 1) (aMerge S x z).2 := by
  unfold aMerge
  split
  · rename_i v u hx hz
    split
    · exact h.mono (Nat.le_succ G)
    · exact (iv_setK h (fun a _ h1 _ => (h1 v (ix_lt hx)).tk (h1 u (ix_lt hz)))).mono (Nat.le_succ G)
  · exact h.mono (Nat.le_succ G)
theorem iv_post (h : IV G S) (x z k : Int32) : IV (G + 1) (aPost S x z k).2 := by
  unfold aPost
  split
  · rename_i v u hx hz
    split
    · exact h.mono (Nat.le_succ G)
    · split
      · exact h.mono (Nat.le_succ G)
      · refine IV.mono (G := G) ?_ (Nat.le_succ G)
        obtain ⟨a, h1, h2, h3, h4, h5⟩ := h
        refine ⟨a, h1, fun M hM => ?_, h3, h4, h5⟩
        rcases insR_mem (show M ∈ insR _ S.lt from hM) with rfl | q
        · exact h1 v (ix_lt hx)
        · exact h2 M q
  · exact h.mono (Nat.le_succ G)
/-- what is so does not speak of time and counts, but of how many writers there are -/
theorem IV.ct (h : IV G S) {f : Nat → Nat} {x : Int32} (h0 : f 0 = S.ct 0) : IV G (sCT (sOT S x) f) := by
  obtain ⟨a, h1, h2, h3, h4, h5⟩ := h
  have e : (sCT (sOT S x) f).ct 0 = S.ct 0 := h0
  exact ⟨a, fun v hv => by rw [e]; exact h1 v hv, fun M hM => by rw [e]; exact h2 M hM, h3, by rw [e]; exact h4, by rw [e]; exact h5⟩
theorem iv_recv : ∀ (l : List Lt) (S : St), IV G S → (∀ M ∈ l, M ∈ S.lt) → IV G (l.foldl recv S) := by
  intro l
  induction l with
  | nil => intro S h _; exact h
  | cons M l ih =>
    intro S h hl
    refine ih (recv S M) ?_ (fun N hN => ?_)
    · unfold recv
      split
      · exact h.ct (x := S.ot) rfl
      · exact (iv_setK h (fun a q h1 h2 => (h1 _ q).tk (h2 M (hl M (List.mem_cons_self ..))))).ct rfl
    · rw [(recv_lt S M).1]
      exact hl N (List.mem_cons_of_mem _ hN)
theorem iv_tick (h : IV G S) (k : Int32) : IV (G + 1) (aTick S k).2 := by
  unfold aTick
  split
  · exact h.mono (Nat.le_succ G)
  · split
    · exact h.mono (Nat.le_succ G)
    · refine IV.mono (G := G) ?_ (Nat.le_succ G)
      have q := iv_recv (due (S.ct 1 + k.toNatClampNeg) S.lt) _ (h.ct (f := va_up S.ct 1 (S.ct 1 + k.toNatClampNeg)) (x := S.ot) rfl) (fun M hM => (List.takeWhile_sublist _).subset hM)
      obtain ⟨a, h1, h2, h3, h4, h5⟩ := q
      refine ⟨a, h1, fun M hM => h2 M ?_, h3, h4, h5⟩
      rw [(fold_lt _ _).1]
      exact (List.drop_sublist _ _).subset hM
end IVK
