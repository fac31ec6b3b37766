/-! Class and model side by side: what one answers, the other answers. -/
def Inv (G : Nat) (h : AHp) : Prop := h.length = 430 ∧ ∃ S H tn tc, HP h S H tn tc ∧ Top G h S H tn tc
def Pair (z1 z2 : Nat) (as : List Value) (G : Nat) : Prop := ∀ h, Inv G h → Call z1 (.ref 0 :: as) h (fun rv h1 => ∃ x, rv = some (.int x) ∧ isO h1 423 5 ∧ Call z2 (.ref 423 :: as) h1 (fun rv2 h2 => rv2 = some (.int x) ∧ Inv (G + 61) h2))
theorem Inv.mono {G G' : Nat} {h : AHp} (i : Inv G h) (hG : G ≤ G') : Inv G' h := by
  obtain ⟨a, S, H, tn, tc, b, c⟩ := i
  exact ⟨a, S, H, tn, tc, b, c.mono hG⟩
theorem Inv.o {G : Nat} {h : AHp} (i : Inv G h) : isO h 0 4 ∧ isO h 423 5 := by
  obtain ⟨a, S, H, tn, tc, b, F, s, A, k, -⟩ := i
  exact ⟨b.is, k.1.is⟩
theorem toEq {z : Nat} {as : List Value} {h : AHp} {rv : Option Value} (e : ∀ post, Call z as h post = post rv h) : Call z as h (fun r g => r = rv ∧ g = h) := by
  rw [e]; exact ⟨rfl, rfl⟩
section PR
variable {S : St} {H : List St} {tn G : Nat} {tc : Nat → Int32} {z1 z2 : Nat} {as : List Value} {h : AHp}
/-- both do the same to what they hold -/
theorem pr_go {x : Int32} {S' : St} {H' : List St} {tn' : Nat} {tc' : Nat → Int32} (hl : h.length = 430) (p : Call z1 (.ref 0 :: as) h (fun rv h' => rv = some (.int x) ∧ HP h' S' H' tn' tc' ∧ Fr 0 423 h h'))
    (t : Top G h S H tn tc) (q : ∀ h1, Top G h1 S H tn tc → Call z2 (.ref 423 :: as) h1 (fun rv h' => rv = some (.int x) ∧ Top (G + 61) h' S' H' tn' tc' ∧ Fr 423 430 h1 h')) :
    Call z1 (.ref 0 :: as) h (fun rv h1 => ∃ x, rv = some (.int x) ∧ isO h1 423 5 ∧ Call z2 (.ref 423 :: as) h1 (fun rv2 h2 => rv2 = some (.int x) ∧ Inv (G + 61) h2)) := by
  refine Call.mono p ?_
  rintro rv h1 ⟨rfl, k1, r1⟩
  have t1 := t.fr r1 (Nat.le_refl _)
  refine ⟨x, rfl, ?_, Call.mono (q h1 t1) ?_⟩
  · obtain ⟨F, s, A, k, -⟩ := t1
    exact k.1.is
  · rintro rv h2 ⟨rfl, k2, r2⟩
    exact ⟨rfl, by rw [r2.1, r1.1, hl], S', H', tn', tc', k1.fr r2 (Nat.le_refl _), k2⟩
/-- an answer that the model finds without a change, but in what it tries -/
theorem Top.an {rv : Option Value} {h1 h' : AHp} {x : Int32} {F s : Nat → Int32} {A : Ar} (a2 : F 5 = 0) (a3 : TX F A tc tn) (a4 : HI G F A.1 H) (a5 : MXG G s S) (a6 : IV G S) (q : rv = some (.int x) ∧ (∃ t, HM h' F s (A.1, A.2.1, t, A.2.2.2)) ∧ Fr 423 430 h1 h') : rv = some (.int x) ∧ Top (G + 61) h' S H tn tc ∧ Fr 423 430 h1 h' := by
  obtain ⟨rfl, ⟨t, k⟩, r⟩ := q
  exact ⟨rfl, Top.mono ⟨F, s, (A.1, A.2.1, t, A.2.2.2), k, a2, a3, a4, a5, a6⟩ (Nat.le_add_right _ _), r⟩
theorem pr_writer (hG : G + 61 ≤ 40000) (x : Int32) : Pair 55 105 [.int x] G := by
  rintro h ⟨hl, S, H, tn, tc, p, t⟩
  refine pr_go hl (p_writer p x) t (fun h1 t1 => ?_)
  obtain ⟨F, s, A, k, a2, a3, a4, a5, a6⟩ := t1
  refine Call.mono (m_writer k a5 a6 a4.2.1 a4.1 x) (fun rv h2 mo => ?_)
  obtain ⟨b1, b2, b3⟩ := MO.top a2 a3 a4 a5 a6 (iv_writer a6 x) mo
  exact ⟨b1, b2.mono (by omega), b3⟩
theorem pr_add (hG : G + 61 ≤ 40000) (x y : Int32) : Pair 56 108 [.int x, .int y] G := by
  rintro h ⟨hl, S, H, tn, tc, p, t⟩
  refine pr_go hl (p_add p x y) t (fun h1 t1 => ?_)
  obtain ⟨F, s, A, k, a2, a3, a4, a5, a6⟩ := t1
  refine Call.mono (m_add k a5 a6 (by omega) a4.2.1 a4.1 x y) (fun rv h2 mo => ?_)
  obtain ⟨b1, b2, b3⟩ := MO.top a2 a3 a4 a5 a6 (iv_add a6 x y) mo
  exact ⟨b1, b2.mono (by omega), b3⟩
theorem pr_take (hG : G + 61 ≤ 40000) (x y : Int32) : Pair 57 109 [.int x, .int y] G := by
  rintro h ⟨hl, S, H, tn, tc, p, t⟩
  refine pr_go hl (p_take p x y) t (fun h1 t1 => ?_)
  obtain ⟨F, s, A, k, a2, a3, a4, a5, a6⟩ := t1
  refine Call.mono (m_take k a5 a6 (by omega) a4.2.1 a4.1 x y) (fun rv h2 mo => ?_)
  obtain ⟨b1, b2, b3⟩ := MO.top a2 a3 a4 a5 a6 (iv_take a6 x y) mo
  exact ⟨b1, b2.mono (by omega), b3⟩
theorem pr_retire (hG : G + 61 ≤ 40000) (x y : Int32) : Pair 58 110 [.int x, .int y] G := by
  rintro h ⟨hl, S, H, tn, tc, p, t⟩
  refine pr_go hl (p_retire p x y) t (fun h1 t1 => ?_)
  obtain ⟨F, s, A, k, a2, a3, a4, a5, a6⟩ := t1
  refine Call.mono (m_retire k a5 a4.2.1 a4.1 x y) (fun rv h2 mo => ?_)
  obtain ⟨b1, b2, b3⟩ := MO.top a2 a3 a4 a5 a6 (iv_retire a6 x y) mo
  exact ⟨b1, b2.mono (by omega), b3⟩
theorem pr_move (hG : G + 61 ≤ 40000) (x y : Int32) : Pair 59 111 [.int x, .int y] G := by
  rintro h ⟨hl, S, H, tn, tc, p, t⟩
  refine pr_go hl (p_move p x y) t (fun h1 t1 => ?_)
  obtain ⟨F, s, A, k, a2, a3, a4, a5, a6⟩ := t1
  refine Call.mono (m_move k a5 a4.2.1 a4.1 x y) (fun rv h2 mo => ?_)
  obtain ⟨b1, b2, b3⟩ := MO.top a2 a3 a4 a5 a6 (iv_move a6 x y) mo
  exact ⟨b1, b2.mono (by omega), b3⟩
theorem pr_view (hG : G + 61 ≤ 40000) (x : Int32) : Pair 60 113 [.int x] G := by
  rintro h ⟨hl, S, H, tn, tc, p, t⟩
  refine pr_go hl (p_view p x) t (fun h1 t1 => ?_)
  obtain ⟨F, s, A, k, a2, a3, a4, a5, a6⟩ := t1
  refine Call.mono (m_view k a5 (by omega) a4.2.1 a4.1 x) (fun rv h2 mo => ?_)
  obtain ⟨b1, b2, b3⟩ := MO.top a2 a3 a4 a5 a6 (iv_view a6 x) mo
  exact ⟨b1, b2.mono (by omega), b3⟩
theorem pr_drop (hG : G + 61 ≤ 40000) (x : Int32) : Pair 61 115 [.int x] G := by
  rintro h ⟨hl, S, H, tn, tc, p, t⟩
  refine pr_go hl (p_drop p x) t (fun h1 t1 => ?_)
  obtain ⟨F, s, A, k, a2, a3, a4, a5, a6⟩ := t1
  refine Call.mono (m_drop k a5 a4.2.1 a4.1 x) (fun rv h2 mo => ?_)
  obtain ⟨b1, b2, b3⟩ := MO.top a2 a3 a4 a5 a6 (iv_drop a6 x) mo
  exact ⟨b1, b2.mono (by omega), b3⟩
theorem pr_merge (hG : G + 61 ≤ 40000) (x y : Int32) : Pair 62 116 [.int x, .int y] G := by
  rintro h ⟨hl, S, H, tn, tc, p, t⟩
  refine pr_go hl (p_merge p x y) t (fun h1 t1 => ?_)
  obtain ⟨F, s, A, k, a2, a3, a4, a5, a6⟩ := t1
  refine Call.mono (m_merge k a5 a4.2.1 a4.1 x y) (fun rv h2 mo => ?_)
  obtain ⟨b1, b2, b3⟩ := MO.top a2 a3 a4 a5 a6 (iv_merge a6 x y) mo
  exact ⟨b1, b2.mono (by omega), b3⟩
theorem pr_post (hG : G + 61 ≤ 40000) (x y z : Int32) : Pair 63 118 [.int x, .int y, .int z] G := by
  rintro h ⟨hl, S, H, tn, tc, p, t⟩
  refine pr_go hl (p_post p x y z) t (fun h1 t1 => ?_)
  obtain ⟨F, s, A, k, a2, a3, a4, a5, a6⟩ := t1
  refine Call.mono (m_post k a5 (by omega) a4.2.1 a4.1 x y z) (fun rv h2 mo => ?_)
  obtain ⟨b1, b2, b3⟩ := MO.top a2 a3 a4 a5 a6 (iv_post a6 x y z) mo
  exact ⟨b1, b2.mono (by omega), b3⟩
theorem pr_tick (hG : G + 61 ≤ 40000) (x : Int32) : Pair 64 122 [.int x] G := by
  rintro h ⟨hl, S, H, tn, tc, p, t⟩
  refine pr_go hl (p_tick p x) t (fun h1 t1 => ?_)
  obtain ⟨F, s, A, k, a2, a3, a4, a5, a6⟩ := t1
  refine Call.mono (m_tick k a5 a4.2.1 a4.1 x) (fun rv h2 mo => ?_)
  obtain ⟨b1, b2, b3⟩ := MO.top a2 a3 a4 a5 a6 (iv_tick a6 x) mo
  exact ⟨b1, b2.mono (by omega), b3⟩
theorem pr_viewOf (hG : G + 61 ≤ 40000) (x y : Int32) : Pair 65 125 [.int x, .int y] G := by
  rintro h ⟨hl, S, H, tn, tc, p, t⟩
  refine pr_go hl (Call.mono (toEq (p_viewOf p x y)) (fun rv h2 q => by obtain ⟨rfl, rfl⟩ := q; exact ⟨rfl, p, Fr.rf⟩)) t (fun h1 t1 => ?_)
  have t10 := t1
  obtain ⟨F, s, A, k, a2, a3, a4, a5, a6⟩ := t1
  obtain ⟨td, came, posted, P, hX, hc1, hp1, ht⟩ := a5
  have hL := hX.1
  refine Call.mono (toEq (m_viewOf k hL (a6.gz (by omega)) (a6.iz (by omega)) x y)) (fun rv h2 q => ?_)
  obtain ⟨rfl, rfl⟩ := q
  exact ⟨rfl, t10.mono (by omega), Fr.rf⟩
theorem pr_partOf (hG : G + 61 ≤ 40000) (x y z : Int32) : Pair 66 126 [.int x, .int y, .int z] G := by
  rintro h ⟨hl, S, H, tn, tc, p, t⟩
  refine pr_go hl (Call.mono (toEq (p_partOf p x y z)) (fun rv h2 q => by obtain ⟨rfl, rfl⟩ := q; exact ⟨rfl, p, Fr.rf⟩)) t (fun h1 t1 => ?_)
  have t10 := t1
  obtain ⟨F, s, A, k, a2, a3, a4, a5, a6⟩ := t1
  obtain ⟨td, came, posted, P, hX, hc1, hp1, ht⟩ := a5
  have hL := hX.1
  refine Call.mono (toEq (m_partOf k hL (a6.gz (by omega)) x y z)) (fun rv h2 q => ?_)
  obtain ⟨rfl, rfl⟩ := q
  exact ⟨rfl, t10.mono (by omega), Fr.rf⟩
theorem pr_writerOf (hG : G + 61 ≤ 40000) (x y : Int32) : Pair 67 128 [.int x, .int y] G := by
  rintro h ⟨hl, S, H, tn, tc, p, t⟩
  refine pr_go hl (Call.mono (toEq (p_writerOf p x y)) (fun rv h2 q => by obtain ⟨rfl, rfl⟩ := q; exact ⟨rfl, p, Fr.rf⟩)) t (fun h1 t1 => ?_)
  have t10 := t1
  obtain ⟨F, s, A, k, a2, a3, a4, a5, a6⟩ := t1
  obtain ⟨td, came, posted, P, hX, hc1, hp1, ht⟩ := a5
  have hL := hX.1
  refine Call.mono (toEq (m_writerOf k hL x y)) (fun rv h2 q => ?_)
  obtain ⟨rfl, rfl⟩ := q
  exact ⟨rfl, t10.mono (by omega), Fr.rf⟩
theorem pr_letterOf (hG : G + 61 ≤ 40000) (x y : Int32) : Pair 68 130 [.int x, .int y] G := by
  rintro h ⟨hl, S, H, tn, tc, p, t⟩
  refine pr_go hl (Call.mono (toEq (p_letterOf p x y)) (fun rv h2 q => by obtain ⟨rfl, rfl⟩ := q; exact ⟨rfl, p, Fr.rf⟩)) t (fun h1 t1 => ?_)
  have t10 := t1
  obtain ⟨F, s, A, k, a2, a3, a4, a5, a6⟩ := t1
  obtain ⟨td, came, posted, P, hX, hc1, hp1, ht⟩ := a5
  have hL := hX.1
  refine Call.mono (toEq (m_letterOf k hX (a6.iz (by omega)) (by omega) x y)) (fun rv h2 q => ?_)
  obtain ⟨rfl, rfl⟩ := q
  exact ⟨rfl, t10.mono (by omega), Fr.rf⟩
theorem pr_seen (hG : G + 61 ≤ 40000) : Pair 71 135 [] G := by
  rintro h ⟨hl, S, H, tn, tc, p, t⟩
  refine pr_go hl (Call.mono (toEq (p_seen p)) (fun rv h2 q => by obtain ⟨rfl, rfl⟩ := q; exact ⟨rfl, p, Fr.rf⟩)) t (fun h1 t1 => ?_)
  have t10 := t1
  obtain ⟨F, s, A, k, a2, a3, a4, a5, a6⟩ := t1
  obtain ⟨td, came, posted, P, hX, hc1, hp1, ht⟩ := a5
  have hL := hX.1
  refine Call.mono (toEq (m_seen k hL a6 (by omega) p.th)) (fun rv h2 q => ?_)
  obtain ⟨rfl, rfl⟩ := q
  exact ⟨rfl, t10.mono (by omega), Fr.rf⟩
theorem pr_count (hG : G + 61 ≤ 40000) (x : Int32) : Pair 75 140 [.int x] G := by
  rintro h ⟨hl, S, H, tn, tc, p, t⟩
  refine pr_go hl (Call.mono (toEq (p_count p x)) (fun rv h2 q => by obtain ⟨rfl, rfl⟩ := q; exact ⟨rfl, p, Fr.rf⟩)) t (fun h1 t1 => ?_)
  have t10 := t1
  obtain ⟨F, s, A, k, a2, a3, a4, a5, a6⟩ := t1
  obtain ⟨td, came, posted, P, hX, hc1, hp1, ht⟩ := a5
  have hL := hX.1
  have hL2 : ML s S S.lt.length td := by
    have : S.lt.length = P.length := by rw [hX.2.2.2.2.2.2.2.2.2.2, srt_len, List.length_map]
    rw [this]; exact hL
  refine Call.mono (toEq (m_count k hL2 a4.1 a3.1 x)) (fun rv h2 q => ?_)
  obtain ⟨rfl, rfl⟩ := q
  exact ⟨rfl, t10.mono (by omega), Fr.rf⟩
theorem pr_lacks (hG : G + 61 ≤ 40000) (x y z : Int32) : Pair 69 132 [.int x, .int y, .int z] G := by
  rintro h ⟨hl, S, H, tn, tc, p, t⟩
  refine pr_go hl (p_lacks p x y z) t (fun h1 t1 => ?_)
  obtain ⟨F, s, A, k, a2, a3, a4, a5, a6⟩ := t1
  obtain ⟨td, came, posted, P, hX, hc1, hp1, ht⟩ := id a5
  have hL := hX.1
  exact Call.mono (m_lacks k hL a6 (by omega) x y z) (fun rv h2 q => Top.an a2 a3 a4 a5 a6 q)
theorem pr_whole (hG : G + 61 ≤ 40000) : Pair 70 134 [] G := by
  rintro h ⟨hl, S, H, tn, tc, p, t⟩
  refine pr_go hl (p_whole p) t (fun h1 t1 => ?_)
  obtain ⟨F, s, A, k, a2, a3, a4, a5, a6⟩ := t1
  obtain ⟨td, came, posted, P, hX, hc1, hp1, ht⟩ := id a5
  have hL := hX.1
  exact Call.mono (m_whole k hL a6 (by omega) p.th) (fun rv h2 q => Top.an a2 a3 a4 a5 a6 q)
theorem pr_rounds (hG : G + 61 ≤ 40000) : Pair 72 137 [] G := by
  rintro h ⟨hl, S, H, tn, tc, p, t⟩
  refine pr_go hl (p_rounds p) t (fun h1 t1 => ?_)
  obtain ⟨F, s, A, k, a2, a3, a4, a5, a6⟩ := t1
  obtain ⟨td, came, posted, P, hX, hc1, hp1, ht⟩ := id a5
  have hL := hX.1
  exact Call.mono (m_rounds k hL a6 (by omega) p.th) (fun rv h2 q => Top.an a2 a3 a4 a5 a6 q)
theorem pr_would (hG : G + 61 ≤ 40000) (x y : Int32) : Pair 73 138 [.int x, .int y] G := by
  rintro h ⟨hl, S, H, tn, tc, p, t⟩
  refine pr_go hl (p_would p x y) t (fun h1 t1 => ?_)
  obtain ⟨F, s, A, k, a2, a3, a4, a5, a6⟩ := t1
  obtain ⟨td, came, posted, P, hX, hc1, hp1, ht⟩ := id a5
  have hL := hX.1
  exact Call.mono (m_would k a5 a6 (by omega) x y) (fun rv h2 q => Top.an a2 a3 a4 a5 a6 q)
theorem pr_latest (hG : G + 61 ≤ 40000) (x : Int32) : Pair 74 139 [.int x] G := by
  rintro h ⟨hl, S, H, tn, tc, p, t⟩
  refine pr_go hl (p_latest p x) t (fun h1 t1 => ?_)
  obtain ⟨F, s, A, k, a2, a3, a4, a5, a6⟩ := t1
  obtain ⟨td, came, posted, P, hX, hc1, hp1, ht⟩ := id a5
  have hL := hX.1
  exact Call.mono (m_latest k hL a6 (by omega) x) (fun rv h2 q => Top.an a2 a3 a4 a5 a6 q)
theorem pr_fault (hG : G + 61 ≤ 40000) (x : Int32) : Pair 79 151 [.int x] G := by
  rintro h ⟨hl, S, H, tn, tc, p, t⟩
  refine pr_go hl (p_fault p x) t (fun h1 t1 => Call.mono (m_fault t1 hG x) (fun rv h2 q => ?_))
  exact ⟨q.1, q.2.1.mono (by omega), q.2.2⟩
theorem pr_play (hG : G + 61 ≤ 40000) : Pair 80 152 [] G := by
  rintro h ⟨hl, S, H, tn, tc, p, t⟩
  exact pr_go hl (p_play p) t (fun h1 t1 => m_play t1 hG)
theorem pr_type (hG : G + 61 ≤ 40000) (x : Int32) : Pair 77 142 [.int x] G := by
  rintro h ⟨hl, S, H, tn, tc, p, t⟩
  have hb := p.C.1
  refine pr_go hl (p_type p x) t (fun h1 t1 => ?_)
  obtain ⟨F, s, A, k, a2, a3, a4, a5, a6⟩ := t1
  refine Call.mono (m_type k a3.2.1 a3.1 x) ?_
  rintro rv h2 ⟨rfl, k2, r2⟩
  refine ⟨rfl, ?_, r2⟩
  by_cases c : (32 : Int32) ≤ x ∧ x ≤ 126
  · simp only [if_pos c] at k2 ⊢
    by_cases c6 : tn < 60
    · simp only [if_pos c6] at k2 ⊢
      refine ⟨_, s, _, k2, (u_ne (by decide)).trans a2, ⟨u_eq, by omega, fun i hi => ?_⟩, a4.mono (by omega) (u_ne (by decide)) rfl, a5.mono (by omega), a6.mono (by omega)⟩
      show upd A.2.2.2.1 tn x i = upd tc tn x i
      by_cases e : i = tn
      · subst e; rw [u_eq, u_eq]
      · rw [u_ne e, u_ne e]; exact a3.2.2 i (by omega)
    · simp only [if_neg c6] at k2 ⊢
      exact ⟨F, s, _, k2, a2, a3, a4.mono (by omega) rfl rfl, a5.mono (by omega), a6.mono (by omega)⟩
  · simp only [if_neg c] at k2 ⊢
    exact ⟨F, s, _, k2, a2, a3, a4.mono (by omega) rfl rfl, a5.mono (by omega), a6.mono (by omega)⟩
theorem pr_clearText (hG : G + 61 ≤ 40000) : Pair 78 143 [] G := by
  rintro h ⟨hl, S, H, tn, tc, p, t⟩
  refine pr_go hl (p_clearText p) t (fun h1 t1 => ?_)
  obtain ⟨F, s, A, k, a2, a3, a4, a5, a6⟩ := t1
  refine Call.mono (m_clearText k a3.1) ?_
  rintro rv h2 ⟨rfl, k2, r2⟩
  exact ⟨rfl, ⟨_, s, A, k2, (u_ne (by decide)).trans a2, ⟨u_eq, by omega, fun i hi => by omega⟩, a4.mono (by omega) (u_ne (by decide)) rfl, a5.mono (by omega), a6.mono (by omega)⟩, r2⟩
theorem pr_undo (hG : G + 61 ≤ 40000) : Pair 76 141 [] G := by
  rintro h ⟨hl, S, H, tn, tc, p, t⟩
  refine pr_go hl (c_undo p) t (fun h1 t1 => ?_)
  obtain ⟨F, s, A, k, a2, a3, a4, a5, a6⟩ := t1
  refine Call.mono (m_undo k a4.2.1 a4.1) ?_
  rintro rv h2 ⟨rfl, ⟨F', s', k2, fj, f4, c0, c1⟩, r2⟩
  have hT' : TX F' A tc tn := ⟨(fj 7 (by decide)).trans a3.1, a3.2⟩
  have hF5 : F' 5 = 0 := (fj 5 (by decide)).trans a2
  refine ⟨?_, ?_, r2⟩
  · unfold aUndo
    cases hl : H.getLast? with
    | none =>
      have : H = [] := List.getLast?_eq_none_iff.mp hl
      rw [this]; rfl
    | some T =>
      have : H ≠ [] := fun q => by rw [q] at hl; cases hl
      have : 0 < H.length := List.length_pos_iff.mpr this
      rw [if_neg (by omega)]
  · unfold aUndo
    cases hl : H.getLast? with
    | none =>
      have e : H = [] := List.getLast?_eq_none_iff.mp hl
      have hs : s' = s := c0 (by rw [e]; rfl)
      rw [hs] at k2
      have e4 : F' 4 = F 4 := by rw [f4, a4.1, e]; rfl
      exact ⟨F', s, A, k2, hF5, hT', a4.mono (by omega) e4 rfl, a5.mono (by omega), a6.mono (by omega)⟩
    | some T =>
      have hne : H ≠ [] := fun q => by rw [q] at hl; cases hl
      have hpos : 0 < H.length := List.length_pos_iff.mpr hne
      have hT : H[H.length - 1]? = some T := by rw [← List.getLast?_eq_getElem?]; exact hl
      obtain ⟨b1, b2⟩ := a4.2.2 _ T hT
      refine ⟨F', s', A, k2, hF5, hT', ⟨by rw [f4, List.length_dropLast], by rw [List.length_dropLast]; have := a4.2.1; omega, fun j U hj => ?_⟩, (b1.ext (c1 hpos)).mono (by omega), b2.mono (by omega)⟩
      have hj2 : j < H.dropLast.length := (List.getElem?_eq_some_iff.mp hj).1
      rw [List.length_dropLast] at hj2
      rw [List.dropLast_eq_take, List.getElem?_take_of_lt (by omega)] at hj
      obtain ⟨d1, d2⟩ := a4.2.2 j U hj
      exact ⟨d1.mono (by omega), d2.mono (by omega)⟩
end PR
