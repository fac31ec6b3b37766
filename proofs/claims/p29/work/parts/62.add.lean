/-! The law's writers: adding and taking. -/
theorem dv8 {a : Nat} (h : a < 2147483648) : nI a / 8 = nI (a / 8) := pk_div (d := 8) (by omega) (by decide) (by decide)
theorem dv64 {a : Nat} (h : a < 2147483648) : nI a / 64 = nI (a / 64) := pk_div (d := 64) (by omega) (by decide) (by decide)
theorem rmN {a d : Nat} (h : a < 2147483648) (h0 : 0 < d) (hd : d < 2147483648) : nI a - nI a / nI d * nI d = nI (a % d) := pk_rem (by omega) h0 (by omega)
section LIS
variable {G : Nat} {h h' : AHp} {S : St} {H H' : List St} {tc : Nat → Int32} {A A' : WA} {r : Int32 × St}
theorem li_ref (hl : h.length = 435) (hI : IV G S) (hW : HW h A) (hR : RG G A S) (hs : r.2 = S) (hP : HP h' (sS S r) H' 0 tc) (f : Fr 0 423 h h') : LI (G + 1) h' := by
  rw [sS_same hs] at hP
  exact ⟨f.1.trans hl, S, H', tc, hP, hI.mono (Nat.le_succ G), A, hW.fr f (Or.inr (Nat.le_refl _)), hR.mono⟩
theorem li_ok (hl : h.length = 435) (hs : isE r.1 = false) (hI : IV (G + 1) r.2) (hW : HW h A) (hR : RG (G + 1) A r.2) (hP : HP h' (sS S r) H' 0 tc) (f : Fr 0 423 h h') : LI (G + 1) h' := by
  rw [sS_no hs] at hP
  exact ⟨f.1.trans hl, r.2, H', tc, hP, hI, A, hW.fr f (Or.inr (Nat.le_refl _)), hR⟩
theorem he_cases {w : Nat} (hX : WX A S) (hw : w < S.ct 0) : (rt S w = false ∧ A 7 w = -1 ∧ S.he w = -1) ∨ (rt S w = true ∧ ∃ i, i < 8 ∧ A 7 w = nI i ∧ S.he w = nI i) := by
  obtain ⟨-, e, c⟩ := hX w hw
  rcases c with c | ⟨i, hi, c⟩
  · exact Or.inl ⟨by unfold rt; rw [c]; rfl, e.trans c, c⟩
  · refine Or.inr ⟨?_, i, hi, e.trans c, c⟩
    unfold rt
    rw [c]
    have : ¬ nI i = -1 := nI_m1 (by omega)
    simp [this]
theorem he_ge {w : Nat} (hX : WX A S) (hw : w < S.ct 0) : (0 ≤ A 7 w) = (rt S w = true) := by
  apply propext
  rcases he_cases hX hw with ⟨a, b, -⟩ | ⟨a, i, hi, b, -⟩
  · rw [a, b]; exact ⟨fun q => absurd q (by decide), fun q => by cases q⟩
  · rw [a, b]; exact ⟨fun _ => rfl, fun _ => nI_pos' (by omega)⟩
theorem he_lt {w : Nat} (hX : WX A S) (hw : w < S.ct 0) : (A 7 w < 0) = (rt S w = false) := by
  apply propext
  rcases he_cases hX hw with ⟨a, b, -⟩ | ⟨a, i, hi, b, -⟩
  · rw [a, b]; exact ⟨fun _ => rfl, fun _ => by decide⟩
  · rw [a, b]; exact ⟨fun q => absurd q (nI_pos (by omega)), fun q => by cases q⟩
theorem am_ok {n : Nat} (h1 : 1 ≤ n) (h2 : n ≤ 999) : (1 : Int32) ≤ nI n ∧ nI n ≤ 999 := ⟨nI_le (a := 1) h1 (by omega), nI_le (b := 999) h2 (by decide)⟩
theorem Add_ref (S : St) {w am : Nat} (hw : w < S.ct 0) (h8 : S.ct 0 ≤ 8) (h1 : 1 ≤ am) (h2 : am ≤ 999) (c : rt S w = true) : aAdd S (nI w) (nI am) = (eN, S) := by
  unfold aAdd
  rw [ix_nI hw (by omega)]
  dsimp only
  rw [if_neg (fun q => q (am_ok h1 h2)), if_pos c]
theorem Add_ok (S : St) {w am : Nat} (hw : w < S.ct 0) (h8 : S.ct 0 ≤ 8) (h1 : 1 ≤ am) (h2 : am ≤ 999) (c : ¬ (rt S w = true)) : aAdd S (nI w) (nI am) = (kSum (kRaise (S.vk (S.ho w)) w (nI am) (0)), sVK S (va_up S.vk (S.ho w) (kRaise (S.vk (S.ho w)) w (nI am) (0)))) := by
  unfold aAdd
  rw [ix_nI hw (by omega)]
  dsimp only
  rw [if_neg (fun q => q (am_ok h1 h2)), if_neg c]
set_option maxHeartbeats 4000000 in
theorem c_wrAdd (hG : G + 1 ≤ 100) (hl : h.length = 435) (hP : HP h S H 0 tc) (hI : IV G S) (hW : HW h A) {u : Nat → Nat} {st po : Nat} {P : List Pt} (hR : RX G A S u st po P) {w am : Nat} {y i12 : Int32} {v15 v16 : Value} (hw : w < S.ct 0) (h1 : 1 ≤ am) (h2 : am ≤ 999) : Ev none 74 54 [.ref 0, .ref 423, .ref 424, .ref 425, .ref 426, .ref 427, .ref 428, .ref 429, .ref 430, .int 0, .int y, .int (nI w), .int i12, .int (nI (8 * S.ho w)), .int (nI am), v15, v16] [] h (fun rv h' => rv = some (.int 1) ∧ LI (G + 1) h') := by
  have hio := hP.is
  have h8 : S.ct 0 ≤ 8 := by
    obtain ⟨a, b, hS, -⟩ := hP.f
    exact hS.w.1
  have hv : S.ho w < 6 := by
    obtain ⟨a, b, hS, -⟩ := hP.f
    exact hS.w.2.1 w hw
  have w8 : w < 8 := by omega
  obtain ⟨ga, gk, -⟩ := id hI
  have l7 := hW.l7 w8
  have hge := he_ge hR.2.2.2.2.1 hw
  have refuse : (rt S w = true) → Ev none 74 90 [.ref 0, .ref 423, .ref 424, .ref 425, .ref 426, .ref 427, .ref 428, .ref 429, .ref 430, .int 0, .int y, .int (nI w), .int i12, .int (nI (8 * S.ho w)), .int (nI am), v15, v16] [] h (fun rv h' => rv = some (.int 1) ∧ LI (G + 1) h') := by
    intro c
    have e := Add_ref S hw h8 h1 h2 c
    simp only [s74_90, s74_92, not_true, if_false]
    simp only [s74_95, s74_96, s74_98, s74_100, hio]
    refine Call.mono (p_add hP (nI w) (nI am)) ?_
    rintro rv hh ⟨rfl, hP', f⟩
    rw [e]
    simp only [Option.toList_some, List.cons_append, List.nil_append, s74_103, s74_114, s74_116]
    rw [if_neg (fun q => q rfl)]
    simp only [s74_119, s74_120, s74_123, s74_124]
    exact ⟨Or.inr (by first | trivial | rfl), by first | trivial | rfl, li_ref hl hI hW ⟨u, st, po, P, hR⟩ (by rw [e]) hP' f⟩
  have go : ¬ (rt S w = true) → Ev none 74 125 [.ref 0, .ref 423, .ref 424, .ref 425, .ref 426, .ref 427, .ref 428, .ref 429, .ref 430, .int 0, .int y, .int (nI w), .int i12, .int (nI (8 * S.ho w)), .int (nI am), v15, v16] [] h (fun rv h' => rv = some (.int 1) ∧ LI (G + 1) h') := by
    intro c
    have e := Add_ok S hw h8 h1 h2 c
    have R2 := rx_raise hR hv w8 (nI am) (0)
    obtain ⟨h3, e3, W3, r3⟩ := hW.s3 (show 8 * S.ho w + w < 48 by omega) (A 3 (8 * S.ho w + w) + 1)
    obtain ⟨h4, e4, W4, r4⟩ := W3.s4 (show 8 * S.ho w + w < 48 by omega) (A 4 (8 * S.ho w + w) + (nI am))
    obtain ⟨h5, e5, W5, r5⟩ := W4.s5 (show 8 * S.ho w + w < 48 by omega) (A 5 (8 * S.ho w + w) + (0))
    have k3 := hW.l3 (show 8 * S.ho w + w < 48 by omega)
    have k4 := W3.l4 (show 8 * S.ho w + w < 48 by omega)
    have k5 := W4.l5 (show 8 * S.ho w + w < 48 by omega)
    rw [ua_k (by decide)] at k4
    rw [ua_k (by decide), ua_k (by decide)] at k5
    have rr := (r3.tr r4).tr r5
    have hP5 := hP.fr9 rr
    have hio5 := hP5.is
    have I2 : IV (G + 1) (aAdd S (nI w) (nI am)).2 := iv_add hI (nI w) (nI am)
    obtain ⟨a', k', -, a3', -⟩ := id I2
    have kv := k' (S.ho w) hv
    have ne : isE (aAdd S (nI w) (nI am)).1 = false := by
      rw [e] at kv ⊢
      have : (sVK S (va_up S.vk (S.ho w) (kRaise (S.vk (S.ho w)) w (nI am) (0)))).vk (S.ho w) = kRaise (S.vk (S.ho w)) w (nI am) (0) := up_eq _ _ _
      rw [this] at kv
      exact ne_sum kv a3' (by omega)
    simp only [s74_125, s74_127, s74_129, s74_131, s74_132, s74_133, s74_134, s74_135, s74_136, s74_137, s74_139, s74_141, s74_143, s74_144, s74_145, s74_146, s74_148, nI_add, k3, e3, k4, oB_some, not_true, if_false]
    simp only [s74_151, s74_153, s74_156, s74_157, s74_158, s74_159, s74_161, s74_163, s74_165, s74_166, s74_167, s74_168, s74_170, e4, oB_some, nI_add, k5, not_true, if_false]
    simp only [s74_173, s74_174, s74_177, s74_179, s74_180, s74_181, s74_183, e5, oB_some, not_true, if_false]
    simp only [s74_186, s74_187, s74_189, s74_191, hio5]
    refine Call.mono (p_add hP5 (nI w) (nI am)) ?_
    rintro rv hh ⟨rfl, hP', f⟩
    have W6 := W5.fr f (Or.inr (Nat.le_refl _))
    have es := sumK kv (show G + 1 ≤ 40000 by omega) (t := 8 * S.ho w) (fun x hx => by
      rw [e]
      exact (R2.2.2.2.1 (S.ho w) hv).2 x hx)
    simp only [Option.toList_some, List.cons_append, List.nil_append, s74_194, s74_205, s74_207, s74_209, s74_211, s74_213, c_sumT (W6 3 (by decide)) (W6 4 (by decide)) (W6 5 (by decide)) (show 8 * S.ho w + 8 ≤ 48 by omega) (by decide)]
    have e1 : (aAdd S (nI w) (nI am)).1 = sm (smT (ua (ua (ua A 3 (8 * S.ho w + w) (A 3 (8 * S.ho w + w) + 1)) 4 (8 * S.ho w + w) (A 4 (8 * S.ho w + w) + (nI am))) 5 (8 * S.ho w + w) (A 5 (8 * S.ho w + w) + (0)) 3) (ua (ua (ua A 3 (8 * S.ho w + w) (A 3 (8 * S.ho w + w) + 1)) 4 (8 * S.ho w + w) (A 4 (8 * S.ho w + w) + (nI am))) 5 (8 * S.ho w + w) (A 5 (8 * S.ho w + w) + (0)) 4) (ua (ua (ua A 3 (8 * S.ho w + w) (A 3 (8 * S.ho w + w) + 1)) 4 (8 * S.ho w + w) (A 4 (8 * S.ho w + w) + (nI am))) 5 (8 * S.ho w + w) (A 5 (8 * S.ho w + w) + (0)) 5) (8 * S.ho w)) 8 := by
      rw [es, e]
      exact congrArg kSum (up_eq _ _ _).symm
    rw [e1]
    simp only [s74_216]
    simp only [eq_self, not_true, if_false]
    simp only [s74_219, s74_220, s74_223, s74_224]
    exact ⟨Or.inr (by first | trivial | rfl), by first | trivial | rfl, li_ok (rr.1.trans hl) ne I2 W5 ⟨u, st, po, P, by rw [e]; exact R2⟩ hP' f⟩
  simp only [s74_54, s74_56, s74_57, if_neg (show ¬ (2 : Int32) ≤ 0 by decide)]
  simp only [s74_60, s74_62, s74_64, s74_65, l7, oB_some]
  by_cases c : 0 ≤ A 7 w
  · rw [if_pos c]
    rw [hge] at c
    exact refuse c
  · rw [if_neg c]
    rw [hge] at c
    simp only [s74_68, s74_70, s74_71]
    rw [if_pos (show ¬ (0 : Int32) = 1 by decide)]
    exact go c
theorem Take_ref (S : St) {w am : Nat} (hw : w < S.ct 0) (h8 : S.ct 0 ≤ 8) (h1 : 1 ≤ am) (h2 : am ≤ 999) (c : rt S w = true ∨ kSum (S.vk (S.ho w)) < nI am) : aTake S (nI w) (nI am) = (eN, S) := by
  unfold aTake
  rw [ix_nI hw (by omega)]
  dsimp only
  rw [if_neg (fun q => q (am_ok h1 h2)), if_pos c]
theorem Take_ok (S : St) {w am : Nat} (hw : w < S.ct 0) (h8 : S.ct 0 ≤ 8) (h1 : 1 ≤ am) (h2 : am ≤ 999) (c : ¬ (rt S w = true ∨ kSum (S.vk (S.ho w)) < nI am)) : aTake S (nI w) (nI am) = (kSum (kRaise (S.vk (S.ho w)) w (0) (nI am)), sVK S (va_up S.vk (S.ho w) (kRaise (S.vk (S.ho w)) w (0) (nI am)))) := by
  unfold aTake
  rw [ix_nI hw (by omega)]
  dsimp only
  rw [if_neg (fun q => q (am_ok h1 h2)), if_neg c]
set_option maxHeartbeats 4000000 in
theorem c_wrTake (hG : G + 1 ≤ 100) (hl : h.length = 435) (hP : HP h S H 0 tc) (hI : IV G S) (hW : HW h A) {u : Nat → Nat} {st po : Nat} {P : List Pt} (hR : RX G A S u st po P) {w am : Nat} {y i12 : Int32} {v15 v16 : Value} (hw : w < S.ct 0) (h1 : 1 ≤ am) (h2 : am ≤ 999) : Ev none 74 54 [.ref 0, .ref 423, .ref 424, .ref 425, .ref 426, .ref 427, .ref 428, .ref 429, .ref 430, .int 1, .int y, .int (nI w), .int i12, .int (nI (8 * S.ho w)), .int (nI am), v15, v16] [] h (fun rv h' => rv = some (.int 1) ∧ LI (G + 1) h') := by
  have hio := hP.is
  have h8 : S.ct 0 ≤ 8 := by
    obtain ⟨a, b, hS, -⟩ := hP.f
    exact hS.w.1
  have hv : S.ho w < 6 := by
    obtain ⟨a, b, hS, -⟩ := hP.f
    exact hS.w.2.1 w hw
  have w8 : w < 8 := by omega
  obtain ⟨ga, gk, -⟩ := id hI
  have l7 := hW.l7 w8
  have hge := he_ge hR.2.2.2.2.1 hw
  have refuse : (rt S w = true ∨ kSum (S.vk (S.ho w)) < nI am) → Ev none 74 90 [.ref 0, .ref 423, .ref 424, .ref 425, .ref 426, .ref 427, .ref 428, .ref 429, .ref 430, .int 1, .int y, .int (nI w), .int i12, .int (nI (8 * S.ho w)), .int (nI am), v15, v16] [] h (fun rv h' => rv = some (.int 1) ∧ LI (G + 1) h') := by
    intro c
    have e := Take_ref S hw h8 h1 h2 c
    simp only [s74_90, s74_92, if_pos (show ¬ (1 : Int32) = 0 by decide)]
    simp only [s74_106, s74_107, s74_109, s74_111, hio]
    refine Call.mono (p_take hP (nI w) (nI am)) ?_
    rintro rv hh ⟨rfl, hP', f⟩
    rw [e]
    simp only [Option.toList_some, List.cons_append, List.nil_append, s74_114, s74_116]
    rw [if_neg (fun q => q rfl)]
    simp only [s74_119, s74_120, s74_123, s74_124]
    exact ⟨Or.inr (by first | trivial | rfl), by first | trivial | rfl, li_ref hl hI hW ⟨u, st, po, P, hR⟩ (by rw [e]) hP' f⟩
  have go : ¬ (rt S w = true ∨ kSum (S.vk (S.ho w)) < nI am) → Ev none 74 125 [.ref 0, .ref 423, .ref 424, .ref 425, .ref 426, .ref 427, .ref 428, .ref 429, .ref 430, .int 1, .int y, .int (nI w), .int i12, .int (nI (8 * S.ho w)), .int (nI am), v15, v16] [] h (fun rv h' => rv = some (.int 1) ∧ LI (G + 1) h') := by
    intro c
    have e := Take_ok S hw h8 h1 h2 c
    have R2 := rx_raise hR hv w8 (0) (nI am)
    obtain ⟨h3, e3, W3, r3⟩ := hW.s3 (show 8 * S.ho w + w < 48 by omega) (A 3 (8 * S.ho w + w) + 1)
    obtain ⟨h4, e4, W4, r4⟩ := W3.s4 (show 8 * S.ho w + w < 48 by omega) (A 4 (8 * S.ho w + w) + (0))
    obtain ⟨h5, e5, W5, r5⟩ := W4.s5 (show 8 * S.ho w + w < 48 by omega) (A 5 (8 * S.ho w + w) + (nI am))
    have k3 := hW.l3 (show 8 * S.ho w + w < 48 by omega)
    have k4 := W3.l4 (show 8 * S.ho w + w < 48 by omega)
    have k5 := W4.l5 (show 8 * S.ho w + w < 48 by omega)
    rw [ua_k (by decide)] at k4
    rw [ua_k (by decide), ua_k (by decide)] at k5
    have rr := (r3.tr r4).tr r5
    have hP5 := hP.fr9 rr
    have hio5 := hP5.is
    have I2 : IV (G + 1) (aTake S (nI w) (nI am)).2 := iv_take hI (nI w) (nI am)
    obtain ⟨a', k', -, a3', -⟩ := id I2
    have kv := k' (S.ho w) hv
    have ne : isE (aTake S (nI w) (nI am)).1 = false := by
      rw [e] at kv ⊢
      have : (sVK S (va_up S.vk (S.ho w) (kRaise (S.vk (S.ho w)) w (0) (nI am)))).vk (S.ho w) = kRaise (S.vk (S.ho w)) w (0) (nI am) := up_eq _ _ _
      rw [this] at kv
      exact ne_sum kv a3' (by omega)
    simp only [s74_125, s74_127, s74_129, s74_131, s74_132, s74_133, s74_134, s74_135, s74_136, s74_137, s74_139, s74_141, s74_143, s74_144, s74_145, s74_146, s74_148, nI_add, k3, e3, k4, oB_some, if_pos (show ¬ (1 : Int32) = 0 by decide)]
    simp only [s74_156, s74_157, s74_158, s74_159, s74_161, s74_163, s74_165, s74_166, s74_167, s74_168, s74_170, e4, oB_some, nI_add, k5, if_pos (show ¬ (1 : Int32) = 0 by decide)]
    simp only [s74_177, s74_179, s74_180, s74_181, s74_183, e5, oB_some, if_pos (show ¬ (1 : Int32) = 0 by decide)]
    simp only [s74_197, s74_198, s74_200, s74_202, hio5]
    refine Call.mono (p_take hP5 (nI w) (nI am)) ?_
    rintro rv hh ⟨rfl, hP', f⟩
    have W6 := W5.fr f (Or.inr (Nat.le_refl _))
    have es := sumK kv (show G + 1 ≤ 40000 by omega) (t := 8 * S.ho w) (fun x hx => by
      rw [e]
      exact (R2.2.2.2.1 (S.ho w) hv).2 x hx)
    simp only [Option.toList_some, List.cons_append, List.nil_append, s74_205, s74_207, s74_209, s74_211, s74_213, c_sumT (W6 3 (by decide)) (W6 4 (by decide)) (W6 5 (by decide)) (show 8 * S.ho w + 8 ≤ 48 by omega) (by decide)]
    have e1 : (aTake S (nI w) (nI am)).1 = sm (smT (ua (ua (ua A 3 (8 * S.ho w + w) (A 3 (8 * S.ho w + w) + 1)) 4 (8 * S.ho w + w) (A 4 (8 * S.ho w + w) + (0))) 5 (8 * S.ho w + w) (A 5 (8 * S.ho w + w) + (nI am)) 3) (ua (ua (ua A 3 (8 * S.ho w + w) (A 3 (8 * S.ho w + w) + 1)) 4 (8 * S.ho w + w) (A 4 (8 * S.ho w + w) + (0))) 5 (8 * S.ho w + w) (A 5 (8 * S.ho w + w) + (nI am)) 4) (ua (ua (ua A 3 (8 * S.ho w + w) (A 3 (8 * S.ho w + w) + 1)) 4 (8 * S.ho w + w) (A 4 (8 * S.ho w + w) + (0))) 5 (8 * S.ho w + w) (A 5 (8 * S.ho w + w) + (nI am)) 5) (8 * S.ho w)) 8 := by
      rw [es, e]
      exact congrArg kSum (up_eq _ _ _).symm
    rw [e1]
    simp only [s74_216]
    simp only [eq_self, not_true, if_false]
    simp only [s74_219, s74_220, s74_223, s74_224]
    exact ⟨Or.inr (by first | trivial | rfl), by first | trivial | rfl, li_ok (rr.1.trans hl) ne I2 W5 ⟨u, st, po, P, by rw [e]; exact R2⟩ hP' f⟩
  simp only [s74_54, s74_56, s74_57, if_neg (show ¬ (2 : Int32) ≤ 1 by decide)]
  simp only [s74_60, s74_62, s74_64, s74_65, l7, oB_some]
  by_cases c : 0 ≤ A 7 w
  · rw [if_pos c]
    rw [hge] at c
    exact refuse (Or.inl c)
  · rw [if_neg c]
    rw [hge] at c
    simp only [s74_68, s74_70, s74_71]
    simp only [eq_self, not_true, if_false]
    have es := sumK (gk (S.ho w) hv) (show G ≤ 40000 by omega) (t := 8 * S.ho w) (fun x hx => (hR.2.2.2.1 (S.ho w) hv).2 x hx)
    simp only [s74_74, s74_76, s74_78, s74_80, s74_82, s74_85, s74_87, c_sumT (hW 3 (by decide)) (hW 4 (by decide)) (hW 5 (by decide)) (show 8 * S.ho w + 8 ≤ 48 by omega) (by decide), Option.toList_some, List.cons_append, List.nil_append, es]
    by_cases d : nI am ≤ kSum (S.vk (S.ho w))
    · rw [if_pos d]
      exact go (fun q => q.elim c (fun q => absurd q (Int32.not_lt.mpr d)))
    · rw [if_neg d]
      exact refuse (Or.inr (Int32.not_le.mp d))
end LIS
