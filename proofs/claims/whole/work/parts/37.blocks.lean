/-! The model's blocks: sums, taking in, sameness. -/
section MB
variable {h h' : AHp} {F s : Nat → Int32} {A : Ar} {b c : Nat} {K O : Kn}
theorem sm_sub (f g : Nat → Int32) : ∀ n, sm (fun w => f w - g w) n = sm f n - sm g n := by
  intro n
  induction n with
  | zero => show (0 : Int32) = 0 - 0; decide
  | succ n ih =>
    show sm (fun w => f w - g w) n + (f n - g n) = (sm f n + f n) - (sm g n + g n)
    rw [ih]
    simp only [Int32.sub_eq_add_neg, Int32.neg_add]
    ac_rfl
theorem sm_ext {f g : Nat → Int32} : ∀ n, (∀ w, w < n → f w = g w) → sm f n = sm g n := by
  intro n
  induction n with
  | zero => intro _; rfl
  | succ n ih =>
    intro he
    show sm f n + f n = sm g n + g n
    rw [ih (fun w hw => he w (by omega)), he n (by omega)]
theorem m_sum0 (hM : HM h F s A) (hK : MK s b K) (hz : KZ K) (hb : b + 25 ≤ 420) : ∀ post, Call 98 [.ref 423, .int (nI b), .int 0] h post = post (some (.int (kSum K))) h := by
  refine call_eq ?_
  have loop : ∀ d w (v5 : Value), w + d = 8 → Ev none 98 5 [.ref 423, .int (nI b), .int 0, .int (sm (fun w => K.2.1 w - K.2.2.1 w) w), .int (nI w), v5] [] h (fun r g => r = some (.int (sm (fun w => K.2.1 w - K.2.2.1 w) 8)) ∧ g = h) := by
    intro d
    induction d with
    | zero =>
      intro w v5 hw
      obtain rfl : w = 8 := by omega
      simp only [s98_5, s98_7, s98_9, s98_78, s98_79, if_pos (show (8 : Int32) ≤ nI 8 by decide)]
      exact ⟨trivial, trivial⟩
    | succ d ih =>
      intro w v5 hw
      have hw8 : w < 8 := by omega
      obtain ⟨q1, q2, q3⟩ := hK.2 w hw8
      have e : sm (fun w => K.2.1 w - K.2.2.1 w) (w + 1) = sm (fun w => K.2.1 w - K.2.2.1 w) w + (K.2.1 w - K.2.2.1 w) := rfl
      have z := fun v => ih (w + 1) v (by omega)
      rw [e] at z
      simp only [s98_5, s98_7, s98_9, if_neg (le8 hw8)]
      simp only [s98_12, s98_13, s98_15, s98_18, s98_20, s98_21, s98_22, s98_25, s98_27, s98_28, m_part, Option.toList_some, List.cons_append, List.nil_append, hM.f, oB_some, hM.ls (show b + 1 + 3 * w < 420 by omega), q1]
      by_cases c0 : K.1 w = 0
      · rw [if_neg (fun q => q c0)]
        have e2 : K.2.1 w - K.2.2.1 w = 0 := by rw [(hz w hw8 c0).1, (hz w hw8 c0).2]; decide
        rw [e2] at z
        simp only [s98_31, s98_32, s98_70, s98_71, s98_72, s98_75, nI_1]
        exact z _
      · rw [if_pos c0]
        simp only [s98_35, s98_36]
        rw [if_neg (show ¬ ¬ True from fun q => q trivial)]
        simp only [s98_39, s98_40, s98_43, s98_45, s98_46, s98_47, s98_48, s98_49, s98_52, s98_54, s98_55, s98_56, s98_57, s98_58, s98_61, s98_62, s98_65, s98_67, s98_68, s98_69, s98_70, s98_71, s98_72, s98_75, hM.f, oB_some, (show (1 : Int32) = nI 1 from rfl), (show (2 : Int32) = nI 2 from rfl), nI_add, hM.ls (show b + 1 + 3 * w + 1 < 420 by omega), hM.ls (show b + 1 + 3 * w + 2 < 420 by omega), q2, q3]
        exact z _
  simp only [s98_0, s98_1, s98_2, s98_3, s98_e]
  have e : kSum K = sm (fun w => K.2.1 w - K.2.2.1 w) 8 := (sm_sub _ _ 8).symm
  rw [e]
  exact loop 8 0 _ rfl
theorem m_sum1 (hM : HM h F s A) (hK : MK s b K) (hz : KZ K) (hb : b + 25 ≤ 420) : ∀ post, Call 98 [.ref 423, .int (nI b), .int 1] h post = post (some (.int (sm K.2.1 8))) h := by
  refine call_eq ?_
  have loop : ∀ d w (v5 : Value), w + d = 8 → Ev none 98 5 [.ref 423, .int (nI b), .int 1, .int (sm K.2.1 w), .int (nI w), v5] [] h (fun r g => r = some (.int (sm K.2.1 8)) ∧ g = h) := by
    intro d
    induction d with
    | zero =>
      intro w v5 hw
      obtain rfl : w = 8 := by omega
      simp only [s98_5, s98_7, s98_9, s98_78, s98_79, if_pos (show (8 : Int32) ≤ nI 8 by decide)]
      exact ⟨trivial, trivial⟩
    | succ d ih =>
      intro w v5 hw
      have hw8 : w < 8 := by omega
      obtain ⟨q1, q2, q3⟩ := hK.2 w hw8
      have e : sm K.2.1 (w + 1) = sm K.2.1 w + (K.2.1 w) := rfl
      have z := fun v => ih (w + 1) v (by omega)
      rw [e] at z
      simp only [s98_5, s98_7, s98_9, if_neg (le8 hw8)]
      simp only [s98_12, s98_13, s98_15, s98_18, s98_20, s98_21, s98_22, s98_25, s98_27, s98_28, m_part, Option.toList_some, List.cons_append, List.nil_append, hM.f, oB_some, hM.ls (show b + 1 + 3 * w < 420 by omega), q1]
      by_cases c0 : K.1 w = 0
      · rw [if_neg (fun q => q c0)]
        have e2 : K.2.1 w = 0 := (hz w hw8 c0).1
        rw [e2] at z
        simp only [s98_31, s98_32, s98_70, s98_71, s98_72, s98_75, nI_1]
        exact z _
      · rw [if_pos c0]
        simp only [s98_35, s98_36]
        rw [if_pos (show ¬ (1 : Int32) = 0 by decide)]
        simp only [s98_61, s98_62, s98_65, s98_67, s98_68, s98_69, s98_70, s98_71, s98_72, s98_75, hM.f, oB_some, (show (1 : Int32) = nI 1 from rfl), nI_add, nI_1, hM.ls (show b + 1 + 3 * w + 1 < 420 by omega), q2]
        exact z _
  simp only [s98_0, s98_1, s98_2, s98_3, s98_e]
  exact loop 8 0 _ rfl
theorem m_sum2 (hM : HM h F s A) (hK : MK s b K) (hz : KZ K) (hb : b + 25 ≤ 420) : ∀ post, Call 98 [.ref 423, .int (nI b), .int 2] h post = post (some (.int (sm K.2.2.1 8))) h := by
  refine call_eq ?_
  have loop : ∀ d w (v5 : Value), w + d = 8 → Ev none 98 5 [.ref 423, .int (nI b), .int 2, .int (sm K.2.2.1 w), .int (nI w), v5] [] h (fun r g => r = some (.int (sm K.2.2.1 8)) ∧ g = h) := by
    intro d
    induction d with
    | zero =>
      intro w v5 hw
      obtain rfl : w = 8 := by omega
      simp only [s98_5, s98_7, s98_9, s98_78, s98_79, if_pos (show (8 : Int32) ≤ nI 8 by decide)]
      exact ⟨trivial, trivial⟩
    | succ d ih =>
      intro w v5 hw
      have hw8 : w < 8 := by omega
      obtain ⟨q1, q2, q3⟩ := hK.2 w hw8
      have e : sm K.2.2.1 (w + 1) = sm K.2.2.1 w + (K.2.2.1 w) := rfl
      have z := fun v => ih (w + 1) v (by omega)
      rw [e] at z
      simp only [s98_5, s98_7, s98_9, if_neg (le8 hw8)]
      simp only [s98_12, s98_13, s98_15, s98_18, s98_20, s98_21, s98_22, s98_25, s98_27, s98_28, m_part, Option.toList_some, List.cons_append, List.nil_append, hM.f, oB_some, hM.ls (show b + 1 + 3 * w < 420 by omega), q1]
      by_cases c0 : K.1 w = 0
      · rw [if_neg (fun q => q c0)]
        have e2 : K.2.2.1 w = 0 := (hz w hw8 c0).2
        rw [e2] at z
        simp only [s98_31, s98_32, s98_70, s98_71, s98_72, s98_75, nI_1]
        exact z _
      · rw [if_pos c0]
        simp only [s98_35, s98_36]
        rw [if_pos (show ¬ (2 : Int32) = 0 by decide)]
        simp only [s98_61, s98_62, s98_65, s98_67, s98_68, s98_69, s98_70, s98_71, s98_72, s98_75, hM.f, oB_some, (show (2 : Int32) = nI 2 from rfl), nI_add, nI_1, hM.ls (show b + 1 + 3 * w + 2 < 420 by omega), q3]
        exact z _
  simp only [s98_0, s98_1, s98_2, s98_3, s98_e]
  exact loop 8 0 _ rfl
theorem m_isSame (hM : HM h F s A) (hK : MK s b K) (hO : MK s c O) (hb : b + 25 ≤ 420) (hc : c + 25 ≤ 420) : ∀ post, Call 104 [.ref 423, .int (nI b), .int (nI c)] h post = post (some (.int (if kEq K O = true then 1 else 0))) h := by
  refine call_eq ?_
  have loop : ∀ d w, w + d = 8 → Ev none 104 24 [.ref 423, .int (nI b), .int (nI c), .int (bI (allb (fun w => decide (K.1 w = O.1 w)) w && decide (K.2.2.2 = O.2.2.2))), .int (nI w)] [] h (fun r g => r = some (.int (if kEq K O = true then 1 else 0)) ∧ g = h) := by
    intro d
    induction d with
    | zero =>
      intro w hw
      obtain rfl : w = 8 := by omega
      simp only [s104_24, s104_26, s104_28, s104_72, s104_73, if_pos (show (8 : Int32) ≤ nI 8 by decide)]
      unfold kEq bI
      by_cases q : (allb (fun w => decide (K.1 w = O.1 w)) 8 && decide (K.2.2.2 = O.2.2.2)) = true
      · rw [if_pos q]; exact ⟨Or.inr rfl, rfl, trivial⟩
      · rw [if_neg q]; exact ⟨Or.inl rfl, rfl, trivial⟩
    | succ d ih =>
      intro w hw
      have hw8 : w < 8 := by omega
      obtain ⟨q1, -, -⟩ := hK.2 w hw8
      obtain ⟨o1, -, -⟩ := hO.2 w hw8
      have ih := ih (w + 1) (by omega)
      have e : allb (fun w => decide (K.1 w = O.1 w)) (w + 1) = (allb (fun w => decide (K.1 w = O.1 w)) w && decide (K.1 w = O.1 w)) := rfl
      rw [e] at ih
      simp only [s104_24, s104_26, s104_28, if_neg (le8 hw8)]
      simp only [s104_31, s104_32]
      cases ca : (allb (fun w => decide (K.1 w = O.1 w)) w && decide (K.2.2.2 = O.2.2.2)) with
      | false =>
        rw [if_pos (show bI false = 0 from rfl)]
        have e2 : (allb (fun w => decide (K.1 w = O.1 w)) w && decide (K.1 w = O.1 w) && decide (K.2.2.2 = O.2.2.2)) = false := by
          rw [Bool.and_assoc, Bool.and_comm (decide (K.1 w = O.1 w)), ← Bool.and_assoc, ca]; rfl
        rw [e2] at ih
        simp only [s104_64, s104_65, s104_66, s104_69, nI_1]
        exact ih
      | true =>
        rw [if_neg (show ¬ bI true = 0 by decide)]
        have e2 : (allb (fun w => decide (K.1 w = O.1 w)) w && decide (K.1 w = O.1 w) && decide (K.2.2.2 = O.2.2.2)) = decide (K.1 w = O.1 w) := by
          rw [Bool.and_assoc, Bool.and_comm (decide (K.1 w = O.1 w)), ← Bool.and_assoc, ca]; rfl
        rw [e2] at ih
        simp only [s104_35, s104_36, s104_39, s104_40, s104_42, s104_45, s104_46, s104_47, s104_50, s104_51, s104_53, s104_56, s104_57, m_part, Option.toList_some, List.cons_append, List.nil_append, hM.f, oB_some, hM.ls (show b + 1 + 3 * w < 420 by omega), hM.ls (show c + 1 + 3 * w < 420 by omega), q1, o1]
        by_cases c0 : K.1 w = O.1 w
        · rw [if_neg (fun q => q c0)]
          rw [decide_eq_true c0] at ih
          simp only [s104_60, s104_61, s104_64, s104_65, s104_66, s104_69, nI_1]
          exact ih
        · rw [if_pos c0]
          rw [decide_eq_false c0] at ih
          simp only [s104_64, s104_65, s104_66, s104_69, nI_1]
          exact ih
  simp only [s104_0, s104_1, s104_4, s104_5, s104_6, s104_7, s104_10, s104_11, s104_12, s104_e, hM.f, oB_some, hM.ls (show b < 420 by omega), hM.ls (show c < 420 by omega), hK.1, hO.1]
  have l0 := loop 8 0 rfl
  by_cases c0 : K.2.2.2 = O.2.2.2
  · rw [if_neg (fun q => q c0)]
    have e : (allb (fun w => decide (K.1 w = O.1 w)) 0 && decide (K.2.2.2 = O.2.2.2)) = true := by rw [decide_eq_true c0]; rfl
    rw [e] at l0
    simp only [s104_15, s104_16, s104_20, s104_21, s104_22]
    exact l0
  · rw [if_pos c0]
    have e : (allb (fun w => decide (K.1 w = O.1 w)) 0 && decide (K.2.2.2 = O.2.2.2)) = false := by rw [decide_eq_false c0]; rfl
    rw [e] at l0
    simp only [s104_19, s104_20, s104_21, s104_22]
    exact l0
theorem m_takesIn (hM : HM h F s A) (hK : MK s b K) (hO : MK s c O) (hb : b + 25 ≤ 420) (hc : c + 25 ≤ 420) (hd : b + 25 ≤ c ∨ c + 25 ≤ b) : Call 102 [.ref 423, .int (nI b), .int (nI c)] h (fun rv h' => rv = some (.int (kCt K O)) ∧ (∃ s', HM h' F s' A ∧ MK s' b (kTk K O) ∧ ∀ i, (i < b ∨ b + 25 ≤ i) → s' i = s i) ∧ Fr 423 430 h h') := by
  have loop : ∀ d w (hh : AHp) (s1 : Nat → Int32) (v6 v7 v8 : Value), w + d = 8 → HM hh F s1 A → (∀ i, i < 8 → s1 (b + 1 + 3 * i) = (if i < w then (kTk K O).1 i else K.1 i) ∧ s1 (b + 1 + 3 * i + 1) = (if i < w then (kTk K O).2.1 i else K.2.1 i) ∧ s1 (b + 1 + 3 * i + 2) = (if i < w then (kTk K O).2.2.1 i else K.2.2.1 i)) → (∀ i, (i < b + 1 ∨ b + 25 ≤ i) → s1 i = s i) → Fr 423 430 h hh →
      Ev none 102 20 [.ref 423, .int (nI b), .int (nI c), .int (K.2.2.2 ||| O.2.2.2), .int (cntI (fun w => !decide ((kTk K O).1 w = K.1 w)) w), .int (nI w), v6, v7, v8] [] hh (fun rv h' => rv = some (.int (kCt K O)) ∧ (∃ s', HM h' F s' A ∧ MK s' b (kTk K O) ∧ ∀ i, (i < b ∨ b + 25 ≤ i) → s' i = s i) ∧ Fr 423 430 h h') := by
    intro d
    induction d with
    | zero =>
      intro w hh s1 v6 v7 v8 hw z1 z2 z3 z4
      obtain rfl : w = 8 := by omega
      obtain ⟨h2, e2, k2, r2⟩ := z1.ss (show b < 420 by omega) (K.2.2.2 ||| O.2.2.2)
      simp only [s102_20, s102_22, s102_24, s102_158, s102_159, s102_162, s102_163, s102_164, s102_165, s102_167, if_pos (show (8 : Int32) ≤ nI 8 by decide), z1.f, oB_some, e2]
      refine ⟨rfl, ⟨_, k2, ⟨by unfold upd; rw [if_pos rfl]; rfl, fun w hw => ?_⟩, fun i hi => ?_⟩, z4.tr r2⟩
      · have := z2 w hw
        rw [if_pos hw, if_pos hw, if_pos hw] at this
        unfold upd
        rw [if_neg (by omega), if_neg (by omega), if_neg (by omega)]
        exact this
      · unfold upd
        rw [if_neg (by omega)]
        exact z3 i (by omega)
    | succ d ih =>
      intro w hh s1 v6 v7 v8 hw z1 z2 z3 z4
      have hw8 : w < 8 := by omega
      have c1 := (hO.2 w hw8)
      rw [← z3 (c + 1 + 3 * w) (by omega), ← z3 (c + 1 + 3 * w + 1) (by omega), ← z3 (c + 1 + 3 * w + 2) (by omega)] at c1
      obtain ⟨o1, o2, o3⟩ := c1
      have z2w := z2 w hw8
      rw [if_neg (Nat.lt_irrefl w), if_neg (Nat.lt_irrefl w), if_neg (Nat.lt_irrefl w)] at z2w
      obtain ⟨q1, q2, q3⟩ := z2w
      have at130 : ∀ (h2 : AHp) (s2 : Nat → Int32), HM h2 F s2 A → s2 (b + 1 + 3 * w) = (kTk K O).1 w → s2 (b + 1 + 3 * w + 1) = (kTk K O).2.1 w → s2 (b + 1 + 3 * w + 2) = (kTk K O).2.2.1 w → (∀ i, (i < b + 1 + 3 * w ∨ b + 1 + 3 * w + 3 ≤ i) → s2 i = s1 i) → Fr 423 430 h h2 →
          Ev none 102 130 [.ref 423, .int (nI b), .int (nI c), .int (K.2.2.2 ||| O.2.2.2), .int (cntI (fun w => !decide ((kTk K O).1 w = K.1 w)) w), .int (nI w), .int (nI (b + 1 + 3 * w)), .int (nI (c + 1 + 3 * w)), .int (K.1 w)] [] h2 (fun rv h' => rv = some (.int (kCt K O)) ∧ (∃ s', HM h' F s' A ∧ MK s' b (kTk K O) ∧ ∀ i, (i < b ∨ b + 25 ≤ i) → s' i = s i) ∧ Fr 423 430 h h') := by
        intro h2 s2 y1 y2 y3 y4 y5 y6
        have nx := ih (w + 1) h2 s2 (.int (nI (b + 1 + 3 * w))) (.int (nI (c + 1 + 3 * w))) (.int (K.1 w)) (by omega) y1 (by
          intro i hi
          by_cases ei : i = w
          · subst ei
            rw [if_pos (Nat.lt_succ_self i), if_pos (Nat.lt_succ_self i), if_pos (Nat.lt_succ_self i)]
            exact ⟨y2, y3, y4⟩
          · have := z2 i hi
            rw [y5 _ (by omega), y5 _ (by omega), y5 _ (by omega)]
            by_cases ej : i < w
            · rw [if_pos ej, if_pos ej, if_pos ej] at this
              rw [if_pos (by omega), if_pos (by omega), if_pos (by omega)]
              exact this
            · rw [if_neg ej, if_neg ej, if_neg ej] at this
              rw [if_neg (by omega), if_neg (by omega), if_neg (by omega)]
              exact this) (by
          intro i hi
          rw [y5 i (by omega)]
          exact z3 i hi) y6
        have ec : cntI (fun w => !decide ((kTk K O).1 w = K.1 w)) (w + 1) = if (!decide ((kTk K O).1 w = K.1 w)) = true then cntI (fun w => !decide ((kTk K O).1 w = K.1 w)) w + 1 else cntI (fun w => !decide ((kTk K O).1 w = K.1 w)) w := rfl
        rw [ec] at nx
        simp only [s102_130, s102_132, s102_133, s102_136, s102_138, s102_139, s102_141, y1.f, oB_some, y1.ls (show b + 1 + 3 * w < 420 by omega), y2]
        by_cases cc : (kTk K O).1 w = K.1 w
        · rw [if_pos cc]
          rw [if_neg (by simp [cc])] at nx
          simp only [s102_148, s102_149, s102_150, s102_152, s102_155, nI_1, Int32.add_zero]
          exact nx
        · rw [if_neg cc]
          rw [if_pos (by simp [cc])] at nx
          simp only [s102_144, s102_145, s102_149, s102_150, s102_152, s102_155, nI_1]
          exact nx
      have at114 : ∀ (h2 : AHp) (s2 : Nat → Int32), HM h2 F s2 A → s2 (b + 1 + 3 * w) = (if K.1 w < O.1 w then O.1 w else K.1 w) → s2 (b + 1 + 3 * w + 1) = (if K.1 w < O.1 w then O.2.1 w else K.2.1 w) → s2 (b + 1 + 3 * w + 2) = (if K.1 w < O.1 w then O.2.2.1 w else K.2.2.1 w) → (∀ i, (i < b + 1 + 3 * w ∨ b + 1 + 3 * w + 3 ≤ i) → s2 i = s1 i) → Fr 423 430 h h2 →
          Ev none 102 114 [.ref 423, .int (nI b), .int (nI c), .int (K.2.2.2 ||| O.2.2.2), .int (cntI (fun w => !decide ((kTk K O).1 w = K.1 w)) w), .int (nI w), .int (nI (b + 1 + 3 * w)), .int (nI (c + 1 + 3 * w)), .int (K.1 w)] [] h2 (fun rv h' => rv = some (.int (kCt K O)) ∧ (∃ s', HM h' F s' A ∧ MK s' b (kTk K O) ∧ ∀ i, (i < b ∨ b + 25 ≤ i) → s' i = s i) ∧ Fr 423 430 h h') := by
        intro h2 s2 y1 y2 y3 y4 y5 y6
        simp only [s102_114, s102_115, s102_117, s102_118, s102_119, s102_120, s102_121, shr_bit _ (show w < 32 by omega)]
        by_cases cg : gb (K.2.2.2 ||| O.2.2.2) w = true
        · have p1 : ∀ a a' : Int32, pick K O w a a' = 0 := fun a a' => if_pos cg
          rw [if_neg (fun q => q cg)]
          simp only [s102_124, s102_125, s102_127, y1.f]
          refine Call.mono (m_forgets y1 (show b + 1 + 3 * w + 2 < 420 by omega)) ?_
          rintro rv h3 ⟨rfl, k3, r3⟩
          simp only [Option.toList_none, List.nil_append]
          refine at130 h3 _ k3 ?_ ?_ ?_ ?_ (y6.tr r3)
          · show _ = pick K O w (K.1 w) (O.1 w)
            rw [p1]
            unfold upd
            rw [if_neg (by omega), if_neg (by omega), if_pos rfl]
          · show _ = pick K O w (K.2.1 w) (O.2.1 w)
            rw [p1]
            unfold upd
            rw [if_neg (by omega), if_pos rfl]
          · show _ = pick K O w (K.2.2.1 w) (O.2.2.1 w)
            rw [p1]
            unfold upd
            rw [if_pos rfl]
          · intro i hi
            unfold upd
            rw [if_neg (by omega), if_neg (by omega), if_neg (by omega)]
            exact y5 i hi
        · have p1 : ∀ a a' : Int32, pick K O w a a' = if K.1 w < O.1 w then a' else a := fun a a' => if_neg cg
          rw [if_pos cg]
          refine at130 h2 s2 y1 ?_ ?_ ?_ y5 y6
          · show _ = pick K O w (K.1 w) (O.1 w)
            rw [p1]; exact y2
          · show _ = pick K O w (K.2.1 w) (O.2.1 w)
            rw [p1]; exact y3
          · show _ = pick K O w (K.2.2.1 w) (O.2.2.1 w)
            rw [p1]; exact y4
      simp only [s102_20, s102_22, s102_24, if_neg (le8 hw8)]
      simp only [s102_27, s102_28, s102_30, s102_33, s102_35, s102_36, s102_38, s102_41, s102_43, s102_44, s102_47, s102_49, s102_50, s102_52, s102_53, s102_56, s102_58, s102_59, s102_61, m_part, Option.toList_some, List.cons_append, List.nil_append, z1.f, oB_some, z1.ls (show b + 1 + 3 * w < 420 by omega), z1.ls (show c + 1 + 3 * w < 420 by omega), q1, o1]
      by_cases cl : O.1 w ≤ K.1 w
      · have cn : ¬ K.1 w < O.1 w := Int32.not_lt.mpr cl
        rw [if_pos cl]
        exact at114 hh s1 z1 (by rw [if_neg cn]; exact q1) (by rw [if_neg cn]; exact q2) (by rw [if_neg cn]; exact q3) (fun i _ => rfl) z4
      · have cn : K.1 w < O.1 w := Int32.not_le.mp cl
        rw [if_neg cl]
        obtain ⟨h2, e2, k2, r2⟩ := z1.ss (show b + 1 + 3 * w < 420 by omega) (O.1 w)
        obtain ⟨h3, e3, k3, r3⟩ := k2.ss (show b + 1 + 3 * w + 1 < 420 by omega) (O.2.1 w)
        obtain ⟨h4, e4, k4, r4⟩ := k3.ss (show b + 1 + 3 * w + 2 < 420 by omega) (O.2.2.1 w)
        have l2 : ldi h2 424 (nI (c + 1 + 3 * w + 1)) = some (O.2.1 w) := by
          rw [k2.ls (by omega)]; unfold upd; rw [if_neg (by omega), o2]
        have l3 : ldi h3 424 (nI (c + 1 + 3 * w + 2)) = some (O.2.2.1 w) := by
          rw [k3.ls (by omega)]; unfold upd; rw [if_neg (by omega), if_neg (by omega), o3]
        simp only [s102_64, s102_65, s102_68, s102_70, s102_71, s102_74, s102_76, s102_77, s102_78, s102_79, s102_82, s102_84, s102_85, s102_86, s102_87, s102_90, s102_92, s102_93, s102_94, s102_95, s102_96, s102_97, s102_100, s102_102, s102_103, s102_104, s102_105, s102_108, s102_110, s102_111, s102_112, s102_113, z1.f, k2.f, k3.f, oB_some, z1.ls (show c + 1 + 3 * w < 420 by omega), o1, (show (1 : Int32) = nI 1 from rfl), (show (2 : Int32) = nI 2 from rfl), nI_add, e2, l2, e3, l3, e4]
        refine at114 h4 _ k4 ?_ ?_ ?_ ?_ (((z4.tr r2).tr r3).tr r4)
        · rw [if_pos cn]; unfold upd; rw [if_neg (by omega), if_neg (by omega), if_pos rfl]
        · rw [if_pos cn]; unfold upd; rw [if_neg (by omega), if_pos rfl]
        · rw [if_pos cn]; unfold upd; rw [if_pos rfl]
        · intro i hi
          unfold upd
          rw [if_neg (by omega), if_neg (by omega), if_neg (by omega)]
  simp only [s102_0, s102_1, s102_4, s102_5, s102_6, s102_7, s102_10, s102_11, s102_12, s102_13, s102_14, s102_15, s102_17, s102_18, s102_e, hM.f, oB_some, hM.ls (show b < 420 by omega), hM.ls (show c < 420 by omega), hK.1, hO.1]
  exact loop 8 0 h s _ _ _ rfl hM (fun i hi => by rw [if_neg (Nat.not_lt_zero i), if_neg (Nat.not_lt_zero i), if_neg (Nat.not_lt_zero i)]; exact hK.2 i hi) (fun i _ => rfl) Fr.rf
end MB
