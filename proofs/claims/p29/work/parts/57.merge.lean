/-! The law's merge. -/
def mgA (A : WA) (t n : Nat) (N : Kn) : WA := fun k j => if t ≤ j ∧ j < t + n then (if k = 3 then N.1 (j - t) else if k = 4 then N.2.1 (j - t) else if k = 5 then N.2.2.1 (j - t) else A k j) else A k j
section MG
variable {h h' : AHp} {A : WA} {t n : Nat} {N : Kn}
theorem mgA_out {k j : Nat} (hj : j < t ∨ t + n ≤ j) : mgA A t n N k j = A k j := if_neg (by omega)
theorem mgA_k {k j : Nat} (hk : k ≠ 3 ∧ k ≠ 4 ∧ k ≠ 5) : mgA A t n N k j = A k j := by
  unfold mgA
  rw [if_neg hk.1, if_neg hk.2.1, if_neg hk.2.2]
  split <;> rfl
theorem mgA_3 {w : Nat} (hw : w < n) : mgA A t n N 3 (t + w) = N.1 w := by
  unfold mgA
  rw [if_pos (by omega), if_pos rfl, Nat.add_sub_cancel_left]
theorem mgA_4 {w : Nat} (hw : w < n) : mgA A t n N 4 (t + w) = N.2.1 w := by
  unfold mgA
  rw [if_pos (by omega), if_neg (by decide), if_pos rfl, Nat.add_sub_cancel_left]
theorem mgA_5 {w : Nat} (hw : w < n) : mgA A t n N 5 (t + w) = N.2.2.1 w := by
  unfold mgA
  rw [if_pos (by omega), if_neg (by decide), if_neg (by decide), if_pos rfl, Nat.add_sub_cancel_left]
theorem mgA_s (k j : Nat) : ua (ua (ua (mgA A t n N) 3 (t + n) (N.1 n)) 4 (t + n) (N.2.1 n)) 5 (t + n) (N.2.2.1 n) k j = mgA A t (n + 1) N k j := by
  by_cases e : j = t + n
  · subst e
    by_cases c3 : k = 3
    · subst c3; rw [ua_k (by decide), ua_k (by decide), ua_s, mgA_3 (Nat.lt_succ_self n)]
    by_cases c4 : k = 4
    · subst c4; rw [ua_k (by decide), ua_s, mgA_4 (Nat.lt_succ_self n)]
    by_cases c5 : k = 5
    · subst c5; rw [ua_s, mgA_5 (Nat.lt_succ_self n)]
    rw [ua_k c5, ua_k c4, ua_k c3, mgA_k ⟨c3, c4, c5⟩, mgA_k ⟨c3, c4, c5⟩]
  · rw [ua_i, if_neg (fun q => e q.2), ua_i, if_neg (fun q => e q.2), ua_i, if_neg (fun q => e q.2)]
    unfold mgA
    by_cases c : t ≤ j ∧ j < t + n
    · rw [if_pos c, if_pos (show t ≤ j ∧ j < t + (n + 1) by omega)]
    · rw [if_neg c, if_neg (show ¬ (t ≤ j ∧ j < t + (n + 1)) by omega)]
theorem and01 (x : Int32) : x &&& 1 = 0 ∨ x &&& 1 = 1 := by
  obtain ⟨j, h1, h2⟩ := pk_andE x (m := 1) 1 (by decide)
  have : j = 0 ∨ j = 1 := by omega
  rcases this with rfl | rfl
  · exact Or.inl h2
  · exact Or.inr h2
set_option maxHeartbeats 4000000 in
theorem c_mergeT {K O : Kn} {g : Int32} {s f : Nat} (hW : HW h A) (ht : t + 8 ≤ 48) (hs : (s = 3 ∧ f + 8 ≤ 48 ∧ (t + 8 ≤ f ∨ f + 8 ≤ t)) ∨ (s = 9 ∧ f + 8 ≤ 64)) (hg : g = K.2.2.2 ||| O.2.2.2)
    (hK : ∀ w, w < 8 → A 3 (t + w) = K.1 w ∧ A 4 (t + w) = K.2.1 w ∧ A 5 (t + w) = K.2.2.1 w) (hO : ∀ w, w < 8 → A s (f + w) = O.1 w ∧ A (s + 1) (f + w) = O.2.1 w ∧ A (s + 2) (f + w) = O.2.2.1 w) :
    Call 68 [.ref 426, .ref 427, .ref 428, .int (nI t), .int g, .ref (423 + s), .ref (423 + (s + 1)), .ref (423 + (s + 2)), .int (nI f)] h (fun rv h' => rv = some (.int (kCt K O)) ∧ HW h' (mgA A t 8 (kTk K O)) ∧ Fr 423 435 h h') := by
  have hs1 : s < 12 ∧ s + 1 < 12 ∧ s + 2 < 12 ∧ f + 8 ≤ wz s ∧ f + 8 ≤ wz (s + 1) ∧ f + 8 ≤ wz (s + 2) := by
    rcases hs with ⟨rfl, q, -⟩ | ⟨rfl, q⟩
    · exact ⟨by decide, by decide, by decide, q, q, q⟩
    · exact ⟨by decide, by decide, by decide, q, q, q⟩
  obtain ⟨s1, s2, s3, z1, z2, z3⟩ := hs1
  obtain ⟨N, hN⟩ : ∃ N, N = kTk K O := ⟨_, rfl⟩
  have src : ∀ w, w < 8 → mgA A t w N s (f + w) = O.1 w ∧ mgA A t w N (s + 1) (f + w) = O.2.1 w ∧ mgA A t w N (s + 2) (f + w) = O.2.2.1 w := by
    intro w hw
    obtain ⟨o1, o2, o3⟩ := hO w hw
    rcases hs with ⟨rfl, q1, q2⟩ | ⟨rfl, q1⟩
    · rw [mgA_out (by omega), mgA_out (by omega), mgA_out (by omega)]; exact ⟨o1, o2, o3⟩
    · rw [mgA_k (by decide), mgA_k (by decide), mgA_k (by decide)]; exact ⟨o1, o2, o3⟩
  have tgt : ∀ w, w < 8 → mgA A t w N 3 (t + w) = K.1 w ∧ mgA A t w N 4 (t + w) = K.2.1 w ∧ mgA A t w N 5 (t + w) = K.2.2.1 w := by
    intro w hw
    rw [mgA_out (by omega), mgA_out (by omega), mgA_out (by omega)]; exact hK w hw
  have loop : ∀ d w (hh : AHp) (v11 v12 v13 : Value), w + d = 8 → HW hh (mgA A t w N) → Fr 423 435 h hh → Ev none 68 6 [.ref 426, .ref 427, .ref 428, .int (nI t), .int g, .ref (423 + s), .ref (423 + (s + 1)), .ref (423 + (s + 2)), .int (nI f), .int (cntI (fun w => !decide (N.1 w = K.1 w)) w), .int (nI w), v11, v12, v13] [] hh (fun rv h' => rv = some (.int (cntI (fun w => !decide (N.1 w = K.1 w)) 8)) ∧ HW h' (mgA A t 8 N) ∧ Fr 423 435 h h') := by
    intro d
    induction d with
    | zero =>
      intro w hh v11 v12 v13 hw hWw r
      obtain rfl : w = 8 := by omega
      simp only [s68_6, s68_8, s68_10, if_pos (show (8 : Int32) ≤ nI 8 by decide), s68_193, s68_195]
      exact ⟨trivial, hWw, r⟩
    | succ d ih =>
      intro w hh v11 v12 v13 hw hWw r
      have hw8 : w < 8 := by omega
      obtain ⟨t1, t2, t3⟩ := tgt w hw8
      obtain ⟨o1, o2, o3⟩ := src w hw8
      have l3 := hWw.l3 (show t + w < 48 by omega)
      have l4 := hWw.l4 (show t + w < 48 by omega)
      have l5 := hWw.l5 (show t + w < 48 by omega)
      have m1 := hWw.l s1 (show f + w < wz s by omega)
      have m2 := hWw.l s2 (show f + w < wz (s + 1) by omega)
      have m3 := hWw.l s3 (show f + w < wz (s + 2) by omega)
      rw [t1] at l3
      rw [t2] at l4
      rw [t3] at l5
      rw [o1] at m1
      rw [o2] at m2
      rw [o3] at m3
      have tail : ∀ go mo : Bool, N.1 w = (if go = true then 0 else if mo = true then O.1 w else K.1 w) → N.2.1 w = (if go = true then 0 else if mo = true then O.2.1 w else K.2.1 w) → N.2.2.1 w = (if go = true then 0 else if mo = true then O.2.2.1 w else K.2.2.1 w) →
          Ev none 68 59 [.ref 426, .ref 427, .ref 428, .int (nI t), .int g, .ref (423 + s), .ref (423 + (s + 1)), .ref (423 + (s + 2)), .int (nI f), .int (cntI (fun w => !decide (N.1 w = K.1 w)) w), .int (nI w), .int (K.1 w), .int (bI mo), .int (bI go)] [] hh (fun rv h' => rv = some (.int (cntI (fun w => !decide (N.1 w = K.1 w)) 8)) ∧ HW h' (mgA A t 8 N) ∧ Fr 423 435 h h') := by
        intro go mo n1 n2 n3
        obtain ⟨h1, e1, W1, r1⟩ := hWw.s3 (show t + w < 48 by omega) (N.1 w)
        obtain ⟨h2, e2, W2, r2⟩ := W1.s4 (show t + w < 48 by omega) (N.2.1 w)
        obtain ⟨h3, e3, W3, r3⟩ := W2.s5 (show t + w < 48 by omega) (N.2.2.1 w)
        have W4 : HW h3 (mgA A t (w + 1) N) := W3.to (fun k _ i _ => mgA_s k i)
        have k4 := W1.l4 (show t + w < 48 by omega)
        rw [ua_k (by decide), t2] at k4
        have k5 := W2.l5 (show t + w < 48 by omega)
        rw [ua_k (by decide), ua_k (by decide), t3] at k5
        have q2 := W1.l s2 (show f + w < wz (s + 1) by omega)
        have q3 := W2.l s3 (show f + w < wz (s + 2) by omega)
        have q2' : ldi h1 (423 + (s + 1)) (nI (f + w)) = some (O.2.1 w) := by
          rw [q2]
          rcases hs with ⟨rfl, x1, x2⟩ | ⟨rfl, x1⟩
          · rw [ua_k (by decide), o2]
          · rw [ua_k (by decide), o2]
        have q3' : ldi h2 (423 + (s + 2)) (nI (f + w)) = some (O.2.2.1 w) := by
          rw [q3]
          rcases hs with ⟨rfl, x1, x2⟩ | ⟨rfl, x1⟩
          · rw [ua_k (by decide), ua_k (by decide), o3]
          · rw [ua_k (by decide), ua_k (by decide), o3]
        have l7 := W4.l3 (show t + w < 48 by omega)
        rw [mgA_3 (Nat.lt_succ_self w)] at l7
        have z := ih (w + 1) h3 (.int (K.1 w)) (.int (bI mo)) (.int (bI go)) (by omega) W4 (((r.tr r1).tr r2).tr r3)
        have ez : cntI (fun w => !decide (N.1 w = K.1 w)) (w + 1) = if (!decide (N.1 w = K.1 w)) = true then cntI (fun w => !decide (N.1 w = K.1 w)) w + 1 else cntI (fun w => !decide (N.1 w = K.1 w)) w := rfl
        rw [ez] at z
        have last : Ev none 68 166 [.ref 426, .ref 427, .ref 428, .int (nI t), .int g, .ref (423 + s), .ref (423 + (s + 1)), .ref (423 + (s + 2)), .int (nI f), .int (cntI (fun w => !decide (N.1 w = K.1 w)) w), .int (nI w), .int (K.1 w), .int (bI mo), .int (bI go)] [] h3 (fun rv h' => rv = some (.int (cntI (fun w => !decide (N.1 w = K.1 w)) 8)) ∧ HW h' (mgA A t 8 N) ∧ Fr 423 435 h h') := by
          simp only [s68_166, s68_168, s68_169, s68_170, s68_172, s68_173, s68_174, s68_176, nI_add, l7, oB_some]
          by_cases c : N.1 w = K.1 w
          · rw [if_neg (by simp [c])] at z
            rw [if_neg (fun q => q c)]
            simp only [s68_179, s68_180, s68_183, s68_184, s68_185, s68_187, s68_190, nI_1, Int32.add_zero]
            exact z
          · rw [if_pos (by simp [c])] at z
            rw [if_pos c]
            simp only [s68_183, s68_184, s68_185, s68_187, s68_190, nI_1]
            exact z
        clear z ih
        cases go with
        | true =>
          rw [if_pos rfl] at n1 n2 n3
          rw [n1] at e1
          rw [n2] at e2
          rw [n3] at e3
          have bt : ¬ bI true = 0 := n10'
          simp only [s68_59, s68_60, s68_61, s68_63, s68_64, s68_66, if_neg bt]
          simp only [s68_69, s68_70, s68_91, s68_92, s68_93, s68_94, s68_96, s68_97, s68_99, nI_add, e1, oB_some, if_neg bt]
          simp only [s68_102, s68_103, s68_128, s68_129, s68_130, s68_131, s68_133, s68_134, s68_136, nI_add, e2, oB_some, if_neg bt]
          simp only [s68_139, s68_140, s68_165, e3, oB_some]
          exact last
        | false =>
          rw [if_neg Bool.false_ne_true] at n1 n2 n3
          have b0 : bI false = 0 := rfl
          cases mo with
          | true =>
            rw [if_pos rfl] at n1 n2 n3
            rw [n1] at e1
            rw [n2] at e2
            rw [n3] at e3
            have bt : ¬ bI true = 0 := n10'
            simp only [s68_59, s68_60, s68_61, s68_63, s68_64, s68_66, if_pos b0, s68_73, s68_75, if_neg bt]
            simp only [s68_78, s68_80, s68_82, s68_84, s68_85, s68_86, s68_91, s68_92, s68_93, s68_94, s68_96, s68_97, s68_99, nI_add, m1, e1, oB_some, if_pos b0, s68_106, s68_108, if_neg bt]
            simp only [s68_111, s68_113, s68_115, s68_117, s68_118, s68_119, s68_128, s68_129, s68_130, s68_131, s68_133, s68_134, s68_136, nI_add, q2', e2, oB_some, if_pos b0, s68_143, s68_145, if_neg bt]
            simp only [s68_148, s68_150, s68_152, s68_154, s68_155, s68_156, s68_165, nI_add, q3', e3, oB_some]
            exact last
          | false =>
            rw [if_neg Bool.false_ne_true] at n1 n2 n3
            rw [n1] at e1
            rw [n2] at e2
            rw [n3] at e3
            simp only [s68_59, s68_60, s68_61, s68_63, s68_64, s68_66, if_pos b0, s68_73, s68_75, if_pos b0]
            simp only [s68_89, s68_91, s68_92, s68_93, s68_94, s68_96, s68_97, s68_99, nI_add, e1, oB_some, if_pos b0, s68_106, s68_108, if_pos b0]
            simp only [s68_122, s68_123, s68_124, s68_126, s68_127, s68_128, s68_129, s68_130, s68_131, s68_133, s68_134, s68_136, nI_add, k4, e2, oB_some, if_pos b0, s68_143, s68_145, if_pos b0]
            simp only [s68_159, s68_160, s68_161, s68_163, s68_164, s68_165, nI_add, k5, e3, oB_some]
            exact last
      have hgb := shr_bit g (show w < 32 by omega)
      have n1 : ∀ go mo : Bool, (gb g w = true ↔ go = true) → (K.1 w < O.1 w ↔ mo = true) → ∀ a b : Int32, pick K O w a b = (if go = true then 0 else if mo = true then b else a) := by
        intro go mo c1 c2 a b
        unfold pick
        rw [← hg]
        by_cases d1 : gb g w = true
        · rw [if_pos d1, if_pos (c1.mp d1)]
        · rw [if_neg d1, if_neg (fun q => d1 (c1.mpr q))]
          by_cases d2 : K.1 w < O.1 w
          · rw [if_pos d2, if_pos (c2.mp d2)]
          · rw [if_neg d2, if_neg (fun q => d2 (c2.mpr q))]
      have fin : ∀ mo : Bool, (K.1 w < O.1 w ↔ mo = true) → ∀ v13 : Value, Ev none 68 41 [.ref 426, .ref 427, .ref 428, .int (nI t), .int g, .ref (423 + s), .ref (423 + (s + 1)), .ref (423 + (s + 2)), .int (nI f), .int (cntI (fun w => !decide (N.1 w = K.1 w)) w), .int (nI w), .int (K.1 w), .int (bI mo), v13] [] hh (fun rv h' => rv = some (.int (cntI (fun w => !decide (N.1 w = K.1 w)) 8)) ∧ HW h' (mgA A t 8 N) ∧ Fr 423 435 h h') := by
        intro mo hmo v13
        simp only [s68_41, s68_43, s68_45, s68_46, s68_47, s68_48, s68_49]
        by_cases cg : g >>> (nI w &&& 31) &&& 1 = 1
        · rw [if_neg (fun q => q cg)]
          simp only [s68_52, s68_53, s68_56, s68_57]
          have c1 : gb g w = true ↔ true = true := ⟨fun _ => rfl, fun _ => hgb.mp cg⟩
          exact tail true mo (by rw [hN]; exact n1 true mo c1 hmo _ _) (by rw [hN]; exact n1 true mo c1 hmo _ _) (by rw [hN]; exact n1 true mo c1 hmo _ _)
        · rw [if_pos cg]
          simp only [s68_56, s68_57]
          have c1 : gb g w = true ↔ false = true := ⟨fun q => absurd (hgb.mpr q) cg, fun q => by cases q⟩
          exact tail false mo (by rw [hN]; exact n1 false mo c1 hmo _ _) (by rw [hN]; exact n1 false mo c1 hmo _ _) (by rw [hN]; exact n1 false mo c1 hmo _ _)
      simp only [s68_6, s68_8, s68_10, if_neg (le8 hw8)]
      simp only [s68_13, s68_14, s68_15, s68_17, s68_18, s68_19, s68_21, s68_23, s68_25, s68_27, s68_28, s68_29, s68_31, nI_add, l3, m1, oB_some]
      by_cases cm : O.1 w ≤ K.1 w
      · rw [if_pos cm]
        simp only [s68_38, s68_39]
        exact fin false ⟨fun q => absurd q (Int32.not_lt.mpr cm), fun q => by cases q⟩ _
      · rw [if_neg cm]
        simp only [s68_34, s68_35, s68_38, s68_39]
        exact fin true ⟨fun _ => rfl, fun _ => Int32.not_le.mp cm⟩ _
  simp only [s68_0, s68_1, s68_3, s68_4, s68_e]
  unfold kCt
  rw [← hN]
  exact loop 8 0 h _ _ _ rfl (hW.to (fun k _ i _ => (mgA_out (by omega)).symm)) Fr.rf
end MG
