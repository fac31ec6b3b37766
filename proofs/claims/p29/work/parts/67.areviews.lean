/-! What the law asks of views. -/
theorem allb_ext {p q : Nat → Bool} : ∀ n, (∀ i, i < n → p i = q i) → allb p n = allb q n := by
  intro n
  induction n with
  | zero => intro _; rfl
  | succ n ih =>
    intro he
    show (allb p n && p n) = (allb q n && q n)
    rw [ih (fun i hi => he i (by omega)), he n (by omega)]
section AV
variable {G : Nat} {h h' : AHp} {S : St} {H H' : List St} {tc : Nat → Int32} {A A' : WA} {u : Nat → Nat} {st po : Nat} {P : List Pt}
theorem same_eq (hV : VX A S) {v i : Nat} (hv : v < 6) (hi : i < 6) : (decide (A 2 v = A 2 i) && allb (fun w => decide (A 3 (8 * v + w) = A 3 (8 * i + w))) 8) = kEq (S.vk i) (S.vk v) := by
  unfold kEq
  rw [(hV v hv).1, (hV i hi).1, Bool.and_comm]
  have e1 : decide ((S.vk v).2.2.2 = (S.vk i).2.2.2) = decide ((S.vk i).2.2.2 = (S.vk v).2.2.2) := decide_eq_decide.mpr ⟨Eq.symm, Eq.symm⟩
  rw [e1, allb_ext (q := fun w => decide ((S.vk i).1 w = (S.vk v).1 w)) 8 (fun w hw => by
    rw [((hV v hv).2 w hw).1, ((hV i hi).2 w hw).1]
    exact decide_eq_decide.mpr ⟨Eq.symm, Eq.symm⟩)]
theorem av_6 (S : St) : aViewOf S 6 0 = -2000000001 ∧ aViewOf S (-1) 0 = -2000000001 := by
  have e1 : ix 6 6 = none := by decide
  have e2 : ix (-1) 6 = none := by decide
  unfold aViewOf
  rw [e1, e2]
  exact ⟨rfl, rfl⟩
theorem av_no (S : St) {v : Nat} (hv : v < 6) (c : S.th v = false) : aViewOf S (nI v) 0 = -2000000001 ∧ aPartOf S (nI v) 0 0 = -2000000001 := by
  unfold aViewOf aPartOf
  rw [ix_nI hv (by decide)]
  dsimp only
  rw [if_pos (by rw [c]; exact Bool.false_ne_true)]
  refine ⟨rfl, ?_⟩
  cases ix 0 (S.ct 0) with
  | none => rfl
  | some w =>
    dsimp only
    rw [if_pos (Or.inl (by rw [c]; exact Bool.false_ne_true))]
    rfl
theorem av_yes (S : St) {v : Nat} (hv : v < 6) (c : S.th v = true) (y : Int32) : aViewOf S (nI v) y = vAns S v y := by
  unfold aViewOf
  rw [ix_nI hv (by decide)]
  dsimp only
  rw [if_neg (fun q => q c)]
theorem vA (S : St) (v : Nat) : vAns S v 0 = kSum (S.vk v) ∧ vAns S v 1 = sm (S.vk v).2.1 8 ∧ vAns S v 2 = sm (S.vk v).2.2.1 8 ∧ vAns S v 3 = cntI (fun w => decide (0 < (S.vk v).1 w)) 8 ∧ vAns S v 4 = bc (S.vk v).2.2.2 ∧ vAns S v 5 = homeSet S v ∧ vAns S v 6 = obits (fun w => decide (0 < (S.vk v).1 w)) 8 ∧ vAns S v 7 = sameSet S v ∧ vAns S v 8 = -2000000001 := by
  refine ⟨?_, ?_, ?_, ?_, ?_, ?_, ?_, ?_, ?_⟩
  · unfold vAns; rw [if_pos rfl]
  · unfold vAns; rw [if_neg (show ¬ (1 : Int32) = 0 by decide), if_pos rfl]
  · unfold vAns; rw [if_neg (show ¬ (2 : Int32) = 0 by decide), if_neg (show ¬ (2 : Int32) = 1 by decide), if_pos rfl]
  · unfold vAns; rw [if_neg (show ¬ (3 : Int32) = 0 by decide), if_neg (show ¬ (3 : Int32) = 1 by decide), if_neg (show ¬ (3 : Int32) = 2 by decide), if_pos rfl]
  · unfold vAns; rw [if_neg (show ¬ (4 : Int32) = 0 by decide), if_neg (show ¬ (4 : Int32) = 1 by decide), if_neg (show ¬ (4 : Int32) = 2 by decide), if_neg (show ¬ (4 : Int32) = 3 by decide), if_pos rfl]
  · unfold vAns; rw [if_neg (show ¬ (5 : Int32) = 0 by decide), if_neg (show ¬ (5 : Int32) = 1 by decide), if_neg (show ¬ (5 : Int32) = 2 by decide), if_neg (show ¬ (5 : Int32) = 3 by decide), if_neg (show ¬ (5 : Int32) = 4 by decide), if_pos rfl]
  · unfold vAns; rw [if_neg (show ¬ (6 : Int32) = 0 by decide), if_neg (show ¬ (6 : Int32) = 1 by decide), if_neg (show ¬ (6 : Int32) = 2 by decide), if_neg (show ¬ (6 : Int32) = 3 by decide), if_neg (show ¬ (6 : Int32) = 4 by decide), if_neg (show ¬ (6 : Int32) = 5 by decide), if_pos rfl]
  · unfold vAns; rw [if_neg (show ¬ (7 : Int32) = 0 by decide), if_neg (show ¬ (7 : Int32) = 1 by decide), if_neg (show ¬ (7 : Int32) = 2 by decide), if_neg (show ¬ (7 : Int32) = 3 by decide), if_neg (show ¬ (7 : Int32) = 4 by decide), if_neg (show ¬ (7 : Int32) = 5 by decide), if_neg (show ¬ (7 : Int32) = 6 by decide), if_pos rfl]
  · unfold vAns; rw [if_neg (show ¬ (8 : Int32) = 0 by decide), if_neg (show ¬ (8 : Int32) = 1 by decide), if_neg (show ¬ (8 : Int32) = 2 by decide), if_neg (show ¬ (8 : Int32) = 3 by decide), if_neg (show ¬ (8 : Int32) = 4 by decide), if_neg (show ¬ (8 : Int32) = 5 by decide), if_neg (show ¬ (8 : Int32) = 6 by decide), if_neg (show ¬ (8 : Int32) = 7 by decide)]; rfl
theorem ap_yes (S : St) {v w : Nat} (hv : v < 6) (hw : w < S.ct 0) (h8 : S.ct 0 ≤ 8) (c : S.th v = true) : (¬ 0 < (S.vk v).1 w → aPartOf S (nI v) (nI w) 0 = -2000000004 ∧ aPartOf S (nI v) (nI w) 1 = -2000000004 ∧ aPartOf S (nI v) (nI w) 2 = -2000000004) ∧ (0 < (S.vk v).1 w → aPartOf S (nI v) (nI w) 0 = (S.vk v).1 w ∧ aPartOf S (nI v) (nI w) 1 = (S.vk v).2.1 w ∧ aPartOf S (nI v) (nI w) 2 = (S.vk v).2.2.1 w) := by
  unfold aPartOf
  rw [ix_nI hv (by decide), ix_nI hw (by omega)]
  dsimp only
  have n : ∀ y : Int32, (0 ≤ y ∧ y ≤ 2) → ¬ (¬ S.th v = true ∨ ¬ (0 ≤ y ∧ y ≤ 2)) := fun y hy q => q.elim (fun q => q c) (fun q => q hy)
  rw [if_neg (n 0 (by decide)), if_neg (n 1 (by decide)), if_neg (n 2 (by decide))]
  refine ⟨fun d => ?_, fun d => ?_⟩
  · rw [if_pos d, if_pos d, if_pos d]
    exact ⟨rfl, rfl, rfl⟩
  · have d' : ¬ ¬ 0 < (S.vk v).1 w := fun q => q d
    rw [if_neg d', if_neg d', if_neg d']
    exact ⟨rfl, rfl, rfl⟩
/-- the state of areViews: known as far as w -/
abbrev avL (v : Nat) (is added taken known alike : Int32) (v15 v16 v17 : Value) : List Value := [.ref 0, .ref 423, .ref 424, .ref 425, .ref 426, .ref 427, .ref 428, .ref 429, .ref 430, .int is, .int (nI v), .int added, .int taken, .int known, .int alike, v15, v16, v17]
set_option maxHeartbeats 4000000 in
theorem c_avRow (hP : HP h S H 0 tc) (hW : HW h A) (hR : RX G A S u st po P) {v w : Nat} {a12 a13 a11 a14 : Int32} {v17 : Value} (hv : v < 6) (hw : w < 8) (ht : S.th v = true) {post : Option Value → AHp → Prop}
    (hgo : ∀ v17' : Value, Ev none 78 306 [.ref 0, .ref 423, .ref 424, .ref 425, .ref 426, .ref 427, .ref 428, .ref 429, .ref 430, .int 1, .int (nI v), .int a11, .int a12, .int a13, .int a14, .int (nI w), .int (if 0 < (S.vk v).1 w then 1 else 0), v17'] [] h post) :
    Ev none 78 198 [.ref 0, .ref 423, .ref 424, .ref 425, .ref 426, .ref 427, .ref 428, .ref 429, .ref 430, .int 1, .int (nI v), .int a11, .int a12, .int a13, .int a14, .int (nI w), .int (if 0 < (S.vk v).1 w then 1 else 0), v17] [] h post := by
  have hio := hP.is
  have h8 : S.ct 0 ≤ 8 := hP.wf.1
  have g0 : ldi h 423 0 = some (nI (S.ct 0)) := by rw [hW.g.1, hR.1.1]
  obtain ⟨-, z⟩ := hR.2.2.2.1 v hv
  obtain ⟨z1, z2, z3⟩ := z w hw
  have k3 := hW.l3 (show 8 * v + w < 48 by omega)
  have k4 := hW.l4 (show 8 * v + w < 48 by omega)
  have k5 := hW.l5 (show 8 * v + w < 48 by omega)
  rw [z1] at k3
  rw [z2] at k4
  rw [z3] at k5
  simp only [s78_198, s78_199, s78_201, s78_203, s78_204, if_neg (show ¬ (3 : Int32) ≤ 0 by decide)]
  simp only [s78_207, s78_209, s78_210, s78_211, s78_212, g0, oB_some]
  by_cases cw : S.ct 0 ≤ w
  · rw [if_pos (nI_le cw (by omega))]
    exact hgo _
  rw [if_neg (nI_ge (by omega) (by omega))]
  obtain ⟨p0, p1⟩ := ap_yes S hv (show w < S.ct 0 by omega) h8 ht
  by_cases c : 0 < (S.vk v).1 w
  · obtain ⟨q0, q1, q2⟩ := p1 c
    simp only [if_pos c] at hgo ⊢
    simp only [s78_215, s78_217, if_neg n10', s78_220, s78_221, s78_223, s78_225, s78_227, hio, p_partOf hP, q0, Option.toList_some, List.cons_append, List.nil_append, s78_230, s78_232, n10', not_false_iff, if_true]
    simp only [s78_240, s78_242, not_true, if_false, s78_245, s78_247, s78_249, s78_251, s78_252, s78_254, s78_255, s78_256, i8, nI_add, k3, oB_some, s78_290, eq_self]
    simp only [s78_293, s78_294, s78_297, s78_298, s78_300, s78_303, show (0 : Int32) + 1 = 1 from rfl]
    simp only [s78_201, s78_203, s78_204, if_neg (show ¬ (3 : Int32) ≤ 1 by decide)]
    simp only [s78_207, s78_209, s78_210, s78_211, s78_212, g0, oB_some, if_neg (nI_ge (show w < S.ct 0 by omega) (by omega))]
    simp only [s78_215, s78_217, if_neg n10', s78_220, s78_221, s78_223, s78_225, s78_227, hio, p_partOf hP, q1, Option.toList_some, List.cons_append, List.nil_append, s78_230, s78_232, n10', not_false_iff, if_true]
    simp only [s78_240, s78_242, n10', not_false_iff, if_true, s78_259, s78_261, s78_262, eq_self, not_true, if_false]
    simp only [s78_265, s78_267, s78_269, s78_271, s78_272, s78_274, s78_275, s78_276, i8, nI_add, k4, oB_some, s78_290, eq_self, not_true, if_false]
    simp only [s78_293, s78_294, s78_297, s78_298, s78_300, s78_303, show (1 : Int32) + 1 = 2 from rfl]
    simp only [s78_201, s78_203, s78_204, if_neg (show ¬ (3 : Int32) ≤ 2 by decide)]
    simp only [s78_207, s78_209, s78_210, s78_211, s78_212, g0, oB_some, if_neg (nI_ge (show w < S.ct 0 by omega) (by omega))]
    simp only [s78_215, s78_217, if_neg n10', s78_220, s78_221, s78_223, s78_225, s78_227, hio, p_partOf hP, q2, Option.toList_some, List.cons_append, List.nil_append, s78_230, s78_232, n10', not_false_iff, if_true]
    simp only [s78_240, s78_242, if_pos (show ¬ (2 : Int32) = 0 by decide), s78_259, s78_261, s78_262, if_pos (show ¬ (2 : Int32) = 1 by decide)]
    simp only [s78_279, s78_281, s78_283, s78_285, s78_286, s78_288, s78_289, s78_290, i8, nI_add, k5, oB_some, eq_self, not_true, if_false]
    simp only [s78_293, s78_294, s78_297, s78_298, s78_300, s78_303, show (2 : Int32) + 1 = 3 from rfl]
    simp only [s78_201, s78_203, s78_204, if_pos (Int32.le_refl 3)]
    exact hgo _
  · obtain ⟨q0, q1, q2⟩ := p0 c
    simp only [if_neg c] at hgo ⊢
    simp only [s78_215, s78_217, if_neg n10', s78_220, s78_221, s78_223, s78_225, s78_227, hio, p_partOf hP, q0, Option.toList_some, List.cons_append, List.nil_append, s78_230, s78_232, not_true, if_false]
    simp only [s78_235, s78_237, s78_290, eq_self, not_true, if_false]
    simp only [s78_293, s78_294, s78_297, s78_298, s78_300, s78_303, show (0 : Int32) + 1 = 1 from rfl]
    simp only [s78_201, s78_203, s78_204, if_neg (show ¬ (3 : Int32) ≤ 1 by decide)]
    simp only [s78_207, s78_209, s78_210, s78_211, s78_212, g0, oB_some, if_neg (nI_ge (show w < S.ct 0 by omega) (by omega))]
    simp only [s78_215, s78_217, if_neg n10', s78_220, s78_221, s78_223, s78_225, s78_227, hio, p_partOf hP, q1, Option.toList_some, List.cons_append, List.nil_append, s78_230, s78_232, not_true, if_false]
    simp only [s78_235, s78_237, s78_290, eq_self, not_true, if_false]
    simp only [s78_293, s78_294, s78_297, s78_298, s78_300, s78_303, show (1 : Int32) + 1 = 2 from rfl]
    simp only [s78_201, s78_203, s78_204, if_neg (show ¬ (3 : Int32) ≤ 2 by decide)]
    simp only [s78_207, s78_209, s78_210, s78_211, s78_212, g0, oB_some, if_neg (nI_ge (show w < S.ct 0 by omega) (by omega))]
    simp only [s78_215, s78_217, if_neg n10', s78_220, s78_221, s78_223, s78_225, s78_227, hio, p_partOf hP, q2, Option.toList_some, List.cons_append, List.nil_append, s78_230, s78_232, not_true, if_false]
    simp only [s78_235, s78_237, s78_290, eq_self, not_true, if_false]
    simp only [s78_293, s78_294, s78_297, s78_298, s78_300, s78_303, show (2 : Int32) + 1 = 3 from rfl]
    simp only [s78_201, s78_203, s78_204, if_pos (Int32.le_refl 3)]
    exact hgo _
set_option maxHeartbeats 4000000 in
theorem c_areViews (hG : G ≤ 100) (hP : HP h S H 0 tc) (hI : IV G S) (hW : HW h A) (hR : RX G A S u st po P) : ∀ post, Call 78 [.ref 0, .ref 423, .ref 424, .ref 425, .ref 426, .ref 427, .ref 428, .ref 429, .ref 430] h post = post (some (.int 1)) h := by
  refine call_eq ?_
  have hio := hP.is
  have h8 : S.ct 0 ≤ 8 := hP.wf.1
  have hst := hR.2.2.2.2.2.2.2.1
  obtain ⟨ga, gk, -⟩ := id hI
  have loop : ∀ d v (a11 a12 a13 a14 a15 a16 a17 : Value), v + d = 6 → Ev none 78 33 [.ref 0, .ref 423, .ref 424, .ref 425, .ref 426, .ref 427, .ref 428, .ref 429, .ref 430, .int 1, .int (nI v), a11, a12, a13, a14, a15, a16, a17] [] h (fun r g => r = some (.int 1) ∧ g = h) := by
    intro d
    induction d with
    | zero =>
      intro v a11 a12 a13 a14 a15 a16 a17 hv
      obtain rfl : v = 6 := by omega
      simp only [s78_33, s78_35, s78_37, if_pos (show (6 : Int32) ≤ nI 6 by decide)]
      simp only [s78_538, s78_540]
      exact ⟨Or.inr (by first | trivial | rfl), by first | trivial | rfl, by first | trivial | rfl⟩
    | succ d ih =>
      intro v a11 a12 a13 a14 a15 a16 a17 hv
      have hv6 : v < 6 := by omega
      have z := fun a b c d' e f g => ih (v + 1) a b c d' e f g (by omega)
      have l1 := hW.l1 hv6
      have sz := u_z hR.2.1 (by omega) hv6
      have tu := th_u hR.2.2.1 hv6
      simp only [s78_33, s78_35, s78_37, if_neg (le6 hv6)]
      simp only [s78_40, s78_42, if_neg n10', s78_45, s78_46, s78_48, s78_49, l1, oB_some]
      by_cases c : A 1 v = 0
      · rw [if_neg (fun q => q c)]
        obtain ⟨e1, e2⟩ := av_no S hv6 (tu.2.mpr (sz.1.mp c))
        simp only [s78_52, s78_53, s78_55, s78_56, hio, p_viewOf hP, e1, Option.toList_some, List.cons_append, List.nil_append, s78_59, s78_61, eq_self, not_true, if_false]
        simp only [s78_64, s78_65, s78_67, s78_68, s78_69, hio, p_partOf hP, e2, Option.toList_some, List.cons_append, List.nil_append, s78_72, s78_74, eq_self, not_true, if_false]
        simp only [s78_77, s78_78, s78_81, s78_82, s78_84, s78_532, s78_535, nI_1]
        exact z _ _ _ _ _ _ _
      rw [if_pos c]
      have tv : S.th v = true := tu.1.mpr (by
        have : ¬ u v = 0 := fun q => c (sz.1.mpr q)
        omega)
      obtain ⟨K, hK⟩ : ∃ K, K = S.vk v := ⟨_, rfl⟩
      have kv := gk v hv6
      rw [← hK] at kv
      obtain ⟨vx1, vx2⟩ := hR.2.2.2.1 v hv6
      rw [← hK] at vx1 vx2
      have l2 := hW.l2 hv6
      rw [vx1] at l2
      -- the end of a view
      have fin : ∀ a15 a16 a17 : Value, Ev none 78 390 [.ref 0, .ref 423, .ref 424, .ref 425, .ref 426, .ref 427, .ref 428, .ref 429, .ref 430, .int 1, .int (nI v), .int (sm K.2.1 8), .int (sm K.2.2.1 8), .int (obits (fun w => decide (0 < K.1 w)) 8), .int (sameSet S v), a15, a16, a17] [] h (fun r g => r = some (.int 1) ∧ g = h) := by
        intro a15 a16 a17
        obtain ⟨y0, y1, y2, y3, y4, y5, y6, y7, y8⟩ := vA S v
        rw [← hK] at y0 y1 y2 y3 y4 y6
        have yy0 := (av_yes S hv6 tv 0).trans y0
        have yy1 := (av_yes S hv6 tv 1).trans y1
        have yy2 := (av_yes S hv6 tv 2).trans y2
        have yy3 := (av_yes S hv6 tv 3).trans y3
        have yy4 := (av_yes S hv6 tv 4).trans y4
        have yy5 := (av_yes S hv6 tv 5).trans y5
        have yy6 := (av_yes S hv6 tv 6).trans y6
        have yy7 := (av_yes S hv6 tv 7).trans y7
        have yy8 := (av_yes S hv6 tv 8).trans y8
        obtain ⟨p, hp⟩ := kv.1
        have eh := homers_eq hR.2.2.2.2.1 h8 hP.wf.2.1 hv6
        have e4 : bc K.2.2.2 = cntI p 8 := by rw [hp, bc_8]
        simp only [s78_390, s78_392, if_neg n10', s78_395, s78_396, s78_398, s78_399, hio, p_viewOf hP, yy0, Option.toList_some, List.cons_append, List.nil_append, s78_402, s78_404, s78_406, s78_407, kSum, eq_self, not_true, if_false]
        simp only [s78_410, s78_411, s78_413, s78_414, hio, p_viewOf hP, yy1, Option.toList_some, List.cons_append, List.nil_append, s78_417, s78_419, eq_self, not_true, if_false]
        simp only [s78_422, s78_423, s78_425, s78_426, hio, p_viewOf hP, yy2, Option.toList_some, List.cons_append, List.nil_append, s78_429, s78_431, eq_self, not_true, if_false]
        simp only [s78_434, s78_435, s78_437, s78_438, s78_441, s78_443, hio, p_viewOf hP, yy3, c_ones8, Option.toList_some, List.cons_append, List.nil_append, s78_446, eq_self, not_true, if_false]
        simp only [s78_449, s78_450, s78_452, s78_453, s78_456, s78_457, s78_459, s78_460, hio, p_viewOf hP, yy4, e4, bc_8, Option.toList_some, List.cons_append, List.nil_append, l2, oB_some, hp, c_ones8, s78_463, eq_self, not_true, if_false]
        simp only [s78_466, s78_467, s78_469, s78_470, s78_473, s78_474, s78_476, s78_478, s78_480, hio, p_viewOf hP, yy5, c_homersT hW h8 hR.1.1, eh, Option.toList_some, List.cons_append, List.nil_append, s78_483, eq_self, not_true, if_false]
        simp only [s78_486, s78_487, s78_489, s78_491, hio, p_viewOf hP, yy6, Option.toList_some, List.cons_append, List.nil_append, s78_494, s78_496, eq_self, not_true, if_false]
        simp only [s78_499, s78_500, s78_502, s78_504, hio, p_viewOf hP, yy7, Option.toList_some, List.cons_append, List.nil_append, s78_507, s78_509, eq_self, not_true, if_false]
        simp only [s78_512, s78_513, s78_515, s78_517, hio, p_viewOf hP, yy8, Option.toList_some, List.cons_append, List.nil_append, s78_520, s78_522, eq_self, not_true, if_false]
        simp only [s78_525, s78_526, s78_529, s78_530, s78_532, s78_535, nI_1]
        exact z _ _ _ _ _ _ _
      -- which views know the same
      have alike : ∀ d i (a16 a17 : Value), i + d = 6 → Ev none 78 344 [.ref 0, .ref 423, .ref 424, .ref 425, .ref 426, .ref 427, .ref 428, .ref 429, .ref 430, .int 1, .int (nI v), .int (sm K.2.1 8), .int (sm K.2.2.1 8), .int (obits (fun w => decide (0 < K.1 w)) 8), .int (obits (fun i => S.th i && kEq (S.vk i) (S.vk v)) i), .int (nI i), a16, a17] [] h (fun r g => r = some (.int 1) ∧ g = h) := by
        intro d
        induction d with
        | zero =>
          intro i a16 a17 hi
          obtain rfl : i = 6 := by omega
          simp only [s78_344, s78_346, s78_348, if_pos (show (6 : Int32) ≤ nI 6 by decide)]
          exact fin _ _ _
        | succ d ih2 =>
          intro i a16 a17 hi
          have hi6 : i < 6 := by omega
          have zz := ih2 (i + 1) a16 a17 (by omega)
          have eo : obits (fun i => S.th i && kEq (S.vk i) (S.vk v)) (i + 1) = if (S.th i && kEq (S.vk i) (S.vk v)) = true then obits (fun i => S.th i && kEq (S.vk i) (S.vk v)) i ||| ((1 : Int32) <<< (nI i &&& 31)) else obits (fun i => S.th i && kEq (S.vk i) (S.vk v)) i := rfl
          rw [eo] at zz
          have k1 := hW.l1 hi6
          have szi := u_z hR.2.1 (by omega) hi6
          have tui := th_u hR.2.2.1 hi6
          simp only [s78_344, s78_346, s78_348, if_neg (le6 hi6)]
          simp only [s78_351, s78_353, s78_354, s78_356, s78_357, k1, oB_some]
          by_cases ci : A 1 i ≤ 0
          · rw [if_pos ci]
            have ti : S.th i = false := tui.2.mpr (szi.2.1.mp ci)
            rw [if_neg (by rw [ti]; exact Bool.false_ne_true)] at zz
            simp only [s78_380, s78_381, s78_382, s78_384, s78_387, or0, nI_1]
            exact zz
          · rw [if_neg ci]
            have ti : S.th i = true := tui.1.mpr (by
              have : ¬ u i = 0 := fun q => ci (szi.2.1.mpr q)
              omega)
            simp only [s78_360, s78_361, s78_363, s78_365, s78_367, c_sameT hW hv6 hi6, same_eq hR.2.2.2.1 hv6 hi6, Option.toList_some, List.cons_append, List.nil_append, s78_370]
            cases ce : kEq (S.vk i) (S.vk v) with
            | true =>
              rw [if_pos (by rw [ti, ce]; rfl)] at zz
              rw [if_neg (show ¬ bI true = 0 from n10')]
              simp only [s78_373, s78_374, s78_376, s78_377, s78_380, s78_381, s78_382, s78_384, s78_387, nI_1]
              exact zz
            | false =>
              rw [if_neg (by rw [ti, ce]; exact Bool.false_ne_true)] at zz
              rw [if_pos (show bI false = 0 from rfl)]
              simp only [s78_380, s78_381, s78_382, s78_384, s78_387, or0, nI_1]
              exact zz
      -- the parts
      have parts : ∀ d w (a16 a17 : Value), w + d = 8 → Ev none 78 102 [.ref 0, .ref 423, .ref 424, .ref 425, .ref 426, .ref 427, .ref 428, .ref 429, .ref 430, .int 1, .int (nI v), .int (sm K.2.1 w), .int (sm K.2.2.1 w), .int (obits (fun w => decide (0 < K.1 w)) w), .int 0, .int (nI w), a16, a17] [] h (fun r g => r = some (.int 1) ∧ g = h) := by
        intro d
        induction d with
        | zero =>
          intro w a16 a17 hw
          obtain rfl : w = 8 := by omega
          simp only [s78_102, s78_104, s78_106, if_pos (show (8 : Int32) ≤ nI 8 by decide)]
          simp only [s78_341, s78_342]
          exact alike 6 0 _ _ rfl
        | succ d ih2 =>
          intro w a16 a17 hw
          have hw8 : w < 8 := by omega
          have zz := fun a17' => ih2 (w + 1) (.int (if 0 < K.1 w then 1 else 0)) a17' (by omega)
          have eo : obits (fun w => decide (0 < K.1 w)) (w + 1) = if decide (0 < K.1 w) = true then obits (fun w => decide (0 < K.1 w)) w ||| ((1 : Int32) <<< (nI w &&& 31)) else obits (fun w => decide (0 < K.1 w)) w := rfl
          have es1 : sm K.2.1 (w + 1) = sm K.2.1 w + K.2.1 w := rfl
          have es2 : sm K.2.2.1 (w + 1) = sm K.2.2.1 w + K.2.2.1 w := rfl
          rw [eo, es1, es2] at zz
          obtain ⟨q1, q2, q3⟩ := vx2 w hw8
          have k3 := hW.l3 (show 8 * v + w < 48 by omega)
          have k4 := hW.l4 (show 8 * v + w < 48 by omega)
          have k5 := hW.l5 (show 8 * v + w < 48 by omega)
          rw [q1] at k3
          rw [q2] at k4
          rw [q3] at k5
          obtain ⟨x, y, zz', e1, e2, e3, b1, b2, b3, b4, b5, b6⟩ := kv.2 w hw8
          have sb := shr_bit K.2.2.2 (show w < 32 by omega)
          simp only [s78_102, s78_104, s78_106, if_neg (le8 hw8)]
          simp only [s78_109, s78_111, s78_113, s78_115, s78_116, s78_118, s78_119, s78_120, i8, nI_add, k3, oB_some]
          by_cases c : 0 < K.1 w
          · rw [if_neg (Int32.not_le.mpr c)]
            have d1 : decide (0 < K.1 w) = true := decide_eq_true c
            simp only [d1, if_true, if_pos c] at zz
            have row := @c_avRow G h S H tc A u st po P hP hW hR v w (sm K.2.2.1 w + K.2.2.1 w) (obits (fun w => decide (0 < K.1 w)) w ||| ((1 : Int32) <<< (nI w &&& 31))) (sm K.2.1 w + K.2.1 w) 0 a17 hv6 hw8 tv (fun r g => r = some (.int 1) ∧ g = h)
            rw [← hK] at row
            simp only [if_pos c] at row
            simp only [s78_123, s78_124, s78_127, s78_128, s78_130, s78_132, s78_134, n10', if_false]
            simp only [s78_137, s78_139, s78_141, s78_143, s78_144, s78_146, s78_147, s78_148, s78_151, s78_152, s78_153, s78_155, s78_157, s78_159, i8, nI_add, k4, oB_some, n10', if_false]
            simp only [s78_162, s78_164, s78_166, s78_168, s78_169, s78_171, s78_172, s78_173, s78_176, s78_177, s78_178, s78_180, s78_182, s78_184, i8, nI_add, k5, oB_some, n10', if_false]
            simp only [s78_187, s78_188, s78_190, s78_191, s78_194, s78_195, s78_196]
            refine row (fun v17' => ?_)
            have gf : K.2.2.2 >>> (nI w &&& 31) &&& 1 = 0 := by
              rcases and01 (K.2.2.2 >>> (nI w &&& 31)) with q | q
              · exact q
              · have := (b6 (sb.mp q)).1
                rw [e1, this] at c
                exact absurd c (by decide)
            simp only [s78_306, s78_308, if_neg n10', s78_311, s78_313, if_neg n10', s78_316, s78_317, s78_319, s78_320, s78_322, s78_323, s78_324, s78_325, l2, oB_some, gf, not_true, if_false]
            simp only [s78_328, s78_329, s78_332, s78_333, s78_335, s78_338, nI_1]
            exact zz _
          · rw [if_pos (Int32.not_lt.mp c)]
            have d1 : ¬ decide (0 < K.1 w) = true := by simp [c]
            have x0 : x = 0 := by
              apply Classical.byContradiction
              intro q
              apply c
              rw [e1]
              exact nI_lt (a := 0) (by omega) (by omega)
            obtain ⟨y0, z0⟩ := b4 x0
            have m1 : K.2.1 w = 0 := by rw [e2, y0]; rfl
            have m2 : K.2.2.1 w = 0 := by rw [e3, z0]; rfl
            simp only [if_neg d1, if_neg c, m1, m2, Int32.add_zero] at zz
            have row := @c_avRow G h S H tc A u st po P hP hW hR v w (sm K.2.2.1 w) (obits (fun w => decide (0 < K.1 w)) w) (sm K.2.1 w) 0 a17 hv6 hw8 tv (fun r g => r = some (.int 1) ∧ g = h)
            rw [← hK] at row
            simp only [if_neg c] at row
            simp only [s78_127, s78_128, s78_130, s78_132, s78_134, if_true]
            simp only [s78_151, s78_152, s78_153, s78_155, s78_157, s78_159, if_true, Int32.add_zero]
            simp only [s78_176, s78_177, s78_178, s78_180, s78_182, s78_184, if_true, Int32.add_zero]
            simp only [s78_194, s78_195, s78_196, or0]
            refine row (fun v17' => ?_)
            simp only [s78_306, s78_308, if_neg n10', s78_311, s78_313, if_true]
            simp only [s78_328, s78_329, s78_332, s78_333, s78_335, s78_338, nI_1]
            exact zz _
      simp only [s78_87, s78_88, s78_90, s78_91, s78_93, s78_94, s78_96, s78_97, s78_99, s78_100]
      exact parts 8 0 _ _ rfl
  obtain ⟨w1, w2⟩ := av_6 S
  simp only [s78_0, s78_1, s78_3, s78_4, s78_e, hio, p_viewOf hP, w1, Option.toList_some, List.cons_append, List.nil_append, s78_7, s78_9, eq_self, not_true, if_false]
  simp only [s78_12, s78_13, s78_14, s78_15, hio, p_viewOf hP, w2, Option.toList_some, List.cons_append, List.nil_append, s78_18, s78_20, eq_self, not_true, if_false]
  simp only [s78_23, s78_24, s78_27, s78_28, s78_30, s78_31]
  exact loop 6 0 _ _ _ _ _ _ _ rfl
end AV
