/-! The model: what all know together; which view lacks most. -/
def KE (K O : Kn) : Prop := (∀ w, w < 8 → K.1 w = O.1 w ∧ K.2.1 w = O.2.1 w ∧ K.2.2.1 w = O.2.2.1 w) ∧ K.2.2.2 = O.2.2.2
theorem MK.ke {s : Nat → Int32} {b : Nat} {K O : Kn} (h : MK s b K) (e : KE K O) : MK s b O := ⟨h.1.trans e.2, fun w hw => ⟨(h.2 w hw).1.trans (e.1 w hw).1, (h.2 w hw).2.1.trans (e.1 w hw).2.1, (h.2 w hw).2.2.trans (e.1 w hw).2.2⟩⟩
theorem KV.nil {G c : Nat} {R : Nat → Bool} {a : Nat → Nat} : KV G c R a kNil := by
  refine ⟨⟨fun _ => false, by simp [kNil, obits]⟩, fun w hw => ⟨0, 0, 0, rfl, rfl, rfl, Nat.zero_le _, Nat.zero_le _, Nat.zero_le _, fun _ => ⟨rfl, rfl⟩, fun _ => rfl, fun q => ?_⟩⟩
  have : gb (0 : Int32) w = false := by rw [gb_bt _ (by omega), b_zero]
  have q' : gb (0 : Int32) w = true := q
  rw [this] at q'; cases q'
theorem KE.nil {G c : Nat} {R : Nat → Bool} {a : Nat → Nat} {K : Kn} (h : KV G c R a K) (hG : G ≤ 40000) : KE K (kTk kNil K) := by
  have h0 : (0 : Int32) ||| K.2.2.2 = K.2.2.2 := Int32.zero_or
  refine ⟨fun w hw => ?_, ?_⟩
  · obtain ⟨x, y, z, e1, e2, e3, b1, b2, b3, b4, b5, b6⟩ := h.2 w hw
    show K.1 w = pick kNil K w 0 (K.1 w) ∧ K.2.1 w = pick kNil K w 0 (K.2.1 w) ∧ K.2.2.1 w = pick kNil K w 0 (K.2.2.1 w)
    unfold pick
    show K.1 w = (if gb (0 ||| K.2.2.2) w = true then 0 else if (0 : Int32) < K.1 w then K.1 w else 0) ∧ K.2.1 w = (if gb (0 ||| K.2.2.2) w = true then 0 else if (0 : Int32) < K.1 w then K.2.1 w else 0) ∧ K.2.2.1 w = (if gb (0 ||| K.2.2.2) w = true then 0 else if (0 : Int32) < K.1 w then K.2.2.1 w else 0)
    rw [h0]
    by_cases c : gb K.2.2.2 w = true
    · have x0 := (b6 c).1
      rw [if_pos c, if_pos c, if_pos c, e1, e2, e3, x0, (b4 x0).1, (b4 x0).2]
      exact ⟨rfl, rfl, rfl⟩
    · rw [if_neg c, if_neg c, if_neg c]
      by_cases x0 : x = 0
      · rw [e1, e2, e3, x0, (b4 x0).1, (b4 x0).2]
        exact ⟨rfl, rfl, rfl⟩
      · have : (0 : Int32) < K.1 w := by
          rw [e1, i_lt, nI_toInt (by omega)]
          show (0 : Int) < _
          omega
        rw [if_pos this, if_pos this, if_pos this]
        exact ⟨rfl, rfl, rfl⟩
  · exact h0.symm
theorem kCt_nI (K O : Kn) : ∃ m, m ≤ 8 ∧ kCt K O = nI m := ⟨_, cn_le _ 8, cntI_cn _ 8⟩
theorem wh_nil {S : St} : ∀ n, (∀ i, i < n → S.th i = false) → wh S n = kNil := by
  intro n
  induction n with
  | zero => intro _; rfl
  | succ n ih =>
    intro h
    unfold wh
    rw [if_neg (by rw [h n (by omega)]; exact Bool.false_ne_true)]
    exact ih (fun i hi => h i (by omega))
theorem late_m1 (S : St) : ∀ n, (-1 : Int32) ≤ (late S n).2 := by
  intro n
  induction n with
  | zero => exact Int32.le_refl _
  | succ n ih =>
    unfold late
    by_cases c : (if S.th n = true then lackA S n 6 else -1) ≤ (late S n).2
    · rw [if_pos c]; exact ih
    · rw [if_neg c]
      exact Int32.le_of_lt (Int32.lt_of_le_of_lt ih (Int32.not_le.mp c))
section MWH
variable {h h' : AHp} {F s : Nat → Int32} {A : Ar} {S : St} {n G : Nat} {td : Nat → Nat}
theorem m_whole (hM : HM h F s A) (hL : ML s S n td) (hi : IV G S) (hG : G ≤ 40000) (he : ∃ v, v < 6 ∧ S.th v = true) : Call 134 [.ref 423] h (fun rv h' => rv = some (.int (kSum (wh S 6))) ∧ (∃ t, HM h' F s (A.1, A.2.1, t, A.2.2.2)) ∧ Fr 423 430 h h') := by
  obtain ⟨f, hf⟩ : ∃ f, f = nxt S.th 5 := ⟨_, rfl⟩
  have hfs := nxt_spec (p := S.th) (v := 5) (by decide) he
  rw [← hf] at hfs
  have hnf : ∀ i, i < f → S.th i = false := by
    obtain ⟨u, hu, hp⟩ := he
    intro i hi
    apply Classical.byContradiction
    intro c
    have c : S.th i = true := by simpa using c
    -- the lowest one
    have low : ∀ d i, i + d = 6 → True := fun _ _ _ => trivial
    have key : ∀ k, k < 6 → S.th k = true → ∃ j, j ≤ k ∧ S.th j = true ∧ ∀ i, i < j → S.th i = false := by
      intro k
      induction k using Nat.strongRecOn with
      | _ k ih =>
        intro hk hp
        by_cases q : ∃ j, j < k ∧ S.th j = true
        · obtain ⟨j, j1, j2⟩ := q
          obtain ⟨l, l1, l2, l3⟩ := ih j j1 (by omega) j2
          exact ⟨l, by omega, l2, l3⟩
        · refine ⟨k, Nat.le_refl _, hp, fun i hi => ?_⟩
          cases hq : S.th i with
          | false => rfl
          | true => exact absurd ⟨i, hi, hq⟩ q
    obtain ⟨j, j1, j2, j3⟩ := key i (by omega) c
    have := first_eq (show j < 6 by omega) j2 j3
    omega
  obtain ⟨a, h1, h2, h3, h4, h5⟩ := hi
  have hwh : ∀ k, k ≤ 6 → KV G (S.ct 0) (rt S) a (wh S k) := by
    intro k
    induction k with
    | zero => intro _; exact KV.nil
    | succ k ih =>
      intro hk
      unfold wh
      split
      · exact (ih (by omega)).tk (h1 k (by omega))
      · exact ih (by omega)
  simp only [s134_0, s134_1, s134_4, s134_5, s134_8, s134_e, hM.f, oB_some]
  refine Call.mono (m_save hM) ?_
  rintro rv h1' ⟨rfl, k1, r1⟩
  simp only [Option.toList_none, List.nil_append, s134_11, s134_12, s134_15, s134_16, s134_17, s134_18, s134_19, k1.f, m_first k1 hL he, Option.toList_some, List.cons_append]
  rw [← hf]
  have loop : ∀ d v m (hh : AHp) (s1 : Nat → Int32), v + d = 6 → m ≤ 8 * v → HM hh F s1 (A.1, A.2.1, s, A.2.2.2) → MK s1 (9 + 26 * f) (if v ≤ f then S.vk f else wh S v) → (∀ i, (i < 9 + 26 * f ∨ 9 + 26 * f + 25 ≤ i) → s1 i = s i) → Fr 423 430 h hh →
      Ev none 134 20 [.ref 423, .int (nI f), .int (nI m), .int (nI v)] [] hh (fun rv h' => rv = some (.int (kSum (wh S 6))) ∧ (∃ t, HM h' F s (A.1, A.2.1, t, A.2.2.2)) ∧ Fr 423 430 h h') := by
    intro d
    induction d with
    | zero =>
      intro v m hh s1 hv hm z1 z2 z3 z4
      obtain rfl : v = 6 := by omega
      rw [if_neg (by omega)] at z2
      have hz := (hwh 6 (Nat.le_refl _)).kz hG
      simp only [s134_20, s134_21, s134_23, if_pos (show (6 : Int32) ≤ nI 6 by decide)]
      simp only [s134_64, s134_65, if_pos (show (0 : Int32) ≤ nI m from nI_pos' (by omega))]
      simp only [s134_73, s134_74, s134_75, s134_78, s134_79, s134_82, s134_83, s134_84, s134_87, s134_88, s134_91, z1.f, m_knows, m_sum0 z1 z2 hz (by omega), Option.toList_some, List.cons_append, List.nil_append, oB_some]
      refine Call.mono (m_back z1) ?_
      rintro rv h3 ⟨rfl, k3, r3⟩
      simp only [Option.toList_none, List.nil_append, s134_94, s134_95]
      exact ⟨by first | trivial | rfl, ⟨s, k3⟩, z4.tr r3⟩
    | succ d ih =>
      intro v m hh s1 hv hm z1 z2 z3 z4
      have hv6 : v < 6 := by omega
      have hLs : ML s1 (sVK S (va_up S.vk f (if v ≤ f then S.vk f else wh S v))) n td := hL.setK hfs.1 z2 z3
      have skip : MK s1 (9 + 26 * f) (if v + 1 ≤ f then S.vk f else wh S (v + 1)) → Ev none 134 55 [.ref 423, .int (nI f), .int (nI m), .int (nI v)] [.int (nI m)] hh (fun rv h' => rv = some (.int (kSum (wh S 6))) ∧ (∃ t, HM h' F s (A.1, A.2.1, t, A.2.2.2)) ∧ Fr 423 430 h h') := by
        intro q
        simp only [s134_55, s134_56, s134_57, s134_58, s134_61, Int32.add_zero, nI_1]
        exact ih (v + 1) m hh s1 (by omega) (by omega) z1 q z3 z4
      simp only [s134_20, s134_21, s134_23, if_neg (le6 hv6)]
      simp only [s134_26, s134_27, s134_28, s134_29, s134_32, z1.f, m_isView z1 hLs, Option.toList_some, List.cons_append, List.nil_append]
      rw [hv_nI hv6]
      by_cases c : S.th v = true
      · have hfv : f ≤ v := by
          apply Classical.byContradiction
          intro q
          rw [hnf v (by omega)] at c; cases c
        rw [if_pos c, if_neg (show ¬ (1 : Int32) = 0 by decide)]
        simp only [s134_35, s134_36, s134_37, nI_eq (show v < 2147483648 by omega) (show f < 2147483648 by omega)]
        by_cases e : v = f
        · rw [if_pos e]
          refine skip ?_
          rw [if_neg (by omega)]
          rw [if_pos (by omega)] at z2
          unfold wh
          rw [if_pos c, wh_nil v (fun i hi => hnf i (by omega)), e]
          exact z2.ke (KE.nil (h1 f hfs.1) hG)
        · rw [if_neg e]
          rw [if_neg (by omega)] at z2
          have hku : MK s1 (9 + 26 * v) (S.vk v) := (hL.2.2.2.2.2.2.1 v hv6).2.2.2.eq (fun i a1 a2 => z3 i (by omega))
          simp only [s134_40, s134_41, s134_42, s134_45, s134_46, s134_49, z1.f, m_knows, Option.toList_some, List.cons_append, List.nil_append]
          refine Call.mono (m_takesIn z1 z2 hku (by omega) (by omega) (by omega)) ?_
          rintro rv h2' ⟨rfl, ⟨s2, k2, m2, e2⟩, r2⟩
          obtain ⟨j, hj, ej⟩ := kCt_nI (wh S v) (S.vk v)
          simp only [Option.toList_some, List.cons_append, List.nil_append, s134_52, s134_56, s134_57, s134_58, s134_61, ej, nI_add, nI_1]
          refine ih (v + 1) (m + j) h2' s2 (by omega) (by omega) k2 ?_ (fun i hi => (e2 i hi).trans (z3 i hi)) (z4.tr r2)
          rw [if_neg (by omega)]
          unfold wh
          rw [if_pos c]
          exact m2
      · rw [if_neg c, if_pos rfl]
        refine skip ?_
        by_cases e : v < f
        · rw [if_pos (by omega)]
          rw [if_pos (by omega)] at z2
          exact z2
        · have : v ≠ f := fun q => by rw [q] at c; exact c hfs.2
          rw [if_neg (by omega)]
          rw [if_neg (by omega)] at z2
          unfold wh
          rw [if_neg c]
          exact z2
  exact loop 6 0 0 h1' s rfl (Nat.le_refl _) k1 (by rw [if_pos (Nat.zero_le _)]; exact (hL.2.2.2.2.2.2.1 f hfs.1).2.2.2) (fun i _ => rfl) r1
theorem m_latest (hM : HM h F s A) (hL : ML s S n td) (hi : IV G S) (hG : G ≤ 40000) (y : Int32) : Call 139 [.ref 423, .int y] h (fun rv h' => rv = some (.int (aLatest S y)) ∧ (∃ t, HM h' F s (A.1, A.2.1, t, A.2.2.2)) ∧ Fr 423 430 h h') := by
  simp only [s139_0, s139_1, s139_2, s139_3, s139_6, s139_e, m_in, Option.toList_some, List.cons_append, List.nil_append]
  unfold aLatest
  by_cases cy : 0 ≤ y ∧ y ≤ 1
  · rw [if_pos cy, if_pos (show ¬ (1 : Int32) = 0 by decide), if_neg (fun q => q cy)]
    have outer : ∀ d v (hh : AHp) (t : Nat → Int32) (v5 v6 : Value), v + d = 6 → HM hh F s (A.1, A.2.1, t, A.2.2.2) → Fr 423 430 h hh →
        Ev none 139 19 [.ref 423, .int y, .int (late S v).1, .int (late S v).2, .int (nI v), v5, v6] [] hh (fun rv h' => rv = some (.int (if y = 0 then (late S 6).1 else (late S 6).2)) ∧ (∃ t, HM h' F s (A.1, A.2.1, t, A.2.2.2)) ∧ Fr 423 430 h h') := by
      intro d
      induction d with
      | zero =>
        intro v hh t v5 v6 hv z1 z2
        obtain rfl : v = 6 := by omega
        simp only [s139_19, s139_21, s139_23, if_pos (show (6 : Int32) ≤ nI 6 by decide)]
        simp only [s139_140, s139_141]
        by_cases y0 : y = 0
        · rw [if_pos y0, if_neg (fun q => q y0)]
          simp only [s139_144, s139_145, s139_149]
          exact ⟨by first | trivial | rfl, ⟨t, z1⟩, z2⟩
        · rw [if_neg y0, if_pos y0]
          simp only [s139_148, s139_149]
          exact ⟨by first | trivial | rfl, ⟨t, z1⟩, z2⟩
      | succ d ih =>
        intro v hh t v5 v6 hv z1 z2
        have hv6 : v < 6 := by omega
        have tail : ∀ (x : Int32) (h2 : AHp) (t2 : Nat → Int32) (w6 : Value), (S.th v = true → x = lackA S v 6) → HM h2 F s (A.1, A.2.1, t2, A.2.2.2) → Fr 423 430 h h2 →
            Ev none 139 88 [.ref 423, .int y, .int (late S v).1, .int (late S v).2, .int (nI v), .int x, w6] [] h2 (fun rv h' => rv = some (.int (if y = 0 then (late S 6).1 else (late S 6).2)) ∧ (∃ t, HM h' F s (A.1, A.2.1, t, A.2.2.2)) ∧ Fr 423 430 h h') := by
          intro x h2 t2 w6 hx y1 y2
          have nolt : (if S.th v = true then lackA S v 6 else -1) ≤ (late S v).2 → Ev none 139 107 [.ref 423, .int y, .int (late S v).1, .int (late S v).2, .int (nI v), .int x, w6] [] h2 (fun rv h' => rv = some (.int (if y = 0 then (late S 6).1 else (late S 6).2)) ∧ (∃ t, HM h' F s (A.1, A.2.1, t, A.2.2.2)) ∧ Fr 423 430 h h') := by
            intro q
            have z := fun v5 v6 => ih (v + 1) h2 t2 v5 v6 (by omega) y1 y2
            rw [show late S (v + 1) = late S v from if_pos q] at z
            simp only [s139_107, s139_108, s139_110, s139_112, if_pos trivial, s139_120, s139_121, s139_122, s139_124, s139_132, s139_133, s139_134, s139_137, nI_1]
            exact z _ _
          simp only [s139_88, s139_89, s139_91, s139_94, y1.f, m_isView y1 hL, hv_nI hv6, Option.toList_some, List.cons_append, List.nil_append]
          by_cases c : S.th v = true
          · rw [if_pos c, if_neg (show ¬ (1 : Int32) = 0 by decide)]
            simp only [s139_97, s139_99, s139_100]
            have hx := hx c
            by_cases cl : x ≤ (late S v).2
            · rw [if_pos cl]
              exact nolt (by rw [if_pos c, ← hx]; exact cl)
            · rw [if_neg cl]
              have z := fun v5 v6 => ih (v + 1) h2 t2 v5 v6 (by omega) y1 y2
              rw [show late S (v + 1) = (nI v, x) by
                show (if (if S.th v = true then lackA S v 6 else -1) ≤ (late S v).2 then late S v else (nI v, if S.th v = true then lackA S v 6 else -1)) = _
                rw [if_pos c, ← hx, if_neg cl]] at z
              simp only [s139_103, s139_104, s139_108, s139_110, s139_112, if_neg (show ¬ (1 : Int32) = 0 by decide), s139_115, s139_117, s139_121, s139_122, s139_124, s139_127, s139_129, s139_133, s139_134, s139_137, nI_1]
              exact z _ _
          · rw [if_neg c, if_pos rfl]
            exact nolt (by rw [if_neg c]; exact late_m1 S v)
        have inner : ∀ e u (h2 : AHp) (t2 : Nat → Int32), u + e = 6 → HM h2 F s (A.1, A.2.1, t2, A.2.2.2) → Fr 423 430 h h2 →
            Ev none 139 32 [.ref 423, .int y, .int (late S v).1, .int (late S v).2, .int (nI v), .int (if S.th v = true then lackA S v u else 0), .int (nI u)] [] h2 (fun rv h' => rv = some (.int (if y = 0 then (late S 6).1 else (late S 6).2)) ∧ (∃ t, HM h' F s (A.1, A.2.1, t, A.2.2.2)) ∧ Fr 423 430 h h') := by
          intro e
          induction e with
          | zero =>
            intro u h2 t2 hu y1 y2
            obtain rfl : u = 6 := by omega
            simp only [s139_32, s139_34, s139_36, if_pos (show (6 : Int32) ≤ nI 6 by decide)]
            exact tail _ h2 t2 _ (fun q => if_pos q) y1 y2
          | succ e ihe =>
            intro u h2 t2 hu y1 y2
            have hu6 : u < 6 := by omega
            simp only [s139_32, s139_34, s139_36, if_neg (le6 hu6)]
            simp only [s139_39, s139_40, s139_42, s139_45, y1.f, m_isView y1 hL, hv_nI hv6, Option.toList_some, List.cons_append, List.nil_append]
            by_cases c : S.th v = true
            · rw [if_pos c, if_neg (show ¬ (1 : Int32) = 0 by decide), if_pos c]
              have z := fun h2 t2 => ihe (u + 1) h2 t2 (by omega)
              rw [if_pos c] at z
              have skip : (u = v ∨ ¬ S.th u = true) → Ev none 139 78 [.ref 423, .int y, .int (late S v).1, .int (late S v).2, .int (nI v), .int (lackA S v u), .int (nI u)] [.int (lackA S v u)] h2 (fun rv h' => rv = some (.int (if y = 0 then (late S 6).1 else (late S 6).2)) ∧ (∃ t, HM h' F s (A.1, A.2.1, t, A.2.2.2)) ∧ Fr 423 430 h h') := by
                intro q
                rw [show lackA S v (u + 1) = lackA S v u from if_pos q] at z
                simp only [s139_78, s139_79, s139_80, s139_82, s139_85, Int32.add_zero, nI_1]
                exact z h2 t2 y1 y2
              simp only [s139_48, s139_50, s139_51, s139_53, s139_56, y1.f, m_isView y1 hL, hv_nI hu6, Option.toList_some, List.cons_append, List.nil_append]
              by_cases c2 : S.th u = true
              · rw [if_pos c2, if_neg (show ¬ (1 : Int32) = 0 by decide)]
                simp only [s139_59, s139_61, s139_63, nI_eq (show u < 2147483648 by omega) (show v < 2147483648 by omega)]
                by_cases c3 : u = v
                · rw [if_pos c3]
                  exact skip (Or.inl c3)
                · rw [if_neg c3]
                  simp only [s139_66, s139_67, s139_69, s139_71, s139_72, y1.f]
                  refine Call.mono (m_lacking y1 hL hi hG hv6 hu6 (fun q => c3 q.symm) 0) ?_
                  rintro rv h3 ⟨rfl, ⟨t3, k3⟩, r3⟩
                  have el : lackAns (S.vk v) (S.vk u) 0 = kCt (S.vk v) (S.vk u) := if_pos rfl
                  rw [show lackA S v (u + 1) = lackA S v u + kCt (S.vk v) (S.vk u) from if_neg (fun q => q.elim c3 (fun q => q c2))] at z
                  simp only [Option.toList_some, List.cons_append, List.nil_append, s139_75, s139_79, s139_80, s139_82, s139_85, el, nI_1]
                  exact z h3 t3 k3 (y2.tr r3)
              · rw [if_neg c2, if_pos rfl]
                exact skip (Or.inr c2)
            · rw [if_neg c, if_pos rfl, if_neg c]
              exact tail _ h2 t2 _ (fun q => absurd q c) y1 y2
        simp only [s139_19, s139_21, s139_23, if_neg (le6 hv6)]
        simp only [s139_26, s139_27, s139_29, s139_30]
        have := inner 6 0 hh t rfl z1 z2
        have e0 : (if S.th v = true then lackA S v 0 else 0) = 0 := by split <;> rfl
        rw [e0] at this
        exact this
    simp only [s139_12, s139_13, s139_14, s139_15, s139_16, s139_17]
    exact outer 6 0 h A.2.2.1 _ _ rfl hM Fr.rf
  · rw [if_neg cy, if_neg (show ¬ ¬ (0 : Int32) = 0 by decide), if_pos cy]
    simp only [s139_9, s139_11]
    exact ⟨by first | trivial | rfl, ⟨A.2.2.1, hM⟩, Fr.rf⟩
end MWH
