/-! The class's outer object: the answers that need the scratch. -/
def aLacks (S : St) (x z y : Int32) : Int32 := match ix x 6, ix z 6 with
  | some v, some u => if ¬ S.th v = true ∨ ¬ S.th u = true ∨ v = u then eI else if y = 0 then kCt (S.vk v) (S.vk u) else if y = 1 then kSum (kTk (S.vk v) (S.vk u)) - kSum (S.vk v) else if y = 2 then bI (kEq (kTk (S.vk v) (S.vk u)) (S.vk u)) else eI
  | _, _ => eI
def lackA (S : St) (v : Nat) : Nat → Int32
  | 0 => 0
  | n + 1 => if n = v ∨ ¬ S.th n = true then lackA S v n else lackA S v n + kCt (S.vk v) (S.vk n)
def late (S : St) : Nat → Int32 × Int32
  | 0 => (-1, -1)
  | n + 1 => if (if S.th n = true then lackA S n 6 else -1) ≤ (late S n).2 then late S n else (nI n, if S.th n = true then lackA S n 6 else -1)
def aLatest (S : St) (y : Int32) : Int32 := if ¬ (0 ≤ y ∧ y ≤ 1) then eI else if y = 0 then (late S 6).1 else (late S 6).2
def wl (S : St) (v : Nat) (y : Int32) (K : Kn) (M : Lt) : Kn := if M.2.1 = v ∧ ¬ M.2.2.2.1 = true ∧ nI M.2.2.1 ≤ nI (S.ct 1) + y then kTk K M.2.2.2.2 else K
def aWould (S : St) (x y : Int32) : Int32 := match ix x 6 with
  | none => eI
  | some v => if ¬ S.th v = true ∨ ¬ (0 ≤ y ∧ y ≤ 99) then eI else kSum (S.lt.foldl (wl S v y) (S.vk v))
def wh (S : St) : Nat → Kn
  | 0 => kNil
  | n + 1 => if S.th n = true then kTk (wh S n) (S.vk n) else wh S n
section SC
variable {h h' : AHp} {S T : St} {H : List St} {tn : Nat} {tc : Nat → Int32}
theorem p_try (hP : HP h S H tn tc) {v u : Nat} (hv : v < 6) (hu : u < 6) : Call 83 [.ref 0, .int (nI v), .int (nI u)] h (fun rv h' => rv = some (.int (kCt (S.vk v) (S.vk u))) ∧ HP h' S H tn tc ∧ HK h' 140 (kTk (S.vk v) (S.vk u)) ∧ Fr 140 144 h h') := by
  obtain ⟨a, b, hS, b1, b2, b3, f0, f1, f2, f3, f4, f5, fo⟩ := hP.f
  obtain ⟨K, hK⟩ := hP.K
  simp only [s83_0, s83_1, s83_4, s83_5, s83_8, s83_11, s83_12, s83_13, s83_e, f0, f4, oB_some, hS.f, hS.vq hv, hK.f]
  refine Call.mono (c_copyK hK (hS.vK hv) (by omega)) ?_
  rintro rv h1 ⟨rfl, k1, r1⟩
  have hP1 := hP.setK k1 r1
  obtain ⟨a, b, hS, b1, b2, b3, f0, f1, f2, f3, f4, f5, fo⟩ := hP1.f
  simp only [s83_16, s83_17, s83_20, s83_21, s83_24, s83_27, s83_28, s83_29, f0, f4, oB_some, hS.f, hS.vq hu, k1.f, Option.toList_none, List.nil_append]
  refine Call.mono (c_takeIn k1 (hS.vK hu) (by omega)) ?_
  rintro rv h2 ⟨rfl, k2, r2⟩
  simp only [s83_32, Option.toList_some, List.cons_append, List.nil_append]
  exact ⟨trivial, hP1.setK k2 r2, k2, r1.tr r2⟩
theorem p_lacks (hP : HP h S H tn tc) (x z y : Int32) : Call 69 [.ref 0, .int x, .int z, .int y] h (fun rv h' => rv = some (.int (aLacks S x z y)) ∧ HP h' S H tn tc ∧ Fr 0 423 h h') := by
  obtain ⟨a, b, hS, b1, b2, b3, f0, f1, f2, f3, f4, f5, fo⟩ := hP.f
  have bad : aLacks S x z y = eI → Ev none 69 27 [.ref 0, .int x, .int z, .int y, .long 0] [] h (fun rv h' => rv = some (.int (aLacks S x z y)) ∧ HP h' S H tn tc ∧ Fr 0 423 h h') := by
    intro e
    rw [e]
    simp only [s69_27, s69_29]
    exact ⟨rfl, hP, Fr.rf⟩
  simp only [s69_0, s69_1, s69_4, s69_5, s69_8, s69_e, f0, oB_some, hS.f, c_hasView hS x, Option.toList_some, List.cons_append, List.nil_append]
  rcases ix_cases x 6 with hx | ⟨v, hv6, rfl⟩
  · have e : hv S x = false := by unfold hv; rw [hx]
    rw [e, if_neg (show ¬ false = true by decide), if_pos rfl]
    exact bad (by unfold aLacks; rw [hx])
  rw [hv_nI hv6]
  by_cases c1 : S.th v = true
  · rw [if_pos c1, if_neg (show ¬ (1 : Int32) = 0 by decide)]
    simp only [s69_11, s69_12, s69_15, s69_16, s69_19, f0, oB_some, hS.f, c_hasView hS z, Option.toList_some, List.cons_append, List.nil_append]
    rcases ix_cases z 6 with hz | ⟨u, hu6, rfl⟩
    · have e : hv S z = false := by unfold hv; rw [hz]
      rw [e, if_neg (show ¬ false = true by decide), if_pos rfl]
      exact bad (by unfold aLacks; rw [hz, ix_nI hv6 (by decide)])
    rw [hv_nI hu6]
    have e0 : aLacks S (nI v) (nI u) y = if ¬ S.th v = true ∨ ¬ S.th u = true ∨ v = u then eI else if y = 0 then kCt (S.vk v) (S.vk u) else if y = 1 then kSum (kTk (S.vk v) (S.vk u)) - kSum (S.vk v) else if y = 2 then bI (kEq (kTk (S.vk v) (S.vk u)) (S.vk u)) else eI := by
      unfold aLacks; rw [ix_nI hv6 (by decide), ix_nI hu6 (by decide)]
    by_cases c2 : S.th u = true
    · rw [if_pos c2, if_neg (show ¬ (1 : Int32) = 0 by decide)]
      simp only [s69_22, s69_23, s69_24, nI_eq (show v < 2147483648 by omega) (show u < 2147483648 by omega)]
      by_cases c3 : v = u
      · rw [if_neg (fun q => q c3)]
        exact bad (by rw [e0, if_pos (Or.inr (Or.inr c3))])
      · rw [if_pos c3]
        rw [if_neg (show ¬ (¬ S.th v = true ∨ ¬ S.th u = true ∨ v = u) from fun q => q.elim (fun q => q c1) (fun q => q.elim (fun q => q c2) c3))] at e0
        rw [e0]
        simp only [s69_30, s69_31, s69_32, s69_33, fo]
        refine Call.mono (p_try hP hv6 hu6) ?_
        rintro rv h2 ⟨rfl, hP2, k2, r2⟩
        have r3 : Fr 0 423 h h2 := r2.up (by omega) (by omega)
        obtain ⟨a, b, hS, b1, b2, b3, f0, f1, f2, f3, f4, f5, fo⟩ := hP2.f
        have hKv := hS.vK hv6
        have hKu := hS.vK hu6
        simp only [s69_36, s69_38, Option.toList_some, List.cons_append, List.nil_append]
        by_cases y0 : y = 0
        · subst y0
          simp only [s69_39_0, s69_64, s69_66]
          exact ⟨rfl, hP2, r3⟩
        by_cases y1 : y = 1
        · subst y1
          simp only [s69_39_1, s69_67, s69_68, s69_71, s69_74, s69_75, s69_78, s69_81, s69_82, s69_83, s69_86, s69_87, f0, f4, oB_some, hS.f, hS.vq hv6, k2.f, hKv.f, c_sum k2, c_sum hKv, Option.toList_some, List.cons_append, List.nil_append]
          exact ⟨rfl, hP2, r3⟩
        by_cases y2 : y = 2
        · subst y2
          simp only [s69_39_2, s69_88, s69_89, s69_92, s69_93, s69_96, s69_99, s69_100, s69_101, s69_104, f0, f4, oB_some, hS.f, hS.vq hu6, k2.f, hKu.f, c_knowsTheSameAs k2 hKu, Option.toList_some, List.cons_append, List.nil_append]
          by_cases ck : kEq (kTk (S.vk v) (S.vk u)) (S.vk u) = true
          · rw [if_pos ck, if_neg (show ¬ (1 : Int32) = 0 by decide)]
            simp only [s69_107, s69_108, s69_112]
            refine ⟨?_, hP2, r3⟩
            simp [bI, ck]
          · rw [if_neg ck, if_pos rfl]
            simp only [s69_111, s69_112]
            refine ⟨?_, hP2, r3⟩
            simp [bI, ck]
        simp only [s69_39_d (sw_3 y0 y1 y2), s69_113, s69_115]
        rw [if_neg y0, if_neg y1, if_neg y2]
        exact ⟨rfl, hP2, r3⟩
    · rw [if_neg c2, if_pos rfl]
      exact bad (by rw [e0, if_pos (Or.inr (Or.inl c2))])
  · rw [if_neg c1, if_pos rfl]
    refine bad ?_
    unfold aLacks
    rw [ix_nI hv6 (by decide)]
    cases ix z 6 with
    | none => rfl
    | some u => exact if_pos (Or.inl c1)
theorem p_lackA (hP : HP h S H tn tc) {v : Nat} (hv : v < 6) : Call 84 [.ref 0, .int (nI v)] h (fun rv h' => rv = some (.int (lackA S v 6)) ∧ HP h' S H tn tc ∧ Fr 140 144 h h') := by
  have loop : ∀ d u (hh : AHp), u + d = 6 → HP hh S H tn tc → Fr 140 144 h hh → Ev none 84 4 [.ref 0, .int (nI v), .int (lackA S v u), .int (nI u)] [] hh (fun rv h' => rv = some (.int (lackA S v 6)) ∧ HP h' S H tn tc ∧ Fr 140 144 h h') := by
    intro d
    induction d with
    | zero =>
      intro u hh hu hP1 r1
      obtain rfl : u = 6 := by omega
      simp only [s84_4, s84_5, s84_7, s84_41, s84_42, if_pos (show (6 : Int32) ≤ nI 6 by decide)]
      exact ⟨trivial, hP1, r1⟩
    | succ d ih =>
      intro u hh hu hP1 r1
      have hu6 : u < 6 := by omega
      obtain ⟨a, b, hS, b1, b2, b3, f0, f1, f2, f3, f4, f5, fo⟩ := hP1.f
      simp only [s84_4, s84_5, s84_7, if_neg (le6 hu6)]
      simp only [s84_10, s84_11, s84_12, nI_eq (show u < 2147483648 by omega) (show v < 2147483648 by omega)]
      by_cases c : u = v
      · have e : lackA S v (u + 1) = lackA S v u := if_pos (Or.inl c)
        have q := ih (u + 1) hh (by omega) hP1 r1
        rw [e] at q
        rw [if_pos c]
        simp only [s84_35, s84_38, nI_s]
        exact q
      · rw [if_neg c]
        simp only [s84_15, s84_16, s84_19, s84_20, s84_23, f0, oB_some, hS.f, c_hasView hS, hv_nI hu6, Option.toList_some, List.cons_append, List.nil_append]
        by_cases c2 : S.th u = true
        · have e : lackA S v (u + 1) = lackA S v u + kCt (S.vk v) (S.vk u) := if_neg (fun q => q.elim c (fun q => q c2))
          rw [if_pos c2, if_neg (show ¬ (1 : Int32) = 0 by decide)]
          simp only [s84_26, s84_27, s84_28, s84_29, s84_30, fo]
          refine Call.mono (p_try hP1 hv hu6) ?_
          rintro rv h2 ⟨rfl, hP2, -, r2⟩
          have q := ih (u + 1) h2 (by omega) hP2 (r1.tr r2)
          rw [e] at q
          simp only [s84_33, s84_34, s84_35, s84_38, nI_s, Option.toList_some, List.cons_append, List.nil_append]
          exact q
        · have e : lackA S v (u + 1) = lackA S v u := if_pos (Or.inr c2)
          have q := ih (u + 1) hh (by omega) hP1 r1
          rw [e] at q
          rw [if_neg c2, if_pos rfl]
          simp only [s84_35, s84_38, nI_s]
          exact q
  simp only [s84_0, s84_1, s84_2, s84_3, s84_e]
  exact loop 6 0 h rfl hP Fr.rf
theorem p_whole (hP : HP h S H tn tc) : Call 70 [.ref 0] h (fun rv h' => rv = some (.int (kSum (wh S 6))) ∧ HP h' S H tn tc ∧ Fr 0 423 h h') := by
  have loop : ∀ d u (hh : AHp), u + d = 6 → HP hh S H tn tc → HK hh 140 (wh S u) → Fr 140 144 h hh → Ev none 70 9 [.ref 0, .int (nI u)] [] hh (fun rv h' => rv = some (.int (kSum (wh S 6))) ∧ HP h' S H tn tc ∧ Fr 0 423 h h') := by
    intro d
    induction d with
    | zero =>
      intro u hh hu hP1 k1 r1
      obtain rfl : u = 6 := by omega
      obtain ⟨a, b, hS, b1, b2, b3, f0, f1, f2, f3, f4, f5, fo⟩ := hP1.f
      simp only [s70_9, s70_10, s70_12, s70_49, s70_50, s70_53, s70_56, if_pos (show (6 : Int32) ≤ nI 6 by decide), f4, oB_some, k1.f, c_sum k1, Option.toList_some, List.cons_append, List.nil_append]
      exact ⟨trivial, hP1, r1.up (by omega) (by omega)⟩
    | succ d ih =>
      intro u hh hu hP1 k1 r1
      have hu6 : u < 6 := by omega
      obtain ⟨a, b, hS, b1, b2, b3, f0, f1, f2, f3, f4, f5, fo⟩ := hP1.f
      simp only [s70_9, s70_10, s70_12, if_neg (le6 hu6)]
      simp only [s70_15, s70_16, s70_19, s70_20, s70_23, f0, oB_some, hS.f, c_hasView hS, hv_nI hu6, Option.toList_some, List.cons_append, List.nil_append]
      by_cases c2 : S.th u = true
      · have e : wh S (u + 1) = kTk (wh S u) (S.vk u) := if_pos c2
        rw [if_pos c2, if_neg (show ¬ (1 : Int32) = 0 by decide)]
        simp only [s70_26, s70_27, s70_30, s70_31, s70_34, s70_37, s70_38, s70_39, f0, f4, oB_some, hS.f, hS.vq hu6, k1.f]
        refine Call.mono (c_takeIn k1 (hS.vK hu6) (by omega)) ?_
        rintro rv h2 ⟨rfl, k2, r2⟩
        have q := ih (u + 1) h2 (by omega) (hP1.setK k2 r2) (by rw [e]; exact k2) (r1.tr r2)
        simp only [s70_42, s70_43, s70_46, nI_s, Option.toList_some, List.cons_append, List.nil_append]
        exact q
      · have e : wh S (u + 1) = wh S u := if_neg c2
        have q := ih (u + 1) hh (by omega) hP1 (by rw [e]; exact k1) r1
        rw [if_neg c2, if_pos rfl]
        simp only [s70_43, s70_46, nI_s]
        exact q
  obtain ⟨a, b, hS, b1, b2, b3, f0, f1, f2, f3, f4, f5, fo⟩ := hP.f
  obtain ⟨K, hK⟩ := hP.K
  simp only [s70_0, s70_1, s70_4, s70_e, f4, oB_some, hK.f]
  refine Call.mono (c_forgetAll hK) ?_
  rintro rv h1 ⟨rfl, k1, r1⟩
  simp only [s70_7, s70_8, Option.toList_none, List.nil_append]
  exact loop 6 0 h1 rfl (hP.setK k1 r1) k1 r1
theorem p_latest (hP : HP h S H tn tc) (y : Int32) : Call 74 [.ref 0, .int y] h (fun rv h' => rv = some (.int (aLatest S y)) ∧ HP h' S H tn tc ∧ Fr 0 423 h h') := by
  simp only [s74_0, s74_1, s74_2, s74_3, s74_6, s74_e, c_isWithin, Option.toList_some, List.cons_append, List.nil_append]
  unfold aLatest
  by_cases cy : 0 ≤ y ∧ y ≤ 1
  · rw [if_pos cy, if_pos (show ¬ (1 : Int32) = 0 by decide), if_neg (show ¬ ¬ (0 ≤ y ∧ y ≤ 1) from fun q => q cy)]
    have loop : ∀ d u (hh : AHp) (v5 : Value), u + d = 6 → HP hh S H tn tc → Fr 140 144 h hh → Ev none 74 19 [.ref 0, .int y, .int (late S u).1, .int (late S u).2, .int (nI u), v5] [] hh (fun rv h' => rv = some (.int (if y = 0 then (late S 6).1 else (late S 6).2)) ∧ HP h' S H tn tc ∧ Fr 0 423 h h') := by
      intro d
      induction d with
      | zero =>
        intro u hh v5 hu hP1 r1
        obtain rfl : u = 6 := by omega
        have r0 : Fr 0 423 h hh := r1.up (by omega) (by omega)
        simp only [s74_19, s74_21, s74_23, s74_68, s74_69, if_pos (show (6 : Int32) ≤ nI 6 by decide)]
        by_cases y0 : y = 0
        · rw [if_neg (fun q => q y0), if_pos y0]
          simp only [s74_72, s74_73, s74_77]
          exact ⟨trivial, hP1, r0⟩
        · rw [if_pos y0, if_neg y0]
          simp only [s74_76, s74_77]
          exact ⟨trivial, hP1, r0⟩
      | succ d ih =>
        intro u hh v5 hu hP1 r1
        have hu6 : u < 6 := by omega
        obtain ⟨a, b, hS, b1, b2, b3, f0, f1, f2, f3, f4, f5, fo⟩ := hP1.f
        have mid : ∀ (z : Int32) (h2 : AHp), (if S.th u = true then lackA S u 6 else -1) = z → HP h2 S H tn tc → Fr 140 144 h h2 → Ev none 74 48 [.ref 0, .int y, .int (late S u).1, .int (late S u).2, .int (nI u), v5] [.int z] h2 (fun rv h' => rv = some (.int (if y = 0 then (late S 6).1 else (late S 6).2)) ∧ HP h' S H tn tc ∧ Fr 0 423 h h') := by
          intro z h2 hz hP2 r2
          simp only [s74_48, s74_50, s74_52, s74_53]
          by_cases c : z ≤ (late S u).2
          · have e : late S (u + 1) = late S u := by
              show (if _ then _ else _) = _
              rw [hz, if_pos c]
            have q := fun w => ih (u + 1) h2 w (by omega) hP2 r2
            rw [e] at q
            rw [if_pos c]
            simp only [s74_62, s74_65, nI_s]
            exact q _
          · have e : late S (u + 1) = (nI u, z) := by
              show (if _ then _ else _) = _
              rw [hz, if_neg c]
            have q := fun w => ih (u + 1) h2 w (by omega) hP2 r2
            rw [e] at q
            rw [if_neg c]
            simp only [s74_56, s74_58, s74_59, s74_61, s74_62, s74_65, nI_s]
            exact q _
        simp only [s74_19, s74_21, s74_23, if_neg (le6 hu6)]
        simp only [s74_26, s74_27, s74_30, s74_32, s74_35, f0, oB_some, hS.f, c_hasView hS, hv_nI hu6, Option.toList_some, List.cons_append, List.nil_append]
        by_cases c2 : S.th u = true
        · rw [if_pos c2, if_neg (show ¬ (1 : Int32) = 0 by decide)]
          simp only [s74_38, s74_39, s74_41, fo]
          refine Call.mono (p_lackA hP1 hu6) ?_
          rintro rv h2 ⟨rfl, hP2, r2⟩
          simp only [s74_44, Option.toList_some, List.cons_append, List.nil_append]
          exact mid _ h2 (if_pos c2) hP2 (r1.tr r2)
        · rw [if_neg c2, if_pos rfl]
          simp only [s74_47]
          exact mid _ hh (if_neg c2) hP1 r1
    simp only [s74_12, s74_13, s74_14, s74_15, s74_16, s74_17]
    exact loop 6 0 h _ rfl hP Fr.rf
  · rw [if_neg cy, if_neg (show ¬ ¬ (0 : Int32) = 0 by decide), if_pos cy]
    simp only [s74_9, s74_11]
    exact ⟨rfl, hP, Fr.rf⟩
theorem p_would (hP : HP h S H tn tc) (x y : Int32) : Call 73 [.ref 0, .int x, .int y] h (fun rv h' => rv = some (.int (aWould S x y)) ∧ HP h' S H tn tc ∧ Fr 0 423 h h') := by
  obtain ⟨a, b, hS, b1, b2, b3, f0, f1, f2, f3, f4, f5, fo⟩ := hP.f
  have hl8 := hS.w.2.2.1
  have bad : aWould S x y = eI → ∀ v3 v4, Ev none 73 21 [.ref 0, .int x, .int y, v3, v4] [] h (fun rv h' => rv = some (.int (aWould S x y)) ∧ HP h' S H tn tc ∧ Fr 0 423 h h') := by
    intro e v3 v4
    rw [e]
    simp only [s73_21, s73_23]
    exact ⟨rfl, hP, Fr.rf⟩
  simp only [s73_0, s73_1, s73_4, s73_5, s73_8, s73_e, f0, oB_some, hS.f, c_hasView hS x, Option.toList_some, List.cons_append, List.nil_append]
  rcases ix_cases x 6 with hx | ⟨v, hv6, rfl⟩
  · have e : hv S x = false := by unfold hv; rw [hx]
    rw [e, if_neg (show ¬ false = true by decide), if_pos rfl]
    exact bad (by unfold aWould; rw [hx]) _ _
  rw [hv_nI hv6]
  have e0 : aWould S (nI v) y = if ¬ S.th v = true ∨ ¬ (0 ≤ y ∧ y ≤ 99) then eI else kSum (S.lt.foldl (wl S v y) (S.vk v)) := by
    unfold aWould; rw [ix_nI hv6 (by decide)]
  by_cases c1 : S.th v = true
  · rw [if_pos c1, if_neg (show ¬ (1 : Int32) = 0 by decide)]
    simp only [s73_11, s73_12, s73_13, s73_15, s73_18, c_isWithin, Option.toList_some, List.cons_append, List.nil_append]
    by_cases cy : 0 ≤ y ∧ y ≤ 99
    · rw [if_pos cy, if_pos (show ¬ (1 : Int32) = 0 by decide)]
      rw [if_neg (show ¬ (¬ S.th v = true ∨ ¬ (0 ≤ y ∧ y ≤ 99)) from fun q => q.elim (fun q => q c1) (fun q => q cy))] at e0
      rw [e0]
      obtain ⟨R, hR⟩ : ∃ R, S.lt.foldl (wl S v y) (S.vk v) = R := ⟨_, rfl⟩
      rw [hR]
      have loop : ∀ d k (hh : AHp) (K : Kn) (v4 : Value), k + d = S.lt.length → HP hh S H tn tc → HK hh 140 K → (S.lt.drop k).foldl (wl S v y) K = R → Fr 140 144 h hh → Ev none 73 42 [.ref 0, .int (nI v), .int y, .int (nI k), v4] [] hh (fun rv h' => rv = some (.int (kSum R)) ∧ HP h' S H tn tc ∧ Fr 0 423 h h') := by
        intro d
        induction d with
        | zero =>
          intro k hh K v4 hk hP1 k1 he r1
          obtain rfl : k = S.lt.length := by omega
          rw [List.drop_length] at he
          have he' : K = R := he
          subst he'
          obtain ⟨a, b, hS, b1, b2, b3, f0, f1, f2, f3, f4, f5, fo⟩ := hP1.f
          simp only [s73_42, s73_43, s73_44, s73_47, s73_50, s73_117, s73_118, s73_121, s73_124, f0, f4, hS.f, oB_some, if_pos (Int32.le_refl _), k1.f, c_sum k1, Option.toList_some, List.cons_append, List.nil_append]
          exact ⟨trivial, hP1, r1.up (by omega) (by omega)⟩
        | succ d ih =>
          intro k hh K v4 hk hP1 k1 he r1
          have hkl : k < S.lt.length := by omega
          obtain ⟨a, b, hS, b1, b2, b3, f0, f1, f2, f3, f4, f5, fo⟩ := hP1.f
          obtain ⟨p, lq, hL, p1, p2⟩ := hS.lL (List.getElem?_eq_getElem hkl)
          rw [List.drop_eq_getElem_cons hkl, List.foldl_cons] at he
          obtain ⟨M, hM⟩ : ∃ M, S.lt[k] = M := ⟨_, rfl⟩
          rw [hM] at hL he
          have hM6 : M.2.1 < 6 := by
            have := (hS.w.2.2.2.2.1 M (by rw [← hM]; exact List.getElem_mem hkl)).2.1
            exact this
          have skip : wl S v y K M = K → ∀ v4', Ev none 73 111 [.ref 0, .int (nI v), .int y, .int (nI k), v4'] [] hh (fun rv h' => rv = some (.int (kSum R)) ∧ HP h' S H tn tc ∧ Fr 0 423 h h') := by
            intro e v4'
            rw [e] at he
            simp only [s73_111, s73_114, nI_s]
            exact ih (k + 1) hh K _ (by omega) hP1 k1 he r1
          simp only [s73_42, s73_43, s73_44, s73_47, s73_50, f0, hS.f, oB_some, if_neg (show ¬ nI S.lt.length ≤ nI k from nI_ge (by omega) (by omega))]
          simp only [s73_53, s73_54, s73_57, s73_60, s73_61, s73_62, s73_64, s73_66, s73_69, s73_70, f0, hS.f, oB_some, lq, hL.f, nI_eq (show M.2.1 < 2147483648 by omega) (show v < 2147483648 by omega)]
          by_cases q1 : M.2.1 = v
          · rw [if_neg (fun q => q q1)]
            simp only [s73_73, s73_75, s73_78, hL.f, oB_some]
            by_cases q2 : M.2.2.2.1 = true
            · rw [if_pos (by simp [bI, q2])]
              exact skip (if_neg (fun q => q.2.1 q2)) _
            · rw [if_neg (by simp [bI, q2])]
              simp only [s73_81, s73_83, s73_86, s73_87, s73_90, s73_93, s73_94, s73_95, hL.f, f0, hS.f, oB_some]
              by_cases q3 : nI M.2.2.1 ≤ nI (S.ct 1) + y
              · rw [if_neg (Int32.not_lt.mpr q3)]
                have e : wl S v y K M = kTk K M.2.2.2.2 := if_pos ⟨q1, q2, q3⟩
                rw [e] at he
                simp only [s73_98, s73_99, s73_102, s73_104, s73_107, f4, oB_some, hL.f, k1.f]
                refine Call.mono (c_takeIn k1 hL.2 (by have z2 : @HAdd.hAdd Nat Nat Nat instHAdd p 5 ≤ a + 69 := p2; have z3 := b3; omega)) ?_
                rintro rv h2 ⟨rfl, k2, r2⟩
                simp only [s73_110, s73_111, s73_114, nI_s, Option.toList_some, List.cons_append, List.nil_append]
                exact ih (k + 1) h2 _ _ (by omega) (hP1.setK k2 r2) k2 he (r1.tr r2)
              · rw [if_pos (Int32.not_le.mp q3)]
                exact skip (if_neg (fun q => q3 q.2.2)) _
          · rw [if_pos q1]
            exact skip (if_neg (fun q => q1 q.1)) _
      obtain ⟨K, hK⟩ := hP.K
      simp only [s73_24, s73_25, s73_28, s73_29, s73_32, s73_35, s73_36, s73_37, f0, f4, oB_some, hS.f, hS.vq hv6, hK.f]
      refine Call.mono (c_copyK hK (hS.vK hv6) (by omega)) ?_
      rintro rv h1 ⟨rfl, k1, r1⟩
      simp only [s73_40, s73_41, Option.toList_none, List.nil_append]
      exact loop S.lt.length 0 h1 (S.vk v) _ (Nat.zero_add _) (hP.setK k1 r1) k1 hR r1
    · rw [if_neg cy, if_neg (show ¬ ¬ (0 : Int32) = 0 by decide)]
      exact bad (by rw [e0, if_pos (Or.inr cy)]) _ _
  · rw [if_neg c1, if_pos rfl]
    exact bad (by rw [e0, if_pos (Or.inl c1)]) _ _
end SC
