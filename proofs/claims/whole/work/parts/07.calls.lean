theorem zCall_spec {i : Instr} {z : Nat} {stk as rest : List Value} {h : AHp} (hx : zCall i z stk h = some (as, rest)) : mArgs z ≤ stk.length ∧ stk.length ≤ 8 ∧ stk.all (fun v => v.category == 1) = true ∧ ((∃ idx, i = .invokestatic idx ∧ as = (stk.take (mArgs z)).reverse ∧ stk.drop (mArgs z) = rest) ∨ (∃ idx a c fs, i = .invokevirtual idx ∧ stk.drop (mArgs z) = .ref a :: rest ∧ h[a]? = some (.inr (c, fs)) ∧ c = mCi z ∧ as = .ref a :: (stk.take (mArgs z)).reverse) ∨ (∃ idx a, i = .invokespecial idx ∧ stk.drop (mArgs z) = .ref a :: rest ∧ as = .ref a :: (stk.take (mArgs z)).reverse)) := by
  unfold zCall at hx
  split at hx
  · cases hx
  · rename_i h0
    obtain ⟨h1, h2, h3⟩ := Classical.byContradiction h0
    refine ⟨h1, h2, h3, ?_⟩
    split at hx
    · cases hx
      exact Or.inl ⟨_, rfl, rfl, rfl⟩
    · split at hx
      · rename_i a r hr
        split at hx
        · rename_i c fs hv
          split at hx
          · rename_i hc
            cases hx
            exact Or.inr (Or.inl ⟨_, a, c, fs, rfl, hr, hv, hc, rfl⟩)
          · cases hx
        · cases hx
      · cases hx
    · split at hx
      · rename_i a r hr
        cases hx
        exact Or.inr (Or.inr ⟨_, a, rfl, hr, rfl⟩)
      · cases hx
    · cases hx
section CALLS
variable {B b : Nat} {D : va_G} {dA : Nat → ClassId} {p : Program} {l : Launch} {ev : Env} {R : Room} {s : State} {m : MethodId} {args : Array Value} {below : List Frame} {meth : Method} {c : Code} {H : Heap} {locs : List Loc} {cells slots mc ms : Nat} {Q : State → Prop} {y z : Nat} {sc : Scr} {h h' : AHp} {lsR : Array Slot} {stk rest as : List Value} {rv : Option Value} {e : Ent}
theorem callOk_spec (hk : callOk y z = true) : z < NM ∧ mFr z + 1 ≤ mFr y ∧ 8 + (mMaxL z + 11) + mLo z ≤ mLo y ∧ (parseMethodDescriptor (mName z).desc).map (fun d => d.parameters.length) = some (mArgs z) ∧ (mName z).cls ≠ "java/lang/invoke/MethodHandle" ∧ (mName z).cls ≠ "java/lang/invoke/VarHandle" ∧ mArgs z + (if mStat z then 0 else 1) ≤ mMaxL z ∧ plainName (mName z).cls = true := by
  unfold callOk at hk
  simp only [Bool.and_eq_true, decide_eq_true_eq] at hk
  obtain ⟨⟨⟨⟨⟨⟨⟨h1, h2⟩, h3⟩, h4⟩, h5⟩, h6⟩, h7⟩, h8⟩ := hk
  exact ⟨h1, h2, h3, h4, h5, h6, h7, h8⟩
theorem parse_n (h4 : (parseMethodDescriptor (mName z).desc).map (fun d => d.parameters.length) = some (mArgs z)) : ∀ sig, parseMethodDescriptor (mName z).desc = some sig → mArgs z = sig.parameters.length := by
  intro sig hs
  rw [hs] at h4
  exact (Option.some.inj h4).symm
theorem call_S (C : Cx B b D dA p R s m args meth c y sc) (hS : va_S (fun q : Nat => B ≤ q) s.heap H locs) (hR : Rp B b D dA h H) (hsz : lsR.size = mMaxL y) {idx : Nat} {r2 : Int} {pc : Nat} (he : (pc, .invokestatic idx, z, r2) ∈ kOf y) (hz : ¬ z = ACP)
    (hM : Met l (mName z) (wsF z) (rmF z mc ms) (PcA B b D dA as h) (QcA B b D dA rv h') mc ms (fun q : Nat => B ≤ q)) (hal : mArgs z ≤ stk.length) (h8 : stk.length ≤ 8) (hca : stk.all (fun v => v.category == 1) = true) (has : as = (stk.take (mArgs z)).reverse) (hcl : cells + mc ≤ R.cells) (hsl : slots + ms ≤ R.slots)
    (kk : ∀ (H1 : Heap) (locs1 : List Loc), va_S (fun q : Nat => B ≤ q) s.heap H1 locs1 → Rp B b D dA h' H1 → W p l ev R s m args below meth c H1 locs1 (cells + mc) (slots + ms) Q (F0 m (pc + 3) lsR ((rv.toList ++ stk.drop (mArgs z)).map (tv B b)))) : W p l ev R s m args below meth c H locs cells slots Q (F0 m pc lsR (stk.map (tv B b))) := by
  obtain ⟨hexec, hb, hml, hown, hws, hK, hini, hfr, hlo, ⟨hy, hK1, hK2, hK3, hK4⟩, hBs, hsc⟩ := id C
  have hok := List.all_eq_true.mp (hK1 y hy) _ he
  have hnd := hK2 y hy _ he
  unfold eok at hok
  rw [Bool.and_eq_true, decide_eq_true_eq] at hok
  obtain ⟨hd, hau⟩ := hok
  dsimp only at hau
  rw [if_neg hz, Bool.and_eq_true] at hau
  obtain ⟨k1, k2, k3, k4, k5, k6, k7, k8⟩ := callOk_spec hau.1
  have wd : ∀ w ∈ ([linkW y idx (pc, .invokestatic idx, z, r2), .code (mName z) (mCode z) (mMaxL z) (mRet z), .initialized (mName z).cls, .static (mName z)] : List Cond), w ∈ lw_tbl ∧ w.before args s = true := by
    intro w hw
    have hw2 : w ∈ needs y (pc, .invokestatic idx, z, r2) := by
      dsimp only [needs]
      rw [if_neg hz]
      exact hw
    exact ⟨(hnd w hw2).1, hws w (hnd w hw2).1 (hnd w hw2).2⟩
  have w1 := wd _ List.mem_cons_self
  have w2 := wd _ (List.mem_cons_of_mem _ List.mem_cons_self)
  have w3 := wd _ (List.mem_cons_of_mem _ (List.mem_cons_of_mem _ List.mem_cons_self))
  have w4 := wd _ (List.mem_cons_of_mem _ (List.mem_cons_of_mem _ (List.mem_cons_of_mem _ List.mem_cons_self)))
  have hst : stk.map (tv B b) = (as.map (tv B b)).reverse ++ (stk.drop (mArgs z)).map (tv B b) := by
    rw [has, List.map_reverse, List.reverse_reverse, ← List.map_append, List.take_append_drop]
  have hn : (as.map (tv B b)).length = mArgs z := by rw [List.length_map, has, List.length_reverse, List.length_take]; omega
  have hrs := cat_map (B := B) (b := b) (stk.drop (mArgs z)) (by rw [List.length_drop]; omega) (by
    rw [List.all_eq_true] at hca ⊢
    exact fun v hv => hca v (List.mem_of_mem_drop hv))
  have fin : va_Run p l ev R s m args below meth c H locs cells slots mc ms (F0 m pc lsR (stk.map (tv B b))) ((stk.drop (mArgs z)).map (tv B b)) (QcA B b D dA rv h' (as.map (tv B b)).toArray) (fun q : Nat => B ≤ q) := by
    by_cases hr2 : r2 = 1
    · refine va_runSN (Ts := GW) (index := idx) (host := RX4) ⟨hexec, hb, hml, hown, C.gw⟩ hM ⟨⟨⟨rfl, rfl, Nat.le_trans k2 hfr, Nat.le_trans k3 hlo, ws_stay C w2.1, List.mem_cons_self⟩, w2.2, w3.2, ⟨k5, k6⟩, parse_n k4, ?_⟩, w4.2, trivial⟩ ⟨pc_blind, pc_holds C hR⟩ rfl hn hsz hst (lv_room hrs) hd ⟨hcl, hsl⟩
      have := w1.2
      unfold linkW at this
      rwa [if_pos hr2] at this
    · refine va_runS (Ts := GW) (index := idx) ⟨hexec, hb, hml, hown, C.gw⟩ hM ⟨⟨rfl, rfl, Nat.le_trans k2 hfr, Nat.le_trans k3 hlo, ws_stay C w2.1, List.mem_cons_self, w2.2, w3.2, ⟨k5, k6⟩, parse_n k4, ?_⟩, w4.2⟩ ⟨pc_blind, pc_holds C hR⟩ rfl hn hsz hst (lv_room hrs) hd ⟨hcl, hsl⟩
      have := w1.2
      unfold linkW at this
      rwa [if_neg hr2] at this
  refine rp_call fin hS (fun H1 locs1 hS1 hR1 => ?_)
  have := kk H1 locs1 hS1 hR1
  rw [List.map_append] at this
  have e2 : (rv.map (tv B b)).toList = rv.toList.map (tv B b) := by cases rv <;> rfl
  rw [e2]
  exact this
theorem call_V (C : Cx B b D dA p R s m args meth c y sc) (hS : va_S (fun q : Nat => B ≤ q) s.heap H locs) (hR : Rp B b D dA h H) (hsz : lsR.size = mMaxL y) {idx : Nat} {r2 : Int} {pc : Nat} (he : (pc, .invokevirtual idx, z, r2) ∈ kOf y) {a ca : Nat} {fs : List Value} (ha : h[a]? = some (.inr (ca, fs))) (hca0 : ca = mCi z)
    (hM : Met l (mName z) (wsF z) (rmF z mc ms) (PcA B b D dA as h) (QcA B b D dA rv h') mc ms (fun q : Nat => B ≤ q)) (hal : mArgs z ≤ stk.length) (h8 : stk.length ≤ 8) (hca : stk.all (fun v => v.category == 1) = true) (hdr : stk.drop (mArgs z) = .ref a :: rest) (has : as = .ref a :: (stk.take (mArgs z)).reverse) (hcl : cells + mc ≤ R.cells) (hsl : slots + ms ≤ R.slots)
    (kk : ∀ (H1 : Heap) (locs1 : List Loc), va_S (fun q : Nat => B ≤ q) s.heap H1 locs1 → Rp B b D dA h' H1 → W p l ev R s m args below meth c H1 locs1 (cells + mc) (slots + ms) Q (F0 m (pc + 3) lsR ((rv.toList ++ rest).map (tv B b)))) : W p l ev R s m args below meth c H locs cells slots Q (F0 m pc lsR (stk.map (tv B b))) := by
  obtain ⟨hexec, hb, hml, hown, hws, hK, hini, hfr, hlo, ⟨hy, hK1, hK2, hK3, hK4⟩, hBs, hsc⟩ := id C
  have hok := List.all_eq_true.mp (hK1 y hy) _ he
  have hnd := hK2 y hy _ he
  unfold eok at hok
  rw [Bool.and_eq_true, decide_eq_true_eq] at hok
  obtain ⟨hd, hau⟩ := hok
  dsimp only at hau
  simp only [Bool.and_eq_true, decide_eq_true_eq] at hau
  obtain ⟨⟨⟨hau1, hau2⟩, hau3⟩, hau4⟩ := hau
  obtain ⟨k1, k2, k3, k4, k5, k6, k7, k8⟩ := callOk_spec hau1
  have wd : ∀ w ∈ ([linkW y idx (pc, .invokevirtual idx, z, r2), .code (mName z) (mCode z) (mMaxL z) (mRet z), .initialized (mName z).cls, .instanceMethod (mName z), .selects (mName z).cls (mName z) (mName z)] : List Cond), w ∈ lw_tbl ∧ w.before args s = true := by
    intro w hw
    have hw2 : w ∈ needs y (pc, .invokevirtual idx, z, r2) := hw
    exact ⟨(hnd w hw2).1, hws w (hnd w hw2).1 (hnd w hw2).2⟩
  have w1 := wd _ List.mem_cons_self
  have w2 := wd _ (List.mem_cons_of_mem _ List.mem_cons_self)
  have w3 := wd _ (List.mem_cons_of_mem _ (List.mem_cons_of_mem _ List.mem_cons_self))
  have w4 := wd _ (List.mem_cons_of_mem _ (List.mem_cons_of_mem _ (List.mem_cons_of_mem _ List.mem_cons_self)))
  have w5 := wd _ (List.mem_cons_of_mem _ (List.mem_cons_of_mem _ (List.mem_cons_of_mem _ (List.mem_cons_of_mem _ List.mem_cons_self))))
  have hst : stk.map (tv B b) = (((stk.take (mArgs z)).reverse).map (tv B b)).reverse ++ .ref (B + a) :: rest.map (tv B b) := by
    rw [List.map_reverse, List.reverse_reverse]
    show _ = _ ++ (Value.ref a :: rest).map (tv B b)
    rw [← hdr, ← List.map_append, List.take_append_drop]
  have hn : (((stk.take (mArgs z)).reverse).map (tv B b)).length = mArgs z := by rw [List.length_map, List.length_reverse, List.length_take]; omega
  have hrl : rest.length ≤ 8 := by
    have := congrArg List.length hdr
    rw [List.length_drop, List.length_cons] at this
    omega
  have hrs := cat_map (B := B) (b := b) rest hrl (by
    rw [List.all_eq_true] at hca ⊢
    exact fun v hv => hca v (List.mem_of_mem_drop (i := mArgs z) (by rw [hdr]; exact List.mem_cons_of_mem _ hv)))
  have hP : va_P D vwCl [(B + a, tE B b dA (.inr (ca, fs)))] H := by
    intro k q hq
    have hl := (List.getElem?_eq_some_iff.mp hq).1
    have : k = 0 := by simp at hl; omega
    subst this
    cases hq
    exact hR.2 a _ ha
  have hrec : ∃ cell : Cell, H[B + a]? = some cell ∧ cell.vm.isStatics = false ∧ s.vm.findClass (mName z).cls = some cell.cls := by
    rw [← hau3, ← hca0]
    have hc6 : ca < 6 := by rw [hca0]; exact hau2
    exact va_recv hK hP (vw_at hc6) (q0 := 0) (fs := fs.map (tv B b)) rfl
  have hpre := pc_holds (as := as) C hR
  have fin : va_Run p l ev R s m args below meth c H locs cells slots mc ms (F0 m pc lsR (stk.map (tv B b))) (rest.map (tv B b)) (QcA B b D dA rv h' (Value.ref (B + a) :: ((stk.take (mArgs z)).reverse).map (tv B b)).toArray) (fun q : Nat => B ≤ q) := by
    rw [has] at hpre hM
    by_cases hr2 : r2 = 1
    · refine va_runVN (Ts := GW) (index := idx) (host := RX4) (C := (mName z).cls) ⟨hexec, hb, hml, hown, C.gw⟩ hM ⟨⟨⟨rfl, rfl, Nat.le_trans k2 hfr, Nat.le_trans k3 hlo, ws_stay C w2.1, List.mem_cons_self⟩, w2.2, w3.2, ⟨k5, k6⟩, parse_n k4, ?_⟩, w4.2, w5.2⟩ ⟨pc_blind, hrec, hpre⟩ rfl hn hsz hst (lv_room hrs) hd ⟨hcl, hsl⟩
      have := w1.2
      unfold linkW at this
      rwa [if_pos hr2] at this
    · refine va_runV (Ts := GW) (index := idx) (C := (mName z).cls) ⟨hexec, hb, hml, hown, C.gw⟩ hM ⟨⟨rfl, rfl, Nat.le_trans k2 hfr, Nat.le_trans k3 hlo, ws_stay C w2.1, List.mem_cons_self, w2.2, w3.2, ⟨k5, k6⟩, parse_n k4, ?_⟩, w4.2, w5.2⟩ ⟨pc_blind, hrec, hpre⟩ rfl hn hsz hst (lv_room hrs) hd ⟨hcl, hsl⟩
      have := w1.2
      unfold linkW at this
      rwa [if_neg hr2] at this
  refine rp_call fin hS (fun H1 locs1 hS1 hR1 => ?_)
  have := kk H1 locs1 hS1 hR1
  rw [List.map_append] at this
  have e2 : (rv.map (tv B b)).toList = rv.toList.map (tv B b) := by cases rv <;> rfl
  rw [e2]
  exact this
theorem call_I (C : Cx B b D dA p R s m args meth c y sc) (hS : va_S (fun q : Nat => B ≤ q) s.heap H locs) (hR : Rp B b D dA h H) (hsz : lsR.size = mMaxL y) {idx : Nat} {r2 : Int} {pc : Nat} (he : (pc, .invokespecial idx, z, r2) ∈ kOf y) (hz : ¬ z = OBJ) {a : Nat}
    (hM : Met l (mName z) (wsF z) (rmF z mc ms) (PcA B b D dA as h) (QcA B b D dA rv h') mc ms (fun q : Nat => B ≤ q)) (hal : mArgs z ≤ stk.length) (h8 : stk.length ≤ 8) (hca : stk.all (fun v => v.category == 1) = true) (hdr : stk.drop (mArgs z) = .ref a :: rest) (has : as = .ref a :: (stk.take (mArgs z)).reverse) (hcl : cells + mc ≤ R.cells) (hsl : slots + ms ≤ R.slots)
    (kk : ∀ (H1 : Heap) (locs1 : List Loc), va_S (fun q : Nat => B ≤ q) s.heap H1 locs1 → Rp B b D dA h' H1 → W p l ev R s m args below meth c H1 locs1 (cells + mc) (slots + ms) Q (F0 m (pc + 3) lsR ((rv.toList ++ rest).map (tv B b)))) : W p l ev R s m args below meth c H locs cells slots Q (F0 m pc lsR (stk.map (tv B b))) := by
  obtain ⟨hexec, hb, hml, hown, hws, hK, hini, hfr, hlo, ⟨hy, hK1, hK2, hK3, hK4⟩, hBs, hsc⟩ := id C
  have hok := List.all_eq_true.mp (hK1 y hy) _ he
  have hnd := hK2 y hy _ he
  unfold eok at hok
  rw [Bool.and_eq_true, decide_eq_true_eq] at hok
  obtain ⟨hd, hau⟩ := hok
  dsimp only at hau
  rw [if_neg hz] at hau
  simp only [Bool.and_eq_true, decide_eq_true_eq] at hau
  obtain ⟨⟨⟨hau1, hau2⟩, hau3⟩, hau4⟩ := hau
  obtain ⟨k1, k2, k3, k4, k5, k6, k7, k8⟩ := callOk_spec hau1
  have wd : ∀ w ∈ ([linkW y idx (pc, .invokespecial idx, z, r2), .code (mName z) (mCode z) (mMaxL z) (mRet z), .initialized (mName z).cls, .instanceMethod (mName z)] : List Cond), w ∈ lw_tbl ∧ w.before args s = true := by
    intro w hw
    have hw2 : w ∈ needs y (pc, .invokespecial idx, z, r2) := by
      dsimp only [needs]
      rw [if_neg hz]
      exact hw
    exact ⟨(hnd w hw2).1, hws w (hnd w hw2).1 (hnd w hw2).2⟩
  have w1 := wd _ List.mem_cons_self
  have w2 := wd _ (List.mem_cons_of_mem _ List.mem_cons_self)
  have w3 := wd _ (List.mem_cons_of_mem _ (List.mem_cons_of_mem _ List.mem_cons_self))
  have w4 := wd _ (List.mem_cons_of_mem _ (List.mem_cons_of_mem _ (List.mem_cons_of_mem _ List.mem_cons_self)))
  have hst : stk.map (tv B b) = (((stk.take (mArgs z)).reverse).map (tv B b)).reverse ++ .ref (B + a) :: rest.map (tv B b) := by
    rw [List.map_reverse, List.reverse_reverse]
    show _ = _ ++ (Value.ref a :: rest).map (tv B b)
    rw [← hdr, ← List.map_append, List.take_append_drop]
  have hn : (((stk.take (mArgs z)).reverse).map (tv B b)).length = mArgs z := by rw [List.length_map, List.length_reverse, List.length_take]; omega
  have hrl : rest.length ≤ 8 := by
    have := congrArg List.length hdr
    rw [List.length_drop, List.length_cons] at this
    omega
  have hrs := cat_map (B := B) (b := b) rest hrl (by
    rw [List.all_eq_true] at hca ⊢
    exact fun v hv => hca v (List.mem_of_mem_drop (i := mArgs z) (by rw [hdr]; exact List.mem_cons_of_mem _ hv)))
  have hpre := pc_holds (as := as) C hR
  have hcd := ws_stay C w2.1
  have hcm : Cond.code (mName z) (mCode z) (mMaxL z) none ∈ wsF z := by rw [← hau3]; exact List.mem_cons_self
  have w2' := w2.2
  rw [hau3] at w2'
  have fin : va_Run p l ev R s m args below meth c H locs cells slots mc ms (F0 m pc lsR (stk.map (tv B b))) (rest.map (tv B b)) (QcA B b D dA rv h' (Value.ref (B + a) :: ((stk.take (mArgs z)).reverse).map (tv B b)).toArray) (fun q : Nat => B ≤ q) := by
    rw [has] at hpre hM
    by_cases hr2 : r2 = 1
    · refine va_runIN (Ts := GW) (index := idx) (host := RX4) ⟨hexec, hb, hml, hown, C.gw⟩ hM ⟨⟨⟨rfl, rfl, Nat.le_trans k2 hfr, Nat.le_trans k3 hlo, hcd, hcm⟩, w2', w3.2, ⟨k5, k6⟩, parse_n k4, ?_⟩, hau2, w4.2⟩ ⟨pc_blind, hpre⟩ rfl hn hsz hst (lv_room hrs) hd ⟨hcl, hsl⟩
      have := w1.2
      unfold linkW at this
      rwa [if_pos hr2] at this
    · refine va_runI (Ts := GW) (index := idx) ⟨hexec, hb, hml, hown, C.gw⟩ hM ⟨⟨rfl, rfl, Nat.le_trans k2 hfr, Nat.le_trans k3 hlo, hcd, hcm, w2', w3.2, ⟨k5, k6⟩, parse_n k4, ?_⟩, hau2, w4.2⟩ ⟨pc_blind, hpre⟩ rfl hn hsz hst (lv_room hrs) hd ⟨hcl, hsl⟩
      have := w1.2
      unfold linkW at this
      rwa [if_neg hr2] at this
  refine rp_call fin hS (fun H1 locs1 hS1 hR1 => ?_)
  have := kk H1 locs1 hS1 hR1
  rw [List.map_append] at this
  have e2 : (rv.map (tv B b)).toList = rv.toList.map (tv B b) := by cases rv <;> rfl
  rw [e2]
  exact this
end CALLS
