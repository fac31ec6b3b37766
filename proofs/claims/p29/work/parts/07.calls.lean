theorem zCall_spec {i : Instr} {z : Nat} {stk as rest : List Value} {h : AHp} (hx : zCall i z stk h = some (as, rest)) : mArgs z ≤ stk.length ∧ stk.length ≤ mArgs z + rB z ∧ stk.all (fun v => v.category == 1) = true ∧ ((∃ idx, i = .invokestatic idx ∧ as = (stk.take (mArgs z)).reverse ∧ stk.drop (mArgs z) = rest) ∨ (∃ idx a c fs, i = .invokevirtual idx ∧ stk.drop (mArgs z) = .ref a :: rest ∧ h[a]? = some (.inr (c, fs)) ∧ c = mCi z ∧ as = .ref a :: (stk.take (mArgs z)).reverse) ∨ (∃ idx a, i = .invokespecial idx ∧ stk.drop (mArgs z) = .ref a :: rest ∧ as = .ref a :: (stk.take (mArgs z)).reverse)) := by
  unfold zCall at hx
  split at hx
  · cases hx
  · rename_i h0
    obtain ⟨h1, h2, h3⟩ := Classical.byContradiction h0
    refine ⟨h1, h2, h3, ?_⟩
    split at hx
    · cases hx
      exact Or.inl ⟨_, rfl, rfl, rfl⟩
    · split at hx
      · rename_i a r hr
        split at hx
        · rename_i c fs hv
          split at hx
          · rename_i hc
            cases hx
            exact Or.inr (Or.inl ⟨_, a, c, fs, rfl, hr, hv, hc, rfl⟩)
          · cases hx
        · cases hx
      · cases hx
    · split at hx
      · rename_i a r hr
        cases hx
        exact Or.inr (Or.inr ⟨_, a, rfl, hr, rfl⟩)
      · cases hx
    · cases hx
section CALLS
variable {B b : Nat} {D : va_G} {dA : Nat → ClassId} {p : Program} {l : Launch} {ev : Env} {R : Room} {s : State} {m : MethodId} {args : Array Value} {below : List Frame} {meth : Method} {c : Code} {H : Heap} {locs : List Loc} {cells slots mc ms : Nat} {Q : State → Prop} {y z : Nat} {sc : Scr} {h h' : AHp} {lsR : Array Slot} {stk rest as : List Value} {rv : Option Value} {e : Ent}
theorem callOk_spec (hk : callOk y z = true) : z < NM ∧ mFr z + 1 ≤ mFr y ∧ 16 + (mMaxL z + 11) + mLo z ≤ mLo y ∧ (parseMethodDescriptor (mName z).desc).map (fun d => d.parameters.length) = some (mArgs z) ∧ (mName z).cls ≠ "java/lang/invoke/MethodHandle" ∧ (mName z).cls ≠ "java/lang/invoke/VarHandle" ∧ mArgs z + (if mStat z then 0 else 1) ≤ mMaxL z ∧ plainName (mName z).cls = true := by
  unfold callOk at hk
  simp only [Bool.and_eq_true, decide_eq_true_eq] at hk
  obtain ⟨⟨⟨⟨⟨⟨⟨h1, h2⟩, h3⟩, h4⟩, h5⟩, h6⟩, h7⟩, h8⟩ := hk
  exact ⟨h1, h2, h3, h4, h5, h6, h7, h8⟩
theorem parse_n (h4 : (parseMethodDescriptor (mName z).desc).map (fun d => d.parameters.length) = some (mArgs z)) : ∀ sig, parseMethodDescriptor (mName z).desc = some sig → mArgs z = sig.parameters.length := by
  intro sig hs
  rw [hs] at h4
  exact (Option.some.inj h4).symm
/-- a static call over a deeper stack -/
theorem run_S16 {cc : ByteArray} {nL n index : Nat} {own : String} {As rest : List Value} (hx : p.tables.exec = Jvm.exec) (hb : c.code = cc) (hml : c.maxLocals = nL) (ho : s.vm.findClass own = some m.cls) {Pc : Array Value → State → Prop} {Qc : Array Value → State → Outcome → State → Prop} {free : Addr → Prop} {mc ms : Nat}
    (hM : Met l (mName z) (wsF z) (rmF z mc ms) Pc Qc mc ms free) (hbl : FrameBlind Pc) (hfr : mFr z + 1 ≤ R.frames) (hlo : 16 + (mMaxL z + 11) + mLo z ≤ R.locals) (hws : ∀ w ∈ wsF z, ∀ (a' : Array Value) (U : State), s.WarmedH U.vm → w.before a' U = true) (hcode : (Cond.code (mName z) (mCode z) (mMaxL z) (mRet z)).before args s = true) (hini : (Cond.initialized (mName z).cls).before args s = true)
    (hy : (mName z).cls ≠ "java/lang/invoke/MethodHandle" ∧ (mName z).cls ≠ "java/lang/invoke/VarHandle") (hlen : ∀ sig, parseMethodDescriptor (mName z).desc = some sig → n = sig.parameters.length) (hl : (Cond.methodLink own index (mName z)).before args s = true) (hstt : (Cond.static (mName z)).before args s = true) (hPc : ∀ U : State, U.heap = H → s.WarmedH U.vm → Pc As.toArray U)
    {pc : Nat} {st0 : List Value} (hn : As.length = n) (hsize : lsR.size = nL) (hstack : st0 = As.reverse ++ rest) (hW : (rest.map fun v => v.category).sum ≤ 16) (hdg : decode cc pc = .ok (.invokestatic index, 3)) (hf1 : cells + mc ≤ R.cells) (hf2 : slots + ms ≤ R.slots) :
    va_Run p l ev R s m args below meth c H locs cells slots mc ms (F0 m pc lsR st0) rest (Qc As.toArray) free := by
  have hK : Back l R p ev below s args (mName z) 3 16 (PreOf R mc ms Pc) (PostOf Qc mc ms free) := back_of (bytes := mCode z) (maxL := mMaxL z) (ret := mRet z) hM hbl rfl rfl hfr hlo hws List.mem_cons_self (fun a' U hW => word_at hW (Or.inl (by first | rfl | simp [Cond.onTables, Cond.keeps, Cond.steady])) hini)
  intro T hT X
  obtain ⟨v, vm₁, ⟨U', l2, c2, s2⟩, hW₁, X', ⟨g', mk, t, L, e1, e2, hq, h1, hL, h2, h3⟩, st⟩ := callS X hx (bytes := mCode z) (maxL := mMaxL z) (ret := mRet z) ho hl hstt hini hcode hy hK (g := F0 m pc lsR st0) rfl (hsize.trans hml.symm) (argsL := As) (rest := rest) (fun sig h => hn.trans (hlen sig h)) hstack (by show 2 * 0 + _ ≤ 16; omega) (by rw [hb]; exact hdg)
    (fun vm₁ hW₁ => ⟨hf1, hf2, hPc (T.setVm vm₁) hT hW₁⟩)
  dsimp only [Pt.U, Pt.locs, Pt.cells, Pt.slots] at X' e1 e2 h1 h2 h3 st
  subst h1; subst h2; subst h3
  exact ⟨v, (T.setVm vm₁).calling g' mk As.toArray, t, U', L, hT, X', hL, e1, e2, hq, st⟩
theorem call_S (C : Cx B b D dA p R s m args meth c y sc) (hS : va_S (fun q : Nat => B ≤ q) s.heap H locs) (hR : Rp B b D dA h H) (hsz : lsR.size = mMaxL y) {idx : Nat} {r2 : Int} {pc : Nat} (he : (pc, .invokestatic idx, z, r2) ∈ kOf y) (hz : ¬ z = ACP)
    (hM : Met l (mName z) (wsF z) (rmF z mc ms) (PcA B b D dA (scOf z sc) as h) (QcA B b D dA rv h') mc ms (fun q : Nat => B ≤ q)) (hal : mArgs z ≤ stk.length) (h8 : stk.length ≤ mArgs z + rB z) (hca : stk.all (fun v => v.category == 1) = true) (has : as = (stk.take (mArgs z)).reverse) (hcl : cells + mc ≤ R.cells) (hsl : slots + ms ≤ R.slots)
    (kk : ∀ (H1 : Heap) (locs1 : List Loc), va_S (fun q : Nat => B ≤ q) s.heap H1 locs1 → Rp B b D dA h' H1 → W p l ev R s m args below meth c H1 locs1 (cells + mc) (slots + ms) Q (F0 m (pc + 3) lsR ((rv.toList ++ stk.drop (mArgs z)).map (tv B b)))) : W p l ev R s m args below meth c H locs cells slots Q (F0 m pc lsR (stk.map (tv B b))) := by
  obtain ⟨hexec, hb, hml, hown, hws, hK, hini, hfr, hlo, ⟨hy, hK1, hK2, hK3, hK4⟩, hBs, hsc⟩ := id C
  have hok := List.all_eq_true.mp (hK1 y hy) _ he
  have hnd := hK2 y hy _ he
  unfold eok at hok
  rw [Bool.and_eq_true, decide_eq_true_eq] at hok
  obtain ⟨hd, hau⟩ := hok
  dsimp only at hau
  rw [if_neg hz, Bool.and_eq_true, Bool.and_eq_true, decide_eq_true_eq] at hau
  obtain ⟨k1, k2, k3, k4, k5, k6, k7, k8⟩ := callOk_spec hau.1
  have wd : ∀ w ∈ ([linkW y idx (pc, .invokestatic idx, z, r2), .code (mName z) (mCode z) (mMaxL z) (mRet z), .initialized (mName z).cls, .static (mName z)] : List Cond), w ∈ lw_tbl ∧ w.before args s = true := by
    intro w hw
    have hw2 : w ∈ needs y (pc, .invokestatic idx, z, r2) := by
      dsimp only [needs]
      rw [if_neg hz]
      exact hw
    exact ⟨(hnd w hw2).1, hws w (hnd w hw2).1 (hnd w hw2).2⟩
  have w1 := wd _ List.mem_cons_self
  have w2 := wd _ (List.mem_cons_of_mem _ List.mem_cons_self)
  have w3 := wd _ (List.mem_cons_of_mem _ (List.mem_cons_of_mem _ List.mem_cons_self))
  have w4 := wd _ (List.mem_cons_of_mem _ (List.mem_cons_of_mem _ (List.mem_cons_of_mem _ List.mem_cons_self)))
  have hst : stk.map (tv B b) = (as.map (tv B b)).reverse ++ (stk.drop (mArgs z)).map (tv B b) := by
    rw [has, List.map_reverse, List.reverse_reverse, ← List.map_append, List.take_append_drop]
  have hn : (as.map (tv B b)).length = mArgs z := by rw [List.length_map, has, List.length_reverse, List.length_take]; omega
  have hrs := cat_mapN (B := B) (b := b) (rB z) (stk.drop (mArgs z)) (by rw [List.length_drop]; omega) (by
    rw [List.all_eq_true] at hca ⊢
    exact fun v hv => hca v (List.mem_of_mem_drop hv))
  have fin : va_Run p l ev R s m args below meth c H locs cells slots mc ms (F0 m pc lsR (stk.map (tv B b))) ((stk.drop (mArgs z)).map (tv B b)) (QcA B b D dA rv h' (as.map (tv B b)).toArray) (fun q : Nat => B ≤ q) := by
    by_cases hr2 : r2 = 1
    · have hzc : ¬ z = NCELL := fun q => hau.2.2 q hr2
      have hrs8 : (((stk.drop (mArgs z)).map (tv B b)).map fun v => v.category).sum ≤ 8 := by
        have e : rB z = 8 := if_neg hzc
        rw [← e]; exact hrs
      refine va_runSN (Ts := GW) (index := idx) (host := RX4) ⟨hexec, hb, hml, hown, C.gw⟩ hM ⟨⟨⟨rfl, rfl, Nat.le_trans k2 hfr, by show 8 + (mMaxL z + 11) + mLo z ≤ R.locals; omega, ws_stay C w2.1, List.mem_cons_self⟩, w2.2, w3.2, ⟨k5, k6⟩, parse_n k4, ?_⟩, w4.2, trivial⟩ ⟨pc_blind, pc_holds C hS hR⟩ rfl hn hsz hst (lv_room hrs8) hd ⟨hcl, hsl⟩
      have := w1.2
      unfold linkW at this
      rwa [if_pos hr2] at this
    · have hrs16 : (((stk.drop (mArgs z)).map (tv B b)).map fun v => v.category).sum ≤ 16 := by
        refine Nat.le_trans hrs ?_
        unfold rB
        split <;> omega
      refine run_S16 (index := idx) hexec hb hml hown hM pc_blind (Nat.le_trans k2 hfr) (by show 16 + (mMaxL z + 11) + mLo z ≤ R.locals; omega) (ws_stay C w2.1) w2.2 w3.2 ⟨k5, k6⟩ (parse_n k4) ?_ w4.2 (pc_holds C hS hR) hn hsz hst hrs16 hd hcl hsl
      have := w1.2
      unfold linkW at this
      rwa [if_neg hr2] at this
  refine rp_call fin hS (fun H1 locs1 hS1 hR1 => ?_)
  have := kk H1 locs1 hS1 hR1
  rw [List.map_append] at this
  have e2 : (rv.map (tv B b)).toList = rv.toList.map (tv B b) := by cases rv <;> rfl
  rw [e2]
  exact this
theorem call_V (C : Cx B b D dA p R s m args meth c y sc) (hS : va_S (fun q : Nat => B ≤ q) s.heap H locs) (hR : Rp B b D dA h H) (hsz : lsR.size = mMaxL y) {idx : Nat} {r2 : Int} {pc : Nat} (he : (pc, .invokevirtual idx, z, r2) ∈ kOf y) {a ca : Nat} {fs : List Value} (ha : h[a]? = some (.inr (ca, fs))) (hca0 : ca = mCi z)
    (hM : Met l (mName z) (wsF z) (rmF z mc ms) (PcA B b D dA (scOf z sc) as h) (QcA B b D dA rv h') mc ms (fun q : Nat => B ≤ q)) (hzc : ¬ z = NCELL) (hal : mArgs z ≤ stk.length) (h8 : stk.length ≤ mArgs z + rB z) (hca : stk.all (fun v => v.category == 1) = true) (hdr : stk.drop (mArgs z) = .ref a :: rest) (has : as = .ref a :: (stk.take (mArgs z)).reverse) (hcl : cells + mc ≤ R.cells) (hsl : slots + ms ≤ R.slots)
    (kk : ∀ (H1 : Heap) (locs1 : List Loc), va_S (fun q : Nat => B ≤ q) s.heap H1 locs1 → Rp B b D dA h' H1 → W p l ev R s m args below meth c H1 locs1 (cells + mc) (slots + ms) Q (F0 m (pc + 3) lsR ((rv.toList ++ rest).map (tv B b)))) : W p l ev R s m args below meth c H locs cells slots Q (F0 m pc lsR (stk.map (tv B b))) := by
  obtain ⟨hexec, hb, hml, hown, hws, hK, hini, hfr, hlo, ⟨hy, hK1, hK2, hK3, hK4⟩, hBs, hsc⟩ := id C
  have hok := List.all_eq_true.mp (hK1 y hy) _ he
  have hnd := hK2 y hy _ he
  unfold eok at hok
  rw [Bool.and_eq_true, decide_eq_true_eq] at hok
  obtain ⟨hd, hau⟩ := hok
  dsimp only at hau
  simp only [Bool.and_eq_true, decide_eq_true_eq] at hau
  obtain ⟨⟨⟨hau1, hau2⟩, hau3⟩, hau4⟩ := hau
  obtain ⟨k1, k2, k3, k4, k5, k6, k7, k8⟩ := callOk_spec hau1
  have wd : ∀ w ∈ ([linkW y idx (pc, .invokevirtual idx, z, r2), .code (mName z) (mCode z) (mMaxL z) (mRet z), .initialized (mName z).cls, .instanceMethod (mName z), .selects (mName z).cls (mName z) (mName z)] : List Cond), w ∈ lw_tbl ∧ w.before args s = true := by
    intro w hw
    have hw2 : w ∈ needs y (pc, .invokevirtual idx, z, r2) := hw
    exact ⟨(hnd w hw2).1, hws w (hnd w hw2).1 (hnd w hw2).2⟩
  have w1 := wd _ List.mem_cons_self
  have w2 := wd _ (List.mem_cons_of_mem _ List.mem_cons_self)
  have w3 := wd _ (List.mem_cons_of_mem _ (List.mem_cons_of_mem _ List.mem_cons_self))
  have w4 := wd _ (List.mem_cons_of_mem _ (List.mem_cons_of_mem _ (List.mem_cons_of_mem _ List.mem_cons_self)))
  have w5 := wd _ (List.mem_cons_of_mem _ (List.mem_cons_of_mem _ (List.mem_cons_of_mem _ (List.mem_cons_of_mem _ List.mem_cons_self))))
  have hst : stk.map (tv B b) = (((stk.take (mArgs z)).reverse).map (tv B b)).reverse ++ .ref (B + a) :: rest.map (tv B b) := by
    rw [List.map_reverse, List.reverse_reverse]
    show _ = _ ++ (Value.ref a :: rest).map (tv B b)
    rw [← hdr, ← List.map_append, List.take_append_drop]
  have hn : (((stk.take (mArgs z)).reverse).map (tv B b)).length = mArgs z := by rw [List.length_map, List.length_reverse, List.length_take]; omega
  have hrl : rest.length ≤ 8 := by
    have := congrArg List.length hdr
    rw [List.length_drop, List.length_cons] at this
    unfold rB at h8
    rw [if_neg hzc] at h8
    omega
  have hrs := cat_map (B := B) (b := b) rest hrl (by
    rw [List.all_eq_true] at hca ⊢
    exact fun v hv => hca v (List.mem_of_mem_drop (i := mArgs z) (by rw [hdr]; exact List.mem_cons_of_mem _ hv)))
  have hP : va_P D vwCl [(B + a, tE B b dA (.inr (ca, fs)))] H := by
    intro k q hq
    have hl := (List.getElem?_eq_some_iff.mp hq).1
    have : k = 0 := by simp at hl; omega
    subst this
    cases hq
    exact hR.2 a _ ha
  have hrec : ∃ cell : Cell, H[B + a]? = some cell ∧ cell.vm.isStatics = false ∧ s.vm.findClass (mName z).cls = some cell.cls := by
    rw [← hau3, ← hca0]
    have hc6 : ca < 5 := by rw [hca0]; exact hau2
    exact va_recv hK hP (vw_at hc6) (q0 := 0) (fs := fs.map (tv B b)) rfl
  have hpre := pc_holds (z := z) (as := as) C hS hR
  have fin : va_Run p l ev R s m args below meth c H locs cells slots mc ms (F0 m pc lsR (stk.map (tv B b))) (rest.map (tv B b)) (QcA B b D dA rv h' (Value.ref (B + a) :: ((stk.take (mArgs z)).reverse).map (tv B b)).toArray) (fun q : Nat => B ≤ q) := by
    rw [has] at hpre hM
    by_cases hr2 : r2 = 1
    · refine va_runVN (Ts := GW) (index := idx) (host := RX4) (C := (mName z).cls) ⟨hexec, hb, hml, hown, C.gw⟩ hM ⟨⟨⟨rfl, rfl, Nat.le_trans k2 hfr, (by show 8 + (mMaxL z + 11) + mLo z ≤ R.locals; omega), ws_stay C w2.1, List.mem_cons_self⟩, w2.2, w3.2, ⟨k5, k6⟩, parse_n k4, ?_⟩, w4.2, w5.2⟩ ⟨pc_blind, hrec, hpre⟩ rfl hn hsz hst (lv_room hrs) hd ⟨hcl, hsl⟩
      have := w1.2
      unfold linkW at this
      rwa [if_pos hr2] at this
    · refine va_runV (Ts := GW) (index := idx) (C := (mName z).cls) ⟨hexec, hb, hml, hown, C.gw⟩ hM ⟨⟨rfl, rfl, Nat.le_trans k2 hfr, (by show 8 + (mMaxL z + 11) + mLo z ≤ R.locals; omega), ws_stay C w2.1, List.mem_cons_self, w2.2, w3.2, ⟨k5, k6⟩, parse_n k4, ?_⟩, w4.2, w5.2⟩ ⟨pc_blind, hrec, hpre⟩ rfl hn hsz hst (lv_room hrs) hd ⟨hcl, hsl⟩
      have := w1.2
      unfold linkW at this
      rwa [if_neg hr2] at this
  refine rp_call fin hS (fun H1 locs1 hS1 hR1 => ?_)
  have := kk H1 locs1 hS1 hR1
  rw [List.map_append] at this
  have e2 : (rv.map (tv B b)).toList = rv.toList.map (tv B b) := by cases rv <;> rfl
  rw [e2]
  exact this
theorem call_I (C : Cx B b D dA p R s m args meth c y sc) (hS : va_S (fun q : Nat => B ≤ q) s.heap H locs) (hR : Rp B b D dA h H) (hsz : lsR.size = mMaxL y) {idx : Nat} {r2 : Int} {pc : Nat} (he : (pc, .invokespecial idx, z, r2) ∈ kOf y) (hz : ¬ z = OBJ) {a : Nat}
    (hM : Met l (mName z) (wsF z) (rmF z mc ms) (PcA B b D dA (scOf z sc) as h) (QcA B b D dA rv h') mc ms (fun q : Nat => B ≤ q)) (hzc : ¬ z = NCELL) (hal : mArgs z ≤ stk.length) (h8 : stk.length ≤ mArgs z + rB z) (hca : stk.all (fun v => v.category == 1) = true) (hdr : stk.drop (mArgs z) = .ref a :: rest) (has : as = .ref a :: (stk.take (mArgs z)).reverse) (hcl : cells + mc ≤ R.cells) (hsl : slots + ms ≤ R.slots)
    (kk : ∀ (H1 : Heap) (locs1 : List Loc), va_S (fun q : Nat => B ≤ q) s.heap H1 locs1 → Rp B b D dA h' H1 → W p l ev R s m args below meth c H1 locs1 (cells + mc) (slots + ms) Q (F0 m (pc + 3) lsR ((rv.toList ++ rest).map (tv B b)))) : W p l ev R s m args below meth c H locs cells slots Q (F0 m pc lsR (stk.map (tv B b))) := by
  obtain ⟨hexec, hb, hml, hown, hws, hK, hini, hfr, hlo, ⟨hy, hK1, hK2, hK3, hK4⟩, hBs, hsc⟩ := id C
  have hok := List.all_eq_true.mp (hK1 y hy) _ he
  have hnd := hK2 y hy _ he
  unfold eok at hok
  rw [Bool.and_eq_true, decide_eq_true_eq] at hok
  obtain ⟨hd, hau⟩ := hok
  dsimp only at hau
  rw [if_neg hz] at hau
  simp only [Bool.and_eq_true, decide_eq_true_eq] at hau
  obtain ⟨⟨⟨hau1, hau2⟩, hau3⟩, hau4⟩ := hau
  obtain ⟨k1, k2, k3, k4, k5, k6, k7, k8⟩ := callOk_spec hau1
  have wd : ∀ w ∈ ([linkW y idx (pc, .invokespecial idx, z, r2), .code (mName z) (mCode z) (mMaxL z) (mRet z), .initialized (mName z).cls, .instanceMethod (mName z)] : List Cond), w ∈ lw_tbl ∧ w.before args s = true := by
    intro w hw
    have hw2 : w ∈ needs y (pc, .invokespecial idx, z, r2) := by
      dsimp only [needs]
      rw [if_neg hz]
      exact hw
    exact ⟨(hnd w hw2).1, hws w (hnd w hw2).1 (hnd w hw2).2⟩
  have w1 := wd _ List.mem_cons_self
  have w2 := wd _ (List.mem_cons_of_mem _ List.mem_cons_self)
  have w3 := wd _ (List.mem_cons_of_mem _ (List.mem_cons_of_mem _ List.mem_cons_self))
  have w4 := wd _ (List.mem_cons_of_mem _ (List.mem_cons_of_mem _ (List.mem_cons_of_mem _ List.mem_cons_self)))
  have hst : stk.map (tv B b) = (((stk.take (mArgs z)).reverse).map (tv B b)).reverse ++ .ref (B + a) :: rest.map (tv B b) := by
    rw [List.map_reverse, List.reverse_reverse]
    show _ = _ ++ (Value.ref a :: rest).map (tv B b)
    rw [← hdr, ← List.map_append, List.take_append_drop]
  have hn : (((stk.take (mArgs z)).reverse).map (tv B b)).length = mArgs z := by rw [List.length_map, List.length_reverse, List.length_take]; omega
  have hrl : rest.length ≤ 8 := by
    have := congrArg List.length hdr
    rw [List.length_drop, List.length_cons] at this
    unfold rB at h8
    rw [if_neg hzc] at h8
    omega
  have hrs := cat_map (B := B) (b := b) rest hrl (by
    rw [List.all_eq_true] at hca ⊢
    exact fun v hv => hca v (List.mem_of_mem_drop (i := mArgs z) (by rw [hdr]; exact List.mem_cons_of_mem _ hv)))
  have hpre := pc_holds (z := z) (as := as) C hS hR
  have hcd := ws_stay C w2.1
  have hcm : Cond.code (mName z) (mCode z) (mMaxL z) none ∈ wsF z := by rw [← hau3]; exact List.mem_cons_self
  have w2' := w2.2
  rw [hau3] at w2'
  have fin : va_Run p l ev R s m args below meth c H locs cells slots mc ms (F0 m pc lsR (stk.map (tv B b))) (rest.map (tv B b)) (QcA B b D dA rv h' (Value.ref (B + a) :: ((stk.take (mArgs z)).reverse).map (tv B b)).toArray) (fun q : Nat => B ≤ q) := by
    rw [has] at hpre hM
    by_cases hr2 : r2 = 1
    · refine va_runIN (Ts := GW) (index := idx) (host := RX4) ⟨hexec, hb, hml, hown, C.gw⟩ hM ⟨⟨⟨rfl, rfl, Nat.le_trans k2 hfr, (by show 8 + (mMaxL z + 11) + mLo z ≤ R.locals; omega), hcd, hcm⟩, w2', w3.2, ⟨k5, k6⟩, parse_n k4, ?_⟩, hau2, w4.2⟩ ⟨pc_blind, hpre⟩ rfl hn hsz hst (lv_room hrs) hd ⟨hcl, hsl⟩
      have := w1.2
      unfold linkW at this
      rwa [if_pos hr2] at this
    · refine va_runI (Ts := GW) (index := idx) ⟨hexec, hb, hml, hown, C.gw⟩ hM ⟨⟨rfl, rfl, Nat.le_trans k2 hfr, (by show 8 + (mMaxL z + 11) + mLo z ≤ R.locals; omega), hcd, hcm, w2', w3.2, ⟨k5, k6⟩, parse_n k4, ?_⟩, hau2, w4.2⟩ ⟨pc_blind, hpre⟩ rfl hn hsz hst (lv_room hrs) hd ⟨hcl, hsl⟩
      have := w1.2
      unfold linkW at this
      rwa [if_neg hr2] at this
  refine rp_call fin hS (fun H1 locs1 hS1 hR1 => ?_)
  have := kk H1 locs1 hS1 hR1
  rw [List.map_append] at this
  have e2 : (rv.map (tv B b)).toList = rv.toList.map (tv B b) := by cases rv <;> rfl
  rw [e2]
  exact this
end CALLS
