/-! W follows a whole run: calls by induction on the fuel. -/
def wsF (y : Nat) : List Cond := .code (mName y) (mCode y) (mMaxL y) (mRet y) :: GW
def rmF (y mc ms : Nat) : Room := { frames := mFr y, cells := mc, slots := ms, locals := mLo y }
def PcA (B b : Nat) (D : va_G) (dA : Nat → ClassId) (sc : Scr) (as : List Value) (h : AHp) : Array Value → State → Prop := va_Pc (as.map (tv B b)) (fun U => Rp B b D dA h U.heap ∧ va_K D vwCl (tysL dA) U ∧ (∀ w ∈ NW, va_Nw w U) ∧ ∀ L xs, sc = some (L, xs) → va_X b L xs U U.heap ∧ b < B)
def QcA (B b : Nat) (D : va_G) (dA : Nat → ClassId) (rv : Option Value) (h' : AHp) : Array Value → State → Outcome → State → Prop := fun _ st oc t => (oc = .returned (rv.map (tv B b)) ∧ Rp B b D dA h' t.heap) ∧ va_F (fun q : Nat => B ≤ q) st t
def CallOK (n : Nat) : Prop := ∀ (l : Launch) (B b : Nat) (D : va_G) (dA : Nat → ClassId) (z : Nat) (sc : Scr) (as : List Value) (h : AHp) (rv : Option Value) (h' : AHp), KOK → z < NM → plainName (mName z).cls = true → as.length ≤ mMaxL z → as.all (fun v => v.category == 1) = true → run n sc z 0 (ent0 z as) [] h = some (rv, h') →
  Met l (mName z) (wsF z) (rmF z (h'.length - h.length) (szH h' - szH h)) (PcA B b D dA sc as h) (QcA B b D dA rv h') (h'.length - h.length) (szH h' - szH h) (fun q : Nat => B ≤ q)
def RetAt (y pc : Nat) (rv : Option Value) : Prop := (rv = none ∧ mRet y = none ∧ decode (mCode y) pc = .ok (.return_, 1)) ∨ (∃ v : Int32, rv = some (.int v) ∧ (mRet y = some .int ∨ (mRet y = some .boolean ∧ (v = 0 ∨ v = 1))) ∧ decode (mCode y) pc = .ok (.ireturn, 1)) ∨ (∃ (a : Nat) (cn : String), rv = some (.ref a) ∧ mRet y = some (.object cn) ∧ decode (mCode y) pc = .ok (.areturn, 1))
theorem nw_car {w : Cond} (h : w ∈ NW) : w ∈ lw_tbl ∧ carW w = true := List.mem_filter.mp h
theorem nw_warm {w : Cond} (hw : carW w = true) {s U : State} (hW : s.WarmedH U.vm) (h : va_Nw w s) : va_Nw w U := by
  unfold carW at hw
  split at hw
  · exact va_Nw.warmM hW h
  · exact va_AO.moved hW.alike h
  · cases hw
theorem nw_same {w : Cond} (hw : carW w = true) {u U : State} (h : u.vm = U.vm) (hZ : va_Nw w u) : va_Nw w U := by
  unfold carW at hw
  split at hw
  · exact va_Nw.same rfl h hZ
  · exact va_AO.moved (by rw [h]; exact Vm.Alike.refl _) hZ
  · cases hw
theorem nw_of {w : Cond} (hw : carW w = true) {A : Array Value} {U : State} (h : w.before A U = true) : va_Nw w U := by
  unfold carW at hw
  split at hw
  · exact va_Nw.of rfl h
  · exact h
  · cases hw
theorem nw_use {w : Cond} (hw : carW w = true) {A : Array Value} {U : State} (h : va_Nw w U) : w.before A U = true := by
  unfold carW at hw
  split at hw
  · exact va_Nw.use rfl h
  · exact h
  · cases hw
theorem ex1_mono {sc : Scr} {e : Ent} {ls stk : List Value} {h : AHp} {q : Cfg} (hx : ex1 sc e ls stk h = some q) : h.length ≤ q.2.2.2.length ∧ szH h ≤ szH q.2.2.2 := by
  have key : q.2.2.2 = h ∨ (∃ i e0 e, h[i]? = some e0 ∧ szE e = szE e0 ∧ q.2.2.2 = h.set i e) ∨ ∃ e, q.2.2.2 = h ++ [e] := by
    obtain ⟨pc, i, r1, r2⟩ := e
    cases i <;> dsimp only [ex1] at hx <;> (repeat' split at hx) <;> first
      | (cases hx; done)
      | (cases hx; exact Or.inl rfl)
      | (cases hx; exact Or.inr (Or.inr ⟨_, rfl⟩))
      | (cases hx; exact Or.inr (Or.inl ⟨_, _, _, by assumption, by simp [szE], rfl⟩))
  rcases key with h1 | ⟨i, e0, e, h1, h2, h3⟩ | ⟨e, h1⟩
  · rw [h1]; exact ⟨Nat.le_refl _, Nat.le_refl _⟩
  · rw [h3, List.length_set, szH_set h1 h2]; exact ⟨Nat.le_refl _, Nat.le_refl _⟩
  · rw [h1, List.length_append, szH_push]; exact ⟨Nat.le_add_right _ _, Nat.le_add_right _ _⟩
theorem run_mono : ∀ (n : Nat) {sc : Scr} {y pc : Nat} {ls stk : List Value} {h : AHp} {rv : Option Value} {hf : AHp}, run n sc y pc ls stk h = some (rv, hf) → h.length ≤ hf.length ∧ szH h ≤ szH hf := by
  intro n
  induction n with
  | zero => intro sc y pc ls stk h rv hf hx; exact absurd hx (by simp [run])
  | succ n ih =>
    intro sc y pc ls stk h rv hf hx
    unfold run at hx
    split at hx
    · cases hx
    · rename_i e he
      split at hx
      · obtain ⟨q, h1, h2⟩ := Option.bind_eq_some_iff.mp hx
        have a := ex1_mono h1
        have c := ih h2
        exact ⟨Nat.le_trans a.1 c.1, Nat.le_trans a.2 c.2⟩
      · obtain ⟨q, h1, h2⟩ := Option.map_eq_some_iff.mp hx
        cases h2
        exact ⟨Nat.le_refl _, Nat.le_refl _⟩
      · obtain ⟨q, h1, h2⟩ := Option.bind_eq_some_iff.mp hx
        obtain ⟨⟨r1, r2⟩, h3, h4⟩ := Option.bind_eq_some_iff.mp h2
        have a := ih h3
        have c := ih h4
        exact ⟨Nat.le_trans a.1 c.1, Nat.le_trans a.2 c.2⟩
theorem lvargs_mem : ∀ (vs : List Value) (i k : Nat) (v : Value), vs.all (fun v => v.category == 1) = true → vs[k]? = some v → (i + k, v) ∈ lv_args i vs := by
  intro vs
  induction vs with
  | nil => intro i k v _ h; simp at h
  | cons w vs ih =>
    intro i k v hc h
    simp only [List.all_cons, Bool.and_eq_true, beq_iff_eq] at hc
    unfold lv_args
    cases k with
    | zero => simp at h; subst h; exact List.mem_cons_self
    | succ k =>
      refine List.mem_cons_of_mem _ ?_
      rw [if_neg (by rw [hc.1]; decide)]
      have := ih (i + 1) k v hc.2 (by simpa using h)
      rwa [show i + (k + 1) = i + 1 + k by omega]
theorem lgsl_len (vs : List Value) (hc : vs.all (fun v => v.category == 1) = true) : (lg_sl vs).length = vs.length := by
  induction vs with
  | nil => rfl
  | cons w vs ih =>
    simp only [List.all_cons, Bool.and_eq_true, beq_iff_eq] at hc
    have := ih hc.2
    unfold lg_sl at this ⊢
    rw [List.flatMap_cons, List.length_append, this, if_neg (by rw [hc.1]; decide)]
    simp only [List.length_cons, List.length_nil]
    omega
theorem all_tv (B b : Nat) (as : List Value) (h : as.all (fun v => v.category == 1) = true) : (as.map (tv B b)).all (fun v => v.category == 1) = true := by
  simp only [List.all_eq_true, List.mem_map, beq_iff_eq] at h ⊢
  rintro v ⟨w, hw, rfl⟩
  rw [tv_cat]; exact h w hw
/-- the locals at a method's entry -/
theorem LV.entry (B b : Nat) {z : Nat} {as : List Value} (h8 : as.length ≤ mMaxL z) (hc : as.all (fun v => v.category == 1) = true) : LV B b (mMaxL z) (ent0 z as) ((lg_sl (as.map (tv B b)) ++ List.replicate (mMaxL z - (lg_sl (as.map (tv B b))).length) Slot.unset).toArray) := by
  have hc2 := all_tv B b as hc
  have hlen := lgsl_len _ hc2
  rw [List.length_map] at hlen
  obtain ⟨h1, h2, h3⟩ := lv_entry (as.map (tv B b)) (n := mMaxL z) (by rw [hlen]; exact h8)
  refine ⟨h1, by unfold ent0; rw [List.length_append, List.length_replicate]; omega, h2, fun k v hk hv => ?_⟩
  unfold ent0 at hk
  by_cases hl : k < as.length
  · rw [List.getElem?_append_left hl] at hk
    have := lvargs_mem (as.map (tv B b)) 0 k (tv B b v) hc2 (by rw [List.getElem?_map, hk]; rfl)
    rw [Nat.zero_add] at this
    exact h3 _ this
  · rw [List.getElem?_append_right (by omega), List.getElem?_replicate] at hk
    split at hk
    · cases hk; cases hv
    · cases hk
section CALL
variable {B b : Nat} {D : va_G} {dA : Nat → ClassId} {p : Program} {l : Launch} {ev : Env} {R : Room} {s : State} {m : MethodId} {args : Array Value} {below : List Frame} {meth : Method} {c : Code} {H : Heap} {locs : List Loc} {cells slots mc ms : Nat} {Q : State → Prop} {y z : Nat} {sc : Scr} {h h' : AHp} {pc : Nat} {lsR : Array Slot} {rest st0 as : List Value} {rv : Option Value} {a : Array Value}
theorem rp_call (hr : va_Run p l ev R s m args below meth c H locs cells slots mc ms (F0 m pc lsR st0) rest (QcA B b D dA rv h' a) (fun q : Nat => B ≤ q)) (hS : va_S (fun q : Nat => B ≤ q) s.heap H locs)
    (kk : ∀ (H1 : Heap) (locs1 : List Loc), va_S (fun q : Nat => B ≤ q) s.heap H1 locs1 → Rp B b D dA h' H1 → W p l ev R s m args below meth c H1 locs1 (cells + mc) (slots + ms) Q (F0 m (pc + 3) lsR ((rv.map (tv B b)).toList ++ rest))) : W p l ev R s m args below meth c H locs cells slots Q (F0 m pc lsR st0) := by
  intro T hT X
  obtain ⟨v, st₀, t, T', L, h0, X', hL, e1, e2, ⟨⟨hv, hp⟩, hz, hk⟩, st⟩ := hr T hT X
  cases hv
  rw [h0] at hz hk
  obtain ⟨t2, a1, b1⟩ := kk T'.heap (locs ++ L) ⟨Nat.le_trans hS.1 (by rw [e1]; exact hz), fun q h1 h2 => by rw [e1, hk q (Nat.lt_of_lt_of_le h1 hS.1) h2]; exact hS.2.1 q h1 h2, fun q hq => by
      rcases List.mem_append.mp hq with h | h
      · exact hS.2.2 q h
      · exact hL q h⟩ (by rw [e1]; exact hp) T' rfl X'
  exact ⟨t2, st t2 a1, b1⟩
theorem pc_blind : FrameBlind (PcA B b D dA sc as h) := fun a U g mk q => ⟨q.1, q.2.1, va_K.moved (u := U) (U := U.calling g mk a) (Vm.Alike.refl U.vm) q.2.2.1, fun w hw => nw_same (nw_car hw).2 (u := U) (U := U.calling g mk a) rfl (q.2.2.2.1 w hw), fun L xs e => ⟨va_X.moved (u := U) (U := U.calling g mk a) (Vm.Alike.refl U.vm) (q.2.2.2.2 L xs e).1, (q.2.2.2.2 L xs e).2⟩⟩
theorem Cx.nw (C : Cx B b D dA p R s m args meth c y sc) : ∀ w ∈ NW, va_Nw w s := by
  obtain ⟨-, -, -, -, h, -⟩ := C
  intro w hw
  obtain ⟨h1, h2⟩ := nw_car hw
  exact nw_of h2 (h w h1 (by simp [okW, h2]))
theorem pc_holds (C : Cx B b D dA p R s m args meth c y sc) (hS : va_S (fun q : Nat => B ≤ q) s.heap H locs) (hR : Rp B b D dA h H) : ∀ U : State, U.heap = H → s.WarmedH U.vm → PcA B b D dA (scOf z sc) as h (as.map (tv B b)).toArray U := by
  intro U hU hW
  obtain ⟨-, -, -, -, -, hK, -, -, -, -, hB, hX⟩ := id C
  refine ⟨rfl, by rw [hU]; exact hR, va_K.moved hW.alike hK, fun w hw => nw_warm (nw_car hw).2 hW (C.nw w hw), fun L xs e => ?_⟩
  have e2 : sc = some (L, xs) := by
    unfold scOf at e
    split at e
    · exact e
    · cases e
  obtain ⟨x1, x2⟩ := hX L xs e2
  refine ⟨?_, x2⟩
  rw [hU]
  exact (x1.kept (hS.2.1 b (Nat.lt_of_lt_of_le x2 hB) (by omega))).moved hW.alike
theorem ws_stay (C : Cx B b D dA p R s m args meth c y sc) (hcd : Cond.code (mName z) (mCode z) (mMaxL z) (mRet z) ∈ lw_tbl) : ∀ w ∈ wsF z, ∀ (a' : Array Value) (U : State), s.WarmedH U.vm → w.before a' U = true := by
  intro w hw a' U hW
  have hg : goodWord w = true ∧ w ∈ lw_tbl := by
    rcases List.mem_cons.mp hw with rfl | h1
    · exact ⟨rfl, hcd⟩
    · exact ⟨(List.mem_filter.mp h1).2, (List.mem_filter.mp h1).1⟩
  obtain ⟨-, -, -, -, hws, -⟩ := C
  exact word_at hW (good_of_word hg.1) (hws w hg.2 (by simp [okW, hg.1]))
end CALL
