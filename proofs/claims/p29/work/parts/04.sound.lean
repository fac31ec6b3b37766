/-! W follows the machine of part 08: one step. -/
def tysL (dA : Nat → ClassId) : List (ClassId × FieldType) := [(dA 0, .int), (dA 1, .object RX0), (dA 2, .object RX1), (dA 3, .object RX3)]
def Rp (B b : Nat) (D : va_G) (dA : Nat → ClassId) (h : AHp) (H : Heap) : Prop := H.size = B + h.length ∧ ∀ (k : Nat) (e : AE), h[k]? = some e → va_at D vwCl (B + k, tE B b dA e) H
def LV (B b n : Nat) (ls : List Value) (lsR : Array Slot) : Prop := lsR.size = n ∧ ls.length = n ∧ lv_wf lsR ∧ ∀ (k : Nat) (v : Value), ls[k]? = some v → v.category = 1 → lsR[k]? = some (.val (tv B b v))
/-- what part 80 on decides of the program as data -/
def KOK : Prop := (∀ y, y < NM → (kOf y).all (eok y) = true) ∧ (∀ y, y < NM → ∀ e ∈ kOf y, ∀ w ∈ needs y e, w ∈ lw_tbl ∧ okW w = true) ∧ (∀ c, c < 5 → ∀ w ∈ u_ws (vAt c).1 (vAt c).2.1 (vAt c).2.2, w ∈ GW) ∧ (∀ y, y < NM → mOwn y = (mName y).cls ∧ (mIni y = true → (mName y).name = "<init>"))
def Cx (B b : Nat) (D : va_G) (dA : Nat → ClassId) (p : Program) (R : Room) (s : State) (m : MethodId) (args : Array Value) (meth : Method) (c : Code) (y : Nat) (sc : Scr) : Prop :=
  p.tables.exec = Jvm.exec ∧ c.code = mCode y ∧ c.maxLocals = mMaxL y ∧ s.vm.findClass (mOwn y) = some m.cls ∧ (∀ w ∈ lw_tbl, okW w = true → w.before args s = true) ∧ va_K D vwCl (tysL dA) s ∧ (mIni y = true → meth.name = "<init>") ∧ mFr y ≤ R.frames ∧ mLo y ≤ R.locals ∧ (y < NM ∧ KOK) ∧ B ≤ s.heap.size ∧ (∀ L xs, sc = some (L, xs) → va_X b L xs s s.heap ∧ b < B)
theorem tv_cat (B b : Nat) (v : Value) : (tv B b v).category = v.category := by cases v <;> rfl
theorem tyAt_ok {c : Nat} (h : c < 5) : ∀ k, k < (vAt c).2.2 → parseFieldDescriptor ((vAt c).2.1 k).2.2.1 = some (tyAt c k) := by
  rcases (show c = 0 ∨ c = 1 ∨ c = 2 ∨ c = 3 ∨ c = 4 by omega) with rfl | rfl | rfl | rfl | rfl
  · exact tyX0_ok
  · exact tyX1_ok
  · exact tyX2_ok
  · exact tyX3_ok
  · exact tyX4_ok
theorem nmAt {c : Nat} (h : c < 5) : ∀ a, a < (vAt c).2.2 → ∀ b, b < (vAt c).2.2 → a ≠ b → ((vAt c).2.1 a).2.1 ≠ ((vAt c).2.1 b).2.1 := by
  rcases (show c = 0 ∨ c = 1 ∨ c = 2 ∨ c = 3 ∨ c = 4 by omega) with rfl | rfl | rfl | rfl | rfl
  · exact nmX0
  · exact nmX1
  · exact nmX2
  · exact nmX3
  · exact nmX4
theorem vw_at {c : Nat} (h : c < 5) : vwCl[c]? = some ((vAt c).1, (vAt c).2.1, (vAt c).2.2) := by
  rcases (show c = 0 ∨ c = 1 ∨ c = 2 ∨ c = 3 ∨ c = 4 by omega) with rfl | rfl | rfl | rfl | rfl <;> rfl
theorem vw_lt {c : Nat} {r : vw_C} (h : vwCl[c]? = some r) : c < 5 := (List.getElem?_eq_some_iff.mp h).1
theorem dflt_ok {c : Nat} (h : c < 5) : (dflt c).length = (vAt c).2.2 ∧ ∀ B b j, j < (vAt c).2.2 → defaultValue (tyAt c j) = vp_V ((dflt c).map (tv B b)) j := by
  have key : ∀ B b, (dflt c).map (tv B b) = dflt c := by
    intro B b
    rcases (show c = 0 ∨ c = 1 ∨ c = 2 ∨ c = 3 ∨ c = 4 by omega) with rfl | rfl | rfl | rfl | rfl <;> rfl
  have k2 : (dflt c).length = (vAt c).2.2 ∧ ∀ j, j < (vAt c).2.2 → defaultValue (tyAt c j) = vp_V (dflt c) j := by
    rcases (show c = 0 ∨ c = 1 ∨ c = 2 ∨ c = 3 ∨ c = 4 by omega) with rfl | rfl | rfl | rfl | rfl <;> exact ⟨rfl, by decide +kernel⟩
  exact ⟨k2.1, fun B b j hj => by rw [key]; exact k2.2 j hj⟩
theorem vOk_spec {ty : FieldType} {v : Value} (B b : Nat) (h : vOk ty v = true) : narrow ty (tv B b v) = tv B b v ∧ fits ty (tv B b v) = true := by
  unfold vOk at h
  split at h
  · exact ⟨rfl, rfl⟩
  · rename_i x
    rcases (show x = 0 ∨ x = 1 by simpa using h) with rfl | rfl <;> exact ⟨rfl, rfl⟩
  · exact ⟨rfl, rfl⟩
  · exact ⟨rfl, rfl⟩
  · exact ⟨rfl, rfl⟩
  · exact ⟨rfl, rfl⟩
  · cases h
section RPL
variable {B b : Nat} {D : va_G} {dA : Nat → ClassId} {h : AHp} {H H1 : Heap}
theorem rp_set {k : Nat} {e0 e : AE} (hR : Rp B b D dA h H) (hk : h[k]? = some e0) (he : va_at D vwCl (B + k, tE B b dA e) H1) (hz : H1.size = H.size) (oq : ∀ q : Nat, q ≠ B + k → H1[q]? = H[q]?) : Rp B b D dA (h.set k e) H1 := by
  have hl := (List.getElem?_eq_some_iff.mp hk).1
  refine ⟨by rw [hz, hR.1, List.length_set], fun j e1 hj => ?_⟩
  by_cases hjk : j = k
  · subst hjk
    rw [List.getElem?_set_self hl] at hj
    cases hj
    exact he
  · rw [List.getElem?_set_ne (Ne.symm hjk)] at hj
    exact (hR.2 j e1 hj).kept (oq _ (by show B + j ≠ B + k; omega))
theorem rp_push {e : AE} (hR : Rp B b D dA h H) (he : va_at D vwCl (B + h.length, tE B b dA e) H1) (hz : H1.size = H.size + 1) (oq : ∀ q : Nat, q < H.size → H1[q]? = H[q]?) : Rp B b D dA (h ++ [e]) H1 := by
  refine ⟨by rw [hz, hR.1, List.length_append]; rfl, fun j e1 hj => ?_⟩
  by_cases hjk : j < h.length
  · rw [List.getElem?_append_left hjk] at hj
    exact (hR.2 j e1 hj).kept (oq _ (by show B + j < H.size; rw [hR.1]; omega))
  · rw [List.getElem?_append_right (by omega)] at hj
    have hz := (List.getElem?_eq_some_iff.mp hj).1
    have e2 : j = h.length := by simp at hz; omega
    subst e2
    rw [Nat.sub_self] at hj
    cases hj
    exact he
theorem rp_lt {k : Nat} {e : AE} (hR : Rp B b D dA h H) (hk : h[k]? = some e) : B + k < H.size := by
  have hl := (List.getElem?_eq_some_iff.mp hk).1
  rw [hR.1]; omega
theorem s_grow {s : State} {locs : List Loc} (hS : va_S (fun q : Nat => B ≤ q) s.heap H locs) (hz : H1.size = H.size + 1) (oq : ∀ q : Nat, q < H.size → H1[q]? = H[q]?) : va_S (fun q : Nat => B ≤ q) s.heap H1 locs :=
  ⟨Nat.le_trans hS.1 (by omega), fun x h1 h2 => (oq x (Nat.lt_of_lt_of_le h1 hS.1)).trans (hS.2.1 x h1 h2), hS.2.2⟩
end RPL
section LVL
variable {B b n : Nat} {ls : List Value} {lsR : Array Slot}
def lvP (B b : Nat) (ls : List Value) : List (Nat × Value) := (ls.mapIdx (fun k v => (k, v))).filterMap (fun q => if q.2.category = 1 then some (q.1, tv B b q.2) else none)
theorem lvP_mem {k : Nat} {v : Value} (h : ls[k]? = some v) (hc : v.category = 1) : (k, tv B b v) ∈ lvP B b ls := by
  refine List.mem_filterMap.mpr ⟨(k, v), ?_, by simp [hc]⟩
  exact List.mem_of_getElem? (i := k) (by rw [List.getElem?_mapIdx, h]; rfl)
theorem LV.has (hl : LV B b n ls lsR) : lv_has lsR n (lvP B b ls) := by
  obtain ⟨h1, h2, h3, h4⟩ := hl
  refine ⟨h1, h3, fun q hq => ?_⟩
  obtain ⟨⟨k, v⟩, ha, hb⟩ := List.mem_filterMap.mp hq
  obtain ⟨i, hi⟩ := List.getElem?_of_mem ha
  rw [List.getElem?_mapIdx] at hi
  cases hv : ls[i]? with
  | none => rw [hv] at hi; cases hi
  | some w =>
    rw [hv] at hi
    obtain ⟨rfl, rfl⟩ : i = k ∧ w = v := by simpa using hi
    by_cases hc : w.category = 1
    · rw [if_pos hc] at hb
      cases hb
      exact h4 i w hv hc
    · rw [if_neg hc] at hb; cases hb
theorem LV.put {i : Nat} {v : Value} {ls' : Array Slot} (hl : LV B b n ls lsR) (hv : v.category = 1) (hi : i < n) (h : lv_has ls' n ((i, tv B b v) :: (lvP B b ls).filter (fun q => !(q.1 == i) && !(q.1 + 1 == i && q.2.category == 2)))) : LV B b n (ls.set i v) ls' := by
  obtain ⟨g1, g2, g3⟩ := h
  refine ⟨g1, by rw [List.length_set]; exact hl.2.1, g2, fun k w hk hw => ?_⟩
  rw [List.getElem?_set] at hk
  by_cases hik : i = k
  · subst hik
    rw [if_pos rfl, if_pos (by rw [hl.2.1]; exact hi)] at hk
    cases hk
    exact g3 _ List.mem_cons_self
  · rw [if_neg hik] at hk
    refine g3 (k, tv B b w) (List.mem_cons_of_mem _ (List.mem_filter.mpr ⟨lvP_mem hk hw, ?_⟩))
    have a1 : (k == i) = false := by simpa using fun q => hik q.symm
    have a2 : ((tv B b w).category == 2) = false := by rw [tv_cat, hw]; rfl
    simp [a1, a2]
theorem LV.get {i : Nat} {v : Value} (hl : LV B b n ls lsR) (h : ls[i]? = some v) (hv : v.category = 1) : lsR[i]? = some (.val (tv B b v)) := hl.2.2.2 i v h hv
theorem LV.at {i : Nat} {v : Value} (h : ls[i]? = some v) (hv : v.category = 1) : ∃ k : Nat, (lvP B b ls)[k]? = some (i, tv B b v) := List.getElem?_of_mem (lvP_mem h hv)
end LVL
theorem pcT_ok {e : Ent} {o : Int} (h : tgtOk e o = true) : (e.1 : Int) + o = (pcT e.1 o : Int) := by
  have h1 : 0 ≤ (e.1 : Int) + o := by simpa [tgtOk] using h
  unfold pcT
  omega
section HEAP
variable {B b : Nat} {D : va_G} {dA : Nat → ClassId} {p : Program} {l : Launch} {ev : Env} {R : Room} {s : State} {m : MethodId} {args : Array Value} {below : List Frame} {meth : Method} {c : Code} {H : Heap} {locs : List Loc} {cells slots : Nat} {Q : State → Prop} {y : Nat} {sc : Scr} {h : AHp} {pc : Nat} {lsR : Array Slot} {rest : List Value}
theorem Cx.gw (C : Cx B b D dA p R s m args meth c y sc) : ∀ w ∈ GW, w.before args s = true := by
  obtain ⟨-, -, -, -, h, -⟩ := C
  intro w hw
  obtain ⟨h1, h2⟩ := List.mem_filter.mp hw
  exact h w h1 (by simp [okW, h2])
theorem Cx.lay (C : Cx B b D dA p R s m args meth c y sc) {ci : Nat} (h : ci < 5) : ∀ w ∈ u_ws (vAt ci).1 (vAt ci).2.1 (vAt ci).2.2, w ∈ GW := by
  obtain ⟨-, -, -, -, -, -, -, -, -, ⟨-, -, -, k, -⟩, -⟩ := C
  exact k ci h
theorem rp_get (C : Cx B b D dA p R s m args meth c y sc) (hR : Rp B b D dA h H) {i ci k idx : Nat} {fs : List Value} {v : Value} (hi : h[i]? = some (.inr (ci, fs))) (hc : ci < 5) (hk : k < (vAt ci).2.2) (hlink : (Cond.fieldLink (mOwn y) idx ((vAt ci).2.1 k).1 ((vAt ci).2.1 k).2.1 ((vAt ci).2.1 k).2.2.1).before args s = true) (hv : fs[k]? = some v) (hdg : decode (mCode y) pc = .ok (.getfield idx, 3))
    (kk : W p l ev R s m args below meth c H locs cells slots Q (F0 m (pc + 3) lsR (tv B b v :: rest))) : W p l ev R s m args below meth c H locs cells slots Q (F0 m pc lsR (.ref (B + i) :: rest)) := by
  have hP : va_P D vwCl [(B + i, tE B b dA (.inr (ci, fs)))] H := by
    intro z q hz
    have hl := (List.getElem?_eq_some_iff.mp hz).1
    have : z = 0 := by simp at hl; omega
    subst this
    cases hz
    exact hR.2 i _ hi
  obtain ⟨hx, hb, -, hown, -, hK, -⟩ := id C
  exact va_get (C := (vAt ci).1) (T := (vAt ci).2.1) (N := (vAt ci).2.2) hx hb C.gw (C.lay hc) hown hK hP 0 (fs := fs.map (tv B b)) rfl (vw_at hc) k hk hlink (fun _ q => q) (by rw [List.getElem?_map, hv]; rfl) hdg kk
theorem rp_put (C : Cx B b D dA p R s m args meth c y sc) (hS0 : va_S (fun q : Nat => B ≤ q) s.heap H locs) (hR : Rp B b D dA h H) {i ci k idx : Nat} {fs : List Value} {v : Value} (hi : h[i]? = some (.inr (ci, fs))) (hc : ci < 5) (hk : k < (vAt ci).2.2) (hlen : k < fs.length) (hlink : (Cond.fieldLink (mOwn y) idx ((vAt ci).2.1 k).1 ((vAt ci).2.1 k).2.1 ((vAt ci).2.1 k).2.2.1).before args s = true)
    (hfin : ((vAt ci).2.1 k).2.2.2 = true → mIni y = true ∧ ((vAt ci).2.1 k).1 = mOwn y) (hok : vOk (tyAt ci k) v = true) (hdg : decode (mCode y) pc = .ok (.putfield idx, 3))
    (kk : ∀ (H1 : Heap) (locs1 : List Loc), va_S (fun q : Nat => B ≤ q) s.heap H1 locs1 → Rp B b D dA (h.set i (.inr (ci, fs.set k v))) H1 → W p l ev R s m args below meth c H1 locs1 cells slots Q (F0 m (pc + 3) lsR rest)) : W p l ev R s m args below meth c H locs cells slots Q (F0 m pc lsR (tv B b v :: .ref (B + i) :: rest)) := by
  obtain ⟨hx, hb, -, hown, -, hK, hini, -⟩ := id C
  have hts := C.gw
  have hap := va_apart (own := mOwn y) hts (C.lay hc) (tyAt ci) (tyAt_ok hc) (nmAt hc) hK (vw_at hc)
  obtain ⟨r, h1, cell, q1, q2, q3, q4⟩ := hR.2 i _ hi
  have hr : r = ((vAt ci).1, (vAt ci).2.1, (vAt ci).2.2) := Option.some.inj (h1.symm.trans (vw_at hc))
  subst hr
  obtain ⟨hS, hfc, kC, hkC, hkind⟩ := hK.1 ci _ (vw_at hc)
  obtain ⟨cf, kf, fi, f, hif, hsl⟩ := hS k hk
  have hst := (u_facts hfc hkC (u_lays hts (C.lay hc) hk) hif).1
  obtain ⟨hn, hft⟩ := vOk_spec B b hok
  have fin : ∀ H' : Heap, H'[B + i]? = some (cell.setSlot f.slot (tv B b v)) → H'.size = H.size → (∀ q, q ≠ B + i → H'[q]? = H[q]?) → W p l ev R s m args below meth c H' (locs ++ [⟨B + i, f.slot⟩]) cells slots Q (F0 m (pc + 3) lsR rest) := by
    intro H' e1 e2 e3
    rw [hsl] at e1 ⊢
    refine kk H' _ (hS0.put e2 e3 (Nat.le_add_right B i)) (rp_set hR hi ⟨_, vw_at hc, ?_⟩ e2 e3)
    refine t_OB.to (V := updV (vp_V (fs.map (tv B b))) k (tv B b v)) ⟨_, e1, q2, q3, t_set q4 hap hk (tv B b v)⟩ (fun j _ => ?_)
    rw [vp_updV_set (by rw [List.length_map]; exact hlen), ← List.map_set]
  cases hfn : ((vAt ci).2.1 k).2.2.2 with
  | false =>
    have hlay := hts _ (C.lay hc _ (u_in_lay hk))
    unfold u_lay at hlay
    rw [if_neg (by rw [hfn]; decide)] at hlay
    have h6 := u_store hfc hkC hkind hlay hif (tyAt_ok hc k hk) hn hft
    exact W.putK hx hb (f := f) ⟨hown, hlink, ⟨_, _, _, hif⟩, hst⟩ (by rw [q2]; exact h6) q1 q3 (by rw [hsl]; exact k2_hasslot (q4 k hk)) rfl rfl hdg fin
  | true =>
    obtain ⟨hi1, hi2⟩ := hfin hfn
    have hlay := hts _ (C.lay hc _ (u_in_lay hk))
    unfold u_lay at hlay
    rw [if_pos hfn] at hlay
    have hcf : m.cls = cf := by
      obtain ⟨_, _, c', _, _, _, -, -, hf', -, -, -, hown2, -⟩ := Cond.laysFinal_spec hlay
      have e1 : c' = cf := by have := hif.symm.trans hf'; simp at this; exact this.1.symm
      rw [hi2] at hown2
      rw [← e1]; exact Option.some.inj (hown.symm.trans hown2)
    have h6 := u_fits hfc hkC hkind (Or.inr hlay) hif (tyAt_ok hc k hk) hn hft
    exact W.putFinK hx hb hown hlink hif hst hcf (hini hi1) (by rw [q2]; exact h6) q1 q3 (by rw [hsl]; exact k2_hasslot (q4 k hk)) rfl rfl hdg fin
theorem rp_iald (C : Cx B b D dA p R s m args meth c y sc) (hR : Rp B b D dA h H) {i n : Nat} {f : Nat → Int32} {j : Int32} (hi : h[i]? = some (.inl (0, n, .inl f))) (hj : ¬ (j < 0 ∨ n ≤ j.toNatClampNeg)) (hdg : decode (mCode y) pc = .ok (.iaload, 1))
    (kk : W p l ev R s m args below meth c H locs cells slots Q (F0 m (pc + 1) lsR (.int (f j.toNatClampNeg) :: rest))) : W p l ev R s m args below meth c H locs cells slots Q (F0 m pc lsR (.int j :: .ref (B + i) :: rest)) := by
  obtain ⟨hx, hb, -, hown, -, hK, -⟩ := id C
  have hlt : j.toNatClampNeg < n := Nat.not_le.mp fun q => hj (Or.inr q)
  exact W.iald (v := .int (f j.toNatClampNeg)) hx hb (hR.2 i _ hi) ((hK.2 0 _ rfl).1 n (fun j => .int (f j))) (fun q => by cases q) (by show ¬ (j < 0 ∨ (arrV _ _ _).slots.size ≤ _); rw [arrV_size]; exact hj) (by show (arrV _ _ _).slots[_]? = _; rw [arrV_read _ _ hlt]) rfl rfl hdg kk
theorem rp_iast (C : Cx B b D dA p R s m args meth c y sc) (hS : va_S (fun q : Nat => B ≤ q) s.heap H locs) (hR : Rp B b D dA h H) {i n : Nat} {f : Nat → Int32} {j x : Int32} (hi : h[i]? = some (.inl (0, n, .inl f))) (hj : ¬ (j < 0 ∨ n ≤ j.toNatClampNeg)) (hdg : decode (mCode y) pc = .ok (.iastore, 1))
    (kk : ∀ (H1 : Heap) (locs1 : List Loc), va_S (fun q : Nat => B ≤ q) s.heap H1 locs1 → Rp B b D dA (h.set i (.inl (0, n, .inl (upd f j.toNatClampNeg x)))) H1 → W p l ev R s m args below meth c H1 locs1 cells slots Q (F0 m (pc + 1) lsR rest)) : W p l ev R s m args below meth c H locs cells slots Q (F0 m pc lsR (.int x :: .int j :: .ref (B + i) :: rest)) := by
  obtain ⟨hx, hb, -, hown, -, hK, -⟩ := id C
  refine W.iast hx hb (hR.2 i _ hi) ((hK.2 0 _ rfl).1 n (fun j => .int (f j))) (fun q => by cases q) (by show ¬ (j < 0 ∨ (arrV _ _ _).slots.size ≤ _); rw [arrV_size]; exact hj) rfl rfl hdg fun H1 e z oq => ?_
  refine kk H1 _ (hS.put z oq (Nat.le_add_right B i)) (rp_set hR hi ?_ z oq)
  show H1[B + i]? = some (vp_cell _ _)
  rw [e]
  show some ((vp_cell (dA 0) (n, .inl f)).setSlot _ _) = some (vp_cell (dA 0) (n, .inl (upd f j.toNatClampNeg x)))
  rw [vp_cell_i, vp_cell_i, arrV_store]
  congr 2
  funext q
  by_cases hq : q = j.toNatClampNeg
  · subst hq
    simp [updV, upd]
  · simp [updV, upd, hq]
theorem ty_at {k : Nat} (h : ¬ (k = 0 ∨ 4 ≤ k)) : (tysL dA)[k]? = some (dA k, .object (aKind k)) := by
  rcases (show k = 1 ∨ k = 2 ∨ k = 3 by omega) with rfl | rfl | rfl <;> rfl
theorem arf_tv (r : Option Nat) : tv B b (arf r) = va_rf (r.map (B + ·)) := by cases r <;> rfl
theorem rp_aald (C : Cx B b D dA p R s m args meth c y sc) (hR : Rp B b D dA h H) {i n k : Nat} {f : Nat → Option Nat} {j : Int32} (hi : h[i]? = some (.inl (k, n, .inr f))) (hk : ¬ (k = 0 ∨ 4 ≤ k)) (hj : ¬ (j < 0 ∨ n ≤ j.toNatClampNeg)) (hdg : decode (mCode y) pc = .ok (.aaload, 1))
    (kk : W p l ev R s m args below meth c H locs cells slots Q (F0 m (pc + 1) lsR (tv B b (arf (f j.toNatClampNeg)) :: rest))) : W p l ev R s m args below meth c H locs cells slots Q (F0 m pc lsR (.int j :: .ref (B + i) :: rest)) := by
  obtain ⟨hx, hb, -, hown, -, hK, -⟩ := id C
  have hlt : j.toNatClampNeg < n := Nat.not_le.mp fun q => hj (Or.inr q)
  rw [arf_tv] at kk
  exact W.aald (v := va_rf ((f j.toNatClampNeg).map (B + ·))) (ty := .object (aKind k)) hx hb (hR.2 i _ hi) ((hK.2 k _ (ty_at hk)).1 n (fun j => va_rf ((f j).map (B + ·)))) rfl (fun q => by cases q) (by show ¬ (j < 0 ∨ (arrV _ _ _).slots.size ≤ _); rw [arrV_size]; exact hj) (by show (arrV _ _ _).slots[_]? = _; rw [arrV_read _ _ hlt]) rfl rfl hdg kk
theorem kindC_at {k : Nat} (h : ¬ (k = 0 ∨ 4 ≤ k)) : vwCl[kindC k]? = some (aKind k, (vAt (kindC k)).2.1, (vAt (kindC k)).2.2) := by
  rcases (show k = 1 ∨ k = 2 ∨ k = 3 by omega) with rfl | rfl | rfl <;> rfl
theorem rp_aast (C : Cx B b D dA p R s m args meth c y sc) (hS : va_S (fun q : Nat => B ≤ q) s.heap H locs) (hR : Rp B b D dA h H) {i n k v : Nat} {fs : List Value} {f : Nat → Option Nat} {j : Int32} (hi : h[i]? = some (.inl (k, n, .inr f))) (hv : h[v]? = some (.inr (kindC k, fs))) (hk : ¬ (k = 0 ∨ 4 ≤ k)) (hj : ¬ (j < 0 ∨ n ≤ j.toNatClampNeg)) (hdg : decode (mCode y) pc = .ok (.aastore, 1))
    (kk : ∀ (H1 : Heap) (locs1 : List Loc), va_S (fun q : Nat => B ≤ q) s.heap H1 locs1 → Rp B b D dA (h.set i (.inl (k, n, .inr (va_up f j.toNatClampNeg (some v))))) H1 → W p l ev R s m args below meth c H1 locs1 cells slots Q (F0 m (pc + 1) lsR rest)) : W p l ev R s m args below meth c H locs cells slots Q (F0 m pc lsR (.ref (B + v) :: .int j :: .ref (B + i) :: rest)) := by
  obtain ⟨hx, hb, -, hown, -, hK, -⟩ := id C
  have hlt : j.toNatClampNeg < n := Nat.not_le.mp fun q => hj (Or.inr q)
  have h0 : ¬ j < 0 := fun q => hj (Or.inl q)
  obtain ⟨r', hr', cellV, g1, g2, g3, -⟩ := hR.2 v _ hv
  have hcls := (hK.1 (kindC k) _ (kindC_at hk)).2
  obtain ⟨kA, comp, k1, k2, k3, -⟩ := (hK.2 k _ (ty_at hk)).2
  have hcomp : comp = D.1 (kindC k) := Option.some.inj (k3.symm.trans hcls.1)
  subst hcomp
  obtain ⟨kC, hkC, -⟩ := hcls.2
  refine W.aast hx hb (hR.2 i _ hi) (fun q h => by cases h) (fun h => by cases h) k1 k2 rfl hkC ⟨h0, by show _ < (arrV _ _ _).slots.size; rw [arrV_size]; exact hlt⟩ g1 (fun q h => by rw [g3] at h; cases h) (by rw [g2]; exact hkC) (by rw [g2]; exact va_assign hcls) rfl rfl hdg fun H1 e z oq => ?_
  refine kk H1 _ (hS.put z oq (Nat.le_add_right B i)) (rp_set hR hi ?_ z oq)
  show H1[B + i]? = some (vp_cell _ _)
  rw [e]
  show some ((vp_cell (dA k) (n, .inr (.inr (.inr (.inr (fun j => (f j).map (B + ·))))))).setSlot _ _) = some (vp_cell (dA k) (n, .inr (.inr (.inr (.inr (fun q => ((va_up f j.toNatClampNeg (some v)) q).map (B + ·)))))))
  rw [vp_cell_q, vp_cell_q, arrV_store]
  congr 2
  funext q
  by_cases hq : q = j.toNatClampNeg
  · subst hq
    simp [updV, va_up, va_rf]
  · simp [updV, va_up, hq]
theorem rp_new (C : Cx B b D dA p R s m args meth c y sc) (hS : va_S (fun q : Nat => B ≤ q) s.heap H locs) (hR : Rp B b D dA h H) {ci idx : Nat} (hc : ci < 5) (hcl : (Cond.classLink (mOwn y) idx (vAt ci).1).before args s = true) (hinst : (Cond.instantiable (vAt ci).1 (vAt ci).2.2).before args s = true) (hini : (Cond.initialized (vAt ci).1).before args s = true) (hcells : cells + 1 ≤ R.cells) (hslots : slots + (dflt ci).length ≤ R.slots) (hdg : decode (mCode y) pc = .ok (.new idx, 3))
    (kk : ∀ H1 : Heap, va_S (fun q : Nat => B ≤ q) s.heap H1 locs → Rp B b D dA (h ++ [.inr (ci, dflt ci)]) H1 → W p l ev R s m args below meth c H1 locs (cells + 1) (slots + (dflt ci).length) Q (F0 m (pc + 3) lsR (.ref (B + h.length) :: rest))) : W p l ev R s m args below meth c H locs cells slots Q (F0 m pc lsR rest) := by
  obtain ⟨hx, hb, -, hown, -, hK, -⟩ := id C
  have hKn := hK.1 ci _ (vw_at hc)
  obtain ⟨d1, d2⟩ := dflt_ok hc
  rw [d1] at hslots kk
  refine W.newcK hx hb hown hcl hinst hini rfl hdg hcells hslots hKn.2.1 hR.1 fun H1 kC hkC e1 z1 o1 => ?_
  rw [← hR.1] at z1 o1
  exact kk H1 (s_grow hS z1 o1) (rp_push hR ⟨_, vw_at hc, (u_born (tyAt ci) C.gw (C.lay hc) hKn hkC e1 (tyAt_ok hc)).to (fun j hj => d2 B b j hj)⟩ z1 o1)
theorem rp_newa (C : Cx B b D dA p R s m args meth c y sc) (hS : va_S (fun q : Nat => B ≤ q) s.heap H locs) (hR : Rp B b D dA h H) {n : Int32} (harr : (Cond.arrayClass .int).before args s = true) (hn : ¬ (n < 0 ∨ 100000 < n.toNatClampNeg)) (hcells : cells + 1 ≤ R.cells) (hslots : slots + n.toNatClampNeg ≤ R.slots) (hdg : decode (mCode y) pc = .ok (.newarray .int, 2))
    (kk : ∀ H1 : Heap, va_S (fun q : Nat => B ≤ q) s.heap H1 locs → Rp B b D dA (h ++ [.inl (0, n.toNatClampNeg, .inl (fun _ => 0))]) H1 → W p l ev R s m args below meth c H1 locs (cells + 1) (slots + n.toNatClampNeg) Q (F0 m (pc + 2) lsR (.ref (B + h.length) :: rest))) : W p l ev R s m args below meth c H locs cells slots Q (F0 m pc lsR (.int n :: rest)) := by
  obtain ⟨hx, hb, -, hown, -, hK, -⟩ := id C
  refine va_newaK hx hb (atype := .int) harr rfl hdg rfl (fun q => hn (Or.inl q)) rfl ?_ hcells hslots hR.1 fun H1 cA e1 z1 o1 hAr hNm => ?_
  · show n.toNatClampNeg * 4 ≤ 536870912
    have : n.toNatClampNeg ≤ 100000 := Nat.not_lt.mp fun q => hn (Or.inr q)
    omega
  · rw [← hR.1] at z1 o1
    refine kk H1 (s_grow hS z1 o1) (rp_push hR ?_ z1 o1)
    have h2 : s.vm.findClass ("[" ++ (FieldType.int).toString) = some (dA 0) := (hK.2 0 _ rfl).2
    have e0 : cA = dA 0 := Option.some.inj (hNm.symm.trans h2)
    subst e0
    exact e1
theorem rp_newq (C : Cx B b D dA p R s m args meth c y sc) (hS : va_S (fun q : Nat => B ≤ q) s.heap H locs) (hR : Rp B b D dA h H) {n : Int32} {k idx : Nat} (hk : ¬ (k = 0 ∨ 4 ≤ k)) (hcl : (Cond.classLink (mOwn y) idx (aKind k)).before args s = true) (hover : (Cond.arrayOver (.object (aKind k))).before args s = true) (hn : ¬ (n < 0 ∨ 100000 < n.toNatClampNeg)) (hcells : cells + 1 ≤ R.cells) (hslots : slots + n.toNatClampNeg ≤ R.slots) (hdg : decode (mCode y) pc = .ok (.anewarray idx, 3))
    (kk : ∀ H1 : Heap, va_S (fun q : Nat => B ≤ q) s.heap H1 locs → Rp B b D dA (h ++ [.inl (k, n.toNatClampNeg, .inr (fun _ => none))]) H1 → W p l ev R s m args below meth c H1 locs (cells + 1) (slots + n.toNatClampNeg) Q (F0 m (pc + 3) lsR (.ref (B + h.length) :: rest))) : W p l ev R s m args below meth c H locs cells slots Q (F0 m pc lsR (.int n :: rest)) := by
  obtain ⟨hx, hb, -, hown, -, hK, -⟩ := id C
  have hlen : n.toNatClampNeg * 4 ≤ 536870912 := by
    have : n.toNatClampNeg ≤ 100000 := Nat.not_lt.mp fun q => hn (Or.inr q)
    omega
  refine W.anew hx hb hown hcl hover rfl hdg rfl (fun q => hn (Or.inl q)) hlen hcells hslots fun cA kA comp f1 f2 f3 f4 => ?_
  generalize hH1 : H.push ({ cls := cA, slots := Array.replicate n.toNatClampNeg .null, vm := .none } : Cell) = H1
  have z1 : H1.size = H.size + 1 := by rw [← hH1, Array.size_push]
  have e1 : H1[H.size]? = some (arrV cA n.toNatClampNeg (fun _ => .null)) := by rw [← hH1, Array.getElem?_push_size, ← arrV_new]
  have o1 : ∀ q : Nat, q < H.size → H1[q]? = H[q]? := fun q hq => by rw [← hH1, Array.getElem?_push, if_neg (Nat.ne_of_lt hq)]
  obtain ⟨kA', comp', k1, k2, k3, k4⟩ := (hK.2 k _ (ty_at hk)).2
  have e0 : cA = dA k := Option.some.inj (f1.symm.trans k4)
  subst e0
  have hz : H.size = B + h.length := hR.1
  rw [hz] at e1
  show W _ _ _ _ _ _ _ _ _ _ _ _ _ _ _ (F0 m (pc + 3) lsR (.ref H.size :: rest))
  rw [hz]
  exact kk H1 (s_grow hS z1 o1) (rp_push hR e1 z1 o1)
theorem rp_copy (C : Cx B b D dA p R s m args meth c y sc) (hS : va_S (fun q : Nat => B ≤ q) s.heap H locs) (hR : Rp B b D dA h H) (hml : c.maxLocals = lsR.size) {idx : Nat} (hlink : (Cond.methodLink (mOwn y) idx arraycopyName).before args s = true) (hnat : (Cond.native arraycopyName).before args s = true) (hstat : (Cond.static arraycopyName).before args s = true) (hini : (Cond.initialized "java/lang/System").before args s = true)
    {i0 i1 n0 n1 : Nat} {f g : Nat → Int32} (ha0 : h[i0]? = some (.inl (0, n0, .inl f))) (ha1 : h[i1]? = some (.inl (0, n1, .inl g))) {sp dp n : Int32} (h1 : ¬ sp < 0) (h2 : ¬ dp < 0) (h3 : ¬ n < 0) (h4 : sp.toNatClampNeg + n.toNatClampNeg ≤ n0) (h5 : dp.toNatClampNeg + n.toNatClampNeg ≤ n1) (hframes : 1 ≤ R.frames) (hlocals : (rest.map fun v => v.category).sum + 18 ≤ R.locals) (hdg : decode (mCode y) pc = .ok (.invokestatic idx, 3))
    (kk : ∀ (H1 : Heap) (locs1 : List Loc), va_S (fun q : Nat => B ≤ q) s.heap H1 locs1 → Rp B b D dA (h.set i1 (.inl (0, n1, .inl (va_cpy f g sp.toNatClampNeg dp.toNatClampNeg n.toNatClampNeg)))) H1 → W p l ev R s m args below meth c H1 locs1 cells slots Q (F0 m (pc + 3) lsR rest)) : W p l ev R s m args below meth c H locs cells slots Q (F0 m pc lsR (.int n :: .int dp :: .ref (B + i1) :: .int sp :: .ref (B + i0) :: rest)) := by
  obtain ⟨hexec, hb, -, hown, -, hK, -⟩ := id C
  have nn : ∀ z : Int32, ¬ z < 0 → z.toInt = (z.toNatClampNeg : Int) := by
    intro z hz
    have hz0 : (0 : Int) ≤ z.toInt := by
      have := Int32.not_lt.mp hz
      simpa using Int32.le_iff_toInt_le.mp this
    show z.toInt = ((z.toInt.toNat : Nat) : Int)
    omega
  intro T hT X
  have hc0 : H[B + i0]? = some (vp_cell (dA 0) (n0, .inl f)) := hR.2 i0 _ ha0
  have hc1 : H[B + i1]? = some (vp_cell (dA 0) (n1, .inl g)) := hR.2 i1 _ ha1
  obtain ⟨-, k0, hk0, cm0, hkk0⟩ := (hK.2 0 _ rfl).1 n0 (fun j => .int (f j))
  obtain ⟨-, k1, hk1, cm1, hkk1⟩ := (hK.2 0 _ rfl).1 n1 (fun j => .int (g j))
  obtain ⟨vm', X', step⟩ := X.arraycopy hexec hown hlink hnat hstat hini (src := B + i0) (dst := B + i1) (cs := vp_cell (dA 0) (n0, .inl f)) (cd := vp_cell (dA 0) (n1, .inl g)) (srcPos := sp) (destPos := dp) (n := n) (by rw [hT]; exact hc0) (by rw [hT]; exact hc1)
    (fun _ h => by cases h) (fun _ h => by cases h) (fun h => by cases h) (fun h => by cases h) hk0 hk1 hkk0 hkk1 (by simp [refKind]) h1 h2 h3
    (by rw [nn sp h1, nn n h3]; show ¬ _ > ((arrV (dA 0) n0 (fun j => .int (f j))).slots.size : Int); rw [arrV_size]; omega)
    (by rw [nn dp h2, nn n h3]; show ¬ _ > ((arrV (dA 0) n1 (fun j => .int (g j))).slots.size : Int); rw [arrV_size]; omega)
    (fun vm₁ _ i hi => by
      have e : (vp_cell (dA 0) (n0, .inl f)).slots.getD (sp.toNatClampNeg + i) .null = .int (f (sp.toNatClampNeg + i)) := by
        show (arrV (dA 0) n0 (fun j => .int (f j))).slots.getD _ _ = _
        rw [Array.getD_eq_getD_getElem?, arrV_read _ _ (by omega)]
        rfl
      refine ⟨?_, ?_⟩
      · rw [e]; rfl
      · rw [e]
        exact trivial)
    (g := F0 m pc lsR (.int n :: .int dp :: .ref (B + i1) :: .int sp :: .ref (B + i0) :: rest)) rfl (by rw [hml]) (rest := rest) rfl (by rw [hb]; exact hdg) hframes (by show 2 * 0 + _ + _ ≤ _; simp only [nativeFrameWords]; simp; omega)
  have e1 : copied (vp_cell (dA 0) (n0, .inl f)) (vp_cell (dA 0) (n1, .inl g)) sp dp n = vp_cell (dA 0) (n1, .inl (va_cpy f g sp.toNatClampNeg dp.toNatClampNeg n.toNatClampNeg)) := va_copied (fun z => .int z) (dA 0) (dA 0) f g h4
  rw [e1] at X' step
  have hl : B + i1 < H.size := (Array.getElem?_eq_some_iff.mp hc1).1
  have hheap : ((T.setVm vm').setCell (B + i1) (vp_cell (dA 0) (n1, .inl (va_cpy f g sp.toNatClampNeg dp.toNatClampNeg n.toNatClampNeg)))).heap = H.setIfInBounds (B + i1) (vp_cell (dA 0) (n1, .inl (va_cpy f g sp.toNatClampNeg dp.toNatClampNeg n.toNatClampNeg))) := by rw [← hT]; rfl
  have oq : ∀ q : Nat, q ≠ B + i1 → (H.setIfInBounds (B + i1) (vp_cell (dA 0) (n1, .inl (va_cpy f g sp.toNatClampNeg dp.toNatClampNeg n.toNatClampNeg))))[q]? = H[q]? := fun q hq => by simp [Array.getElem?_setIfInBounds, Ne.symm hq]
  obtain ⟨t, a1, b1⟩ := kk _ _ ⟨by simp; exact hS.1, fun q g1 g2 => by
      rw [oq q (fun e => g2 (by rw [e]; exact Nat.le_add_right B i1))]
      exact hS.2.1 q g1 g2, fun q hq => by
      rcases List.mem_append.mp hq with h | h
      · exact hS.2.2 q h
      · obtain ⟨z, -, hz⟩ := List.mem_map.mp h
        rw [← hz]
        exact Nat.le_add_right B i1⟩ (rp_set hR ha1 (show (H.setIfInBounds (B + i1) _)[B + i1]? = some _ by simp [Array.getElem?_setIfInBounds, hl]) (by simp) oq) _ hheap X'
  exact ⟨t, step t a1, b1⟩
end HEAP
