/-! W follows the machine of part 03: every instruction that neither calls nor returns. -/
section STEP
variable {B b : Nat} {D : va_G} {dA : Nat → ClassId} {p : Program} {l : Launch} {ev : Env} {R : Room} {s : State} {m : MethodId} {args : Array Value} {below : List Frame} {meth : Method} {c : Code} {H : Heap} {locs : List Loc} {cells slots : Nat} {Q : State → Prop} {y : Nat} {sc : Scr} {h : AHp} {lsR : Array Slot} {ls stk : List Value}
theorem w0 {g : JFrame} (k : W p l ev R s m args below meth c H locs (cells + (h.length - h.length)) (slots + (szH h - szH h)) Q g) : W p l ev R s m args below meth c H locs cells slots Q g := by
  rw [Nat.sub_self, Nat.sub_self, Nat.add_zero, Nat.add_zero] at k
  exact k
theorem w1 {i : Nat} {e0 e : AE} (hi : h[i]? = some e0) (hz : szE e = szE e0) {g : JFrame} (k : W p l ev R s m args below meth c H locs (cells + ((h.set i e).length - h.length)) (slots + (szH (h.set i e) - szH h)) Q g) : W p l ev R s m args below meth c H locs cells slots Q g := by
  rw [List.length_set, szH_set hi hz, Nat.sub_self, Nat.sub_self, Nat.add_zero, Nat.add_zero] at k
  exact k
theorem w2 {e : AE} {g : JFrame} (k : W p l ev R s m args below meth c H locs (cells + ((h ++ [e]).length - h.length)) (slots + (szH (h ++ [e]) - szH h)) Q g) : W p l ev R s m args below meth c H locs (cells + 1) (slots + szE e) Q g := by
  rw [List.length_append, szH_push, Nat.add_sub_cancel_left, Nat.add_sub_cancel_left] at k
  exact k
theorem cat_mapN (N : Nat) (r : List Value) (h8 : r.length ≤ N) (hc : r.all (fun v => v.category == 1) = true) : ((r.map (tv B b)).map fun v => v.category).sum ≤ N := by
  have key : ∀ r : List Value, r.all (fun v => v.category == 1) = true → ((r.map (tv B b)).map fun v => v.category).sum = r.length := by
    intro r
    induction r with
    | nil => intro _; rfl
    | cons v r ih =>
      intro hr
      simp only [List.all_cons, Bool.and_eq_true, beq_iff_eq] at hr
      simp only [List.map_cons, List.sum_cons, List.length_cons, ih hr.2, tv_cat, hr.1]
      omega
  rw [key r hc]
  exact h8
theorem cat_map (r : List Value) (h8 : r.length ≤ 8) (hc : r.all (fun v => v.category == 1) = true) : ((r.map (tv B b)).map fun v => v.category).sum ≤ 8 := cat_mapN 8 r h8 hc
set_option maxHeartbeats 4000000 in
theorem ex1_snd (C : Cx B b D dA p R s m args meth c y sc) (hS : va_S (fun q : Nat => B ≤ q) s.heap H locs) (hR : Rp B b D dA h H) (hl : LV B b (mMaxL y) ls lsR) {e : Ent} (he : e ∈ kOf y) {q : Cfg} (hx : ex1 sc e ls stk h = some q) (hc : cells + (q.2.2.2.length - h.length) ≤ R.cells) (hs : slots + (szH q.2.2.2 - szH h) ≤ R.slots)
    (kk : ∀ (H1 : Heap) (locs1 : List Loc) (lsR1 : Array Slot), va_S (fun q : Nat => B ≤ q) s.heap H1 locs1 → Rp B b D dA q.2.2.2 H1 → LV B b (mMaxL y) q.2.1 lsR1 → W p l ev R s m args below meth c H1 locs1 (cells + (q.2.2.2.length - h.length)) (slots + (szH q.2.2.2 - szH h)) Q (F0 m q.1 lsR1 (q.2.2.1.map (tv B b)))) : W p l ev R s m args below meth c H locs cells slots Q (F0 m e.1 lsR (stk.map (tv B b))) := by
  obtain ⟨hexec, hb, hml, hown, hws, hK, hini, hfr, hlo, ⟨hy, hK1, hK2, hK3, hK4⟩, hBs, hsc⟩ := id C
  have hok := List.all_eq_true.mp (hK1 y hy) e he
  have hnd := hK2 y hy e he
  unfold eok at hok
  rw [Bool.and_eq_true, decide_eq_true_eq] at hok
  obtain ⟨hd, hau⟩ := hok
  have wd : ∀ w ∈ needs y e, w.before args s = true := fun w hw => hws w (hnd w hw).1 (hnd w hw).2
  obtain ⟨pc, i, r1, r2⟩ := e
  cases i with
  | iconst n =>
    dsimp only [ex1] at hx
    cases hx
    exact lv_iconst hexec hb hd rfl (w0 (kk H locs lsR hS hR hl))
  | bipush n =>
    dsimp only [ex1] at hx
    cases hx
    exact lv_bipush hexec hb hd rfl (w0 (kk H locs lsR hS hR hl))
  | sipush n =>
    dsimp only [ex1] at hx
    cases hx
    exact lv_sipush hexec hb hd rfl (w0 (kk H locs lsR hS hR hl))
  | ldc n =>
    dsimp only [ex1] at hx
    cases hx
    exact lv_ldc hexec hb hown (wd _ List.mem_cons_self) hd (w0 (kk H locs lsR hS hR hl))
  | ldc_w n =>
    dsimp only [ex1] at hx
    cases hx
    exact lv_ldcw hexec hb hown (wd _ List.mem_cons_self) hd (w0 (kk H locs lsR hS hR hl))
  | aconst_null =>
    dsimp only [ex1] at hx
    cases hx
    exact lv_null hexec hb hd (w0 (kk H locs lsR hS hR hl))
  | iload_n k =>
    dsimp only [ex1] at hx
    split at hx
    · rename_i x hv
      cases hx
      exact lv_iload_n hexec hb hd rfl (hl.get hv rfl) (w0 (kk H locs lsR hS hR hl))
    · cases hx
  | iload k =>
    dsimp only [ex1] at hx
    split at hx
    · rename_i x hv
      cases hx
      exact lv_iload hexec hb hd (hl.get hv rfl) (w0 (kk H locs lsR hS hR hl))
    · cases hx
  | aload_n k =>
    dsimp only [ex1] at hx
    split at hx
    · rename_i x hv
      cases hx
      exact lv_aload_n hexec hb hd rfl (hl.get hv rfl) (w0 (kk H locs lsR hS hR hl))
    · rename_i x hv
      cases hx
      exact lv_aload_n hexec hb hd rfl (hl.get hv rfl) (w0 (kk H locs lsR hS hR hl))
    · rename_i hv
      cases hx
      exact lv_aload_nN hexec hb hd rfl (hl.get hv rfl) (w0 (kk H locs lsR hS hR hl))
    · cases hx
  | aload k =>
    dsimp only [ex1] at hx
    split at hx
    · rename_i x hv
      cases hx
      exact lv_aload hexec hb hd (hl.get hv rfl) (w0 (kk H locs lsR hS hR hl))
    · cases hx
  | istore_n k =>
    dsimp only [ex1] at hx
    split at hx
    · rename_i x r
      split at hx
      · rename_i hi
        cases hx
        rw [hl.2.1] at hi
        exact lv_istore_n hexec hb hd rfl hl.has hi rfl (fun ls' h' => w0 (kk H locs ls' hS hR (hl.put rfl hi h')))
      · cases hx
    · cases hx
  | istore k =>
    dsimp only [ex1] at hx
    split at hx
    · rename_i x r
      split at hx
      · rename_i hi
        cases hx
        rw [hl.2.1] at hi
        exact lv_istore hexec hb hd hl.has hi rfl (fun ls' h' => w0 (kk H locs ls' hS hR (hl.put rfl hi h')))
      · cases hx
    · cases hx
  | astore_n k =>
    dsimp only [ex1] at hx
    split at hx
    · rename_i x r
      split at hx
      · rename_i hi
        cases hx
        rw [hl.2.1] at hi
        exact lv_astore_n hexec hb hd rfl hl.has hi rfl (fun ls' h' => w0 (kk H locs ls' hS hR (hl.put (v := .ref x) rfl hi h')))
      · cases hx
    · rename_i r
      split at hx
      · rename_i hi
        cases hx
        rw [hl.2.1] at hi
        exact lv_astore_nN hexec hb hd rfl hl.has hi rfl (fun ls' h' => w0 (kk H locs ls' hS hR (hl.put (v := .null) rfl hi h')))
      · cases hx
    · cases hx
  | astore k =>
    dsimp only [ex1] at hx
    split at hx
    · rename_i x r
      split at hx
      · rename_i hi
        cases hx
        rw [hl.2.1] at hi
        exact lv_astore hexec hb hd hl.has hi rfl (fun ls' h' => w0 (kk H locs ls' hS hR (hl.put (v := .ref x) rfl hi h')))
      · cases hx
    · cases hx
  | iinc k n =>
    dsimp only [ex1] at hx
    split at hx
    · rename_i x hv
      cases hx
      have hi : k < mMaxL y := by rw [← hl.2.1]; exact (List.getElem?_eq_some_iff.mp hv).1
      obtain ⟨j, hj⟩ := LV.at (B := B) (b := b) hv rfl
      exact lv_iinc hexec hb hd hl.has hj rfl hi rfl (fun ls' h' => w0 (kk H locs ls' hS hR (hl.put (v := .int (x + Int32.ofInt n)) rfl hi h')))
    · cases hx
  | iadd =>
    dsimp only [ex1] at hx
    split at hx
    · cases hx
      exact lv_iadd hexec hb hd (w0 (kk H locs lsR hS hR hl))
    · cases hx
  | isub =>
    dsimp only [ex1] at hx
    split at hx
    · cases hx
      exact lv_isub hexec hb hd (w0 (kk H locs lsR hS hR hl))
    · cases hx
  | imul =>
    dsimp only [ex1] at hx
    split at hx
    · cases hx
      exact lv_imul hexec hb hd (w0 (kk H locs lsR hS hR hl))
    · cases hx
  | iand =>
    dsimp only [ex1] at hx
    split at hx
    · cases hx
      exact lv_iand hexec hb hd (w0 (kk H locs lsR hS hR hl))
    · cases hx
  | ior =>
    dsimp only [ex1] at hx
    split at hx
    · cases hx
      exact lv_ior hexec hb hd (w0 (kk H locs lsR hS hR hl))
    · cases hx
  | ixor =>
    dsimp only [ex1] at hx
    split at hx
    · cases hx
      exact lv_ixor hexec hb hd (w0 (kk H locs lsR hS hR hl))
    · cases hx
  | ishl =>
    dsimp only [ex1] at hx
    split at hx
    · cases hx
      exact lv_ishl hexec hb hd (w0 (kk H locs lsR hS hR hl))
    · cases hx
  | ishr =>
    dsimp only [ex1] at hx
    split at hx
    · cases hx
      exact lv_ishr hexec hb hd (w0 (kk H locs lsR hS hR hl))
    · cases hx
  | iushr =>
    dsimp only [ex1] at hx
    split at hx
    · cases hx
      exact lv_iushr hexec hb hd rfl (w0 (kk H locs lsR hS hR hl))
    · cases hx
  | idiv =>
    dsimp only [ex1] at hx
    split at hx
    · split at hx
      · cases hx
      · rename_i hne
        cases hx
        exact lv_idiv hexec hb hd hne (w0 (kk H locs lsR hS hR hl))
    · cases hx
  | irem =>
    dsimp only [ex1] at hx
    split at hx
    · split at hx
      · cases hx
      · rename_i hne
        cases hx
        exact lv_irem hexec hb hd hne (w0 (kk H locs lsR hS hR hl))
    · cases hx
  | dup =>
    dsimp only [ex1] at hx
    split at hx
    · split at hx
      · rename_i hv
        cases hx
        exact lv_dup hexec hb hd (by rw [tv_cat]; exact hv) (w0 (kk H locs lsR hS hR hl))
      · cases hx
    · cases hx
  | dup2 =>
    dsimp only [ex1] at hx
    split at hx
    · split at hx
      · rename_i hv
        cases hx
        exact lv_dup2_11 hexec hb hd (by rw [tv_cat]; exact hv.1) (by rw [tv_cat]; exact hv.2) (w0 (kk H locs lsR hS hR hl))
      · cases hx
    · cases hx
  | pop =>
    dsimp only [ex1] at hx
    split at hx
    · split at hx
      · rename_i hv
        cases hx
        exact lv_pop hexec hb hd (by rw [tv_cat]; exact hv) (w0 (kk H locs lsR hS hR hl))
      · cases hx
    · cases hx
  | goto o =>
    dsimp only [ex1] at hx
    cases hx
    exact lv_goto hexec hb hd (pcT_ok (e := (pc, .goto o, r1, r2)) hau) (w0 (kk H locs lsR hS hR hl))
  | ifCond cc o =>
    dsimp only [ex1] at hx
    split at hx
    · rename_i xv r
      cases hx
      have k0 := w0 (kk H locs lsR hS hR hl)
      have ht := pcT_ok (e := (pc, .ifCond cc o, r1, r2)) hau
      cases cc with
      | eq => exact lv_if_eq hexec hb hd ht (fun hq => by rw [if_pos (show cB .eq xv 0 = true from decide_eq_true hq)] at k0; exact k0) (fun hq => by rw [if_neg (show ¬ cB .eq xv 0 = true from fun z => hq (of_decide_eq_true z))] at k0; exact k0)
      | ne => exact lv_if_ne hexec hb hd ht (fun hq => by rw [if_pos (show cB .ne xv 0 = true from decide_eq_true hq)] at k0; exact k0) (fun hq => by rw [if_neg (show ¬ cB .ne xv 0 = true from fun z => (of_decide_eq_true z) hq)] at k0; exact k0)
      | lt => exact lv_if_lt hexec hb hd ht (fun hq => by rw [if_pos (show cB .lt xv 0 = true from decide_eq_true hq)] at k0; exact k0) (fun hq => by rw [if_neg (show ¬ cB .lt xv 0 = true from fun z => hq (of_decide_eq_true z))] at k0; exact k0)
      | ge => exact lv_if_ge hexec hb hd ht (fun hq => by rw [if_pos (show cB .ge xv 0 = true from decide_eq_true hq)] at k0; exact k0) (fun hq => by rw [if_neg (show ¬ cB .ge xv 0 = true from fun z => hq (of_decide_eq_true z))] at k0; exact k0)
      | gt => exact lv_if_gt hexec hb hd ht (fun hq => by rw [if_pos (show cB .gt xv 0 = true from decide_eq_true hq)] at k0; exact k0) (fun hq => by rw [if_neg (show ¬ cB .gt xv 0 = true from fun z => hq (of_decide_eq_true z))] at k0; exact k0)
      | le => exact lv_if_le hexec hb hd ht (fun hq => by rw [if_pos (show cB .le xv 0 = true from decide_eq_true hq)] at k0; exact k0) (fun hq => by rw [if_neg (show ¬ cB .le xv 0 = true from fun z => hq (of_decide_eq_true z))] at k0; exact k0)
    · cases hx
  | if_icmp cc o =>
    dsimp only [ex1] at hx
    split at hx
    · rename_i yv xv r
      cases hx
      have k0 := w0 (kk H locs lsR hS hR hl)
      have ht := pcT_ok (e := (pc, .if_icmp cc o, r1, r2)) hau
      cases cc with
      | eq => exact lv_icmp_eq hexec hb hd ht (fun hq => by rw [if_pos (show cB .eq xv yv = true from decide_eq_true hq)] at k0; exact k0) (fun hq => by rw [if_neg (show ¬ cB .eq xv yv = true from fun z => hq (of_decide_eq_true z))] at k0; exact k0)
      | ne => exact lv_icmp_ne hexec hb hd ht (fun hq => by rw [if_pos (show cB .ne xv yv = true from decide_eq_true hq)] at k0; exact k0) (fun hq => by rw [if_neg (show ¬ cB .ne xv yv = true from fun z => (of_decide_eq_true z) hq)] at k0; exact k0)
      | lt => exact lv_icmp_lt hexec hb hd ht (fun hq => by rw [if_pos (show cB .lt xv yv = true from decide_eq_true hq)] at k0; exact k0) (fun hq => by rw [if_neg (show ¬ cB .lt xv yv = true from fun z => hq (of_decide_eq_true z))] at k0; exact k0)
      | ge => exact lv_icmp_ge hexec hb hd ht (fun hq => by rw [if_pos (show cB .ge xv yv = true from decide_eq_true hq)] at k0; exact k0) (fun hq => by rw [if_neg (show ¬ cB .ge xv yv = true from fun z => hq (of_decide_eq_true z))] at k0; exact k0)
      | gt => exact lv_icmp_gt hexec hb hd ht (fun hq => by rw [if_pos (show cB .gt xv yv = true from decide_eq_true hq)] at k0; exact k0) (fun hq => by rw [if_neg (show ¬ cB .gt xv yv = true from fun z => hq (of_decide_eq_true z))] at k0; exact k0)
      | le => exact lv_icmp_le hexec hb hd ht (fun hq => by rw [if_pos (show cB .le xv yv = true from decide_eq_true hq)] at k0; exact k0) (fun hq => by rw [if_neg (show ¬ cB .le xv yv = true from fun z => hq (of_decide_eq_true z))] at k0; exact k0)
    · cases hx
  | ifnull o =>
    dsimp only [ex1] at hx
    split at hx
    · cases hx
      exact lv_ifnull hexec hb hd (w0 (kk H locs lsR hS hR hl))
    · cases hx
      exact lv_ifnullN hexec hb hd (pcT_ok (e := (pc, .ifnull o, r1, r2)) hau) (w0 (kk H locs lsR hS hR hl))
    · cases hx
  | ifnonnull o =>
    dsimp only [ex1] at hx
    split at hx
    · cases hx
      exact lv_ifnonnull hexec hb hd (pcT_ok (e := (pc, .ifnonnull o, r1, r2)) hau) (w0 (kk H locs lsR hS hR hl))
    · cases hx
      exact lv_ifnonnullN hexec hb hd (w0 (kk H locs lsR hS hR hl))
    · cases hx
  | tableswitch d lo hi os =>
    dsimp only [ex1] at hx
    rw [Bool.and_eq_true] at hau
    obtain ⟨ha1, ha2⟩ := hau
    split at hx
    · rename_i xv r
      split at hx
      · rename_i hsw
        cases hx
        have k0 := w0 (kk H locs lsR hS hR hl)
        by_cases hq : xv.toInt < lo ∨ hi < xv.toInt
        · refine lv_tableOut hexec hb hd hq (pcT_ok (e := (pc, .tableswitch d lo hi os, r1, r2)) ha1) ?_
          dsimp only [swT] at k0
          rw [if_pos hq] at k0
          exact k0
        · have hsw2 : (os[(xv.toInt - lo).toNat]?).isSome = true := by
            rcases (Bool.or_eq_true _ _).mp hsw with z | z
            · exact absurd (of_decide_eq_true z) hq
            · exact z
          obtain ⟨o, ho⟩ := Option.isSome_iff_exists.mp hsw2
          have hto : tgtOk (pc, .tableswitch d lo hi os, r1, r2) o = true := List.all_eq_true.mp ha2 o (by
            have := List.mem_of_getElem? (l := os.toList) (i := (xv.toInt - lo).toNat) (by rw [Array.getElem?_toList]; exact ho)
            exact this)
          refine lv_tableIn hexec hb hd (fun z => hq (Or.inl z)) (fun z => hq (Or.inr z)) ho (pcT_ok (e := (pc, .tableswitch d lo hi os, r1, r2)) hto) ?_
          dsimp only [swT] at k0
          rw [if_neg hq, ho] at k0
          exact k0
      · cases hx
    · cases hx
  | lookupswitch d ps =>
    dsimp only [ex1] at hx
    rw [Bool.and_eq_true, Bool.and_eq_true] at hau
    obtain ⟨⟨ha1, ha2⟩, ha3⟩ := hau
    split at hx
    · rename_i xv r
      cases hx
      have hto : tgtOk (pc, .lookupswitch d ps, r1, r2) (Op.lookupswitch.offset ps.toList d xv.toInt) = true := by
        have key : ∀ (l : List (Int × Int)), (∀ q ∈ l, tgtOk (pc, .lookupswitch d ps, r1, r2) q.2 = true) → tgtOk (pc, .lookupswitch d ps, r1, r2) (Op.lookupswitch.offset l d xv.toInt) = true := by
          intro l
          induction l with
          | nil => intro _; exact ha1
          | cons q l ih =>
            intro hq
            obtain ⟨a, o⟩ := q
            rw [Op.lookupswitch.offset_cons]
            split
            · exact hq _ List.mem_cons_self
            · exact ih (fun z hz => hq z (List.mem_cons_of_mem _ hz))
        exact key _ (fun q hq => List.all_eq_true.mp ha2 q hq)
      exact lv_lookup hexec hb hd ha3 rfl (pcT_ok (e := (pc, .lookupswitch d ps, r1, r2)) hto) (w0 (kk H locs lsR hS hR hl))
    · cases hx
  | arraylength =>
    dsimp only [ex1] at hx
    split at hx
    · rename_i a r L xs
      cases hx
      obtain ⟨hX, hbB⟩ := hsc L xs rfl
      exact va_slen hexec hb hX (Nat.lt_of_lt_of_le hbB hBs) (Nat.not_le.mpr hbB) hS hd (w0 (kk H locs lsR hS hR hl))
    · cases hx
  | iaload =>
    dsimp only [ex1] at hx
    split at hx
    · rename_i j a r
      split at hx
      · rename_i n f hv
        split at hx
        · cases hx
        · rename_i hj
          cases hx
          exact rp_iald C hR hv hj hd (w0 (kk H locs lsR hS hR hl))
      · cases hx
    · rename_i j a r
      split at hx
      · rename_i L xs
        split at hx
        · cases hx
        · rename_i hj
          cases hx
          obtain ⟨hX, hbB⟩ := hsc L xs rfl
          exact va_sld hexec hb hX (Nat.lt_of_lt_of_le hbB hBs) (Nat.not_le.mpr hbB) hS hj hd (w0 (kk H locs lsR hS hR hl))
      · cases hx
    · cases hx
  | iastore =>
    dsimp only [ex1] at hx
    split at hx
    · rename_i x j a r
      split at hx
      · rename_i n f hv
        split at hx
        · cases hx
        · rename_i hj
          cases hx
          exact rp_iast C hS hR hv hj hd (fun H1 locs1 hS1 hR1 => w1 hv (by rfl) (kk H1 locs1 lsR hS1 hR1 hl))
      · cases hx
    · cases hx
  | aaload =>
    dsimp only [ex1] at hx
    split at hx
    · rename_i j a r
      split at hx
      · rename_i k n f hv
        split at hx
        · cases hx
        · rename_i hj
          cases hx
          exact rp_aald C hR hv (fun z => hj (by rcases z with z | z; exact Or.inl z; exact Or.inr (Or.inl z))) (fun z => hj (Or.inr (Or.inr z))) hd (w0 (kk H locs lsR hS hR hl))
      · cases hx
    · cases hx
  | aastore =>
    dsimp only [ex1] at hx
    split at hx
    · rename_i v j a r
      split at hx
      · rename_i k n f c0 fs hv hv2
        split at hx
        · cases hx
        · rename_i hj
          have hc0 : c0 = kindC k := Classical.byContradiction fun z => hj (Or.inr (Or.inr (Or.inl z)))
          subst hc0
          cases hx
          exact rp_aast C hS hR hv hv2 (fun z => hj (by rcases z with z | z; exact Or.inl z; exact Or.inr (Or.inl z))) (fun z => hj (Or.inr (Or.inr (Or.inr z)))) hd (fun H1 locs1 hS1 hR1 => w1 hv (by rfl) (kk H1 locs1 lsR hS1 hR1 hl))
      · cases hx
    · cases hx
  | newarray t =>
    have ht : t = .int := of_decide_eq_true hau
    subst ht
    dsimp only [ex1] at hx
    split at hx
    · rename_i n r
      split at hx
      · cases hx
      · rename_i hn
        cases hx
        dsimp only at hc hs
        rw [szH_push, Nat.add_sub_cancel_left] at hs
        rw [List.length_append, Nat.add_sub_cancel_left] at hc
        refine rp_newa C hS hR (wd _ List.mem_cons_self) hn hc hs hd (fun H1 hS1 hR1 => ?_)
        have k0 := kk H1 locs lsR hS1 hR1 hl
        rw [szH_push, Nat.add_sub_cancel_left] at k0
        rw [List.length_append, Nat.add_sub_cancel_left] at k0
        exact k0
    · cases hx
  | anewarray idx =>
    have hk : ¬ (r1 = 0 ∨ 4 ≤ r1) := by
      have h1 : (r1 = 1 ∨ r1 = 2) ∨ r1 = 3 := by simpa using hau
      omega
    dsimp only [ex1] at hx
    split at hx
    · rename_i n r
      split at hx
      · cases hx
      · rename_i hn
        cases hx
        dsimp only at hc hs
        rw [szH_push, Nat.add_sub_cancel_left] at hs
        rw [List.length_append, Nat.add_sub_cancel_left] at hc
        refine rp_newq C hS hR hk (wd _ List.mem_cons_self) (wd _ (List.mem_cons_of_mem _ List.mem_cons_self)) hn hc hs hd (fun H1 hS1 hR1 => ?_)
        have k0 := kk H1 locs lsR hS1 hR1 hl
        rw [szH_push, Nat.add_sub_cancel_left] at k0
        rw [List.length_append, Nat.add_sub_cancel_left] at k0
        exact k0
    · cases hx
  | new idx =>
    have hci : r1 < 5 := of_decide_eq_true hau
    dsimp only [ex1] at hx
    cases hx
    dsimp only at hc hs
    rw [szH_push, Nat.add_sub_cancel_left] at hs
    rw [List.length_append, Nat.add_sub_cancel_left] at hc
    refine rp_new C hS hR hci (wd _ List.mem_cons_self) (wd _ (List.mem_cons_of_mem _ List.mem_cons_self)) (wd _ (List.mem_cons_of_mem _ (List.mem_cons_of_mem _ List.mem_cons_self))) hc hs hd (fun H1 hS1 hR1 => ?_)
    have k0 := kk H1 locs lsR hS1 hR1 hl
    rw [szH_push, Nat.add_sub_cancel_left] at k0
    rw [List.length_append, Nat.add_sub_cancel_left] at k0
    exact k0
  | getfield idx =>
    rw [Bool.and_eq_true, decide_eq_true_eq, decide_eq_true_eq] at hau
    dsimp only [ex1] at hx
    split at hx
    · rename_i a r
      split at hx
      · rename_i c0 fs hv
        split at hx
        · rename_i hc0
          subst hc0
          split at hx
          · rename_i v hf
            cases hx
            exact rp_get C hR hv hau.1 hau.2 (wd _ List.mem_cons_self) hf hd (w0 (kk H locs lsR hS hR hl))
          · cases hx
        · cases hx
      · cases hx
    · cases hx
  | putfield idx =>
    rw [Bool.and_eq_true, Bool.and_eq_true, decide_eq_true_eq, decide_eq_true_eq] at hau
    obtain ⟨⟨ha1, ha2⟩, ha3⟩ := hau
    dsimp only [ex1] at hx
    split at hx
    · rename_i v a r
      split at hx
      · rename_i c0 fs hv
        split at hx
        · rename_i hc0
          obtain ⟨hc1, hc2, hc3⟩ := hc0
          subst hc1
          cases hx
          refine rp_put C hS hR hv ha1 ha2 hc2 (wd _ List.mem_cons_self) (fun hf => ?_) hc3 hd (fun H1 locs1 hS1 hR1 => w1 hv (by simp [szE]) (kk H1 locs1 lsR hS1 hR1 hl))
          dsimp only at hf
          rw [hf] at ha3
          simpa using ha3
        · cases hx
      · cases hx
    · cases hx
  | invokespecial idx =>
    dsimp only [ex1] at hx
    split at hx
    · rename_i hobj
      subst hobj
      rw [if_pos rfl, Bool.and_eq_true, decide_eq_true_eq, decide_eq_true_eq] at hau
      have wd2 : ∀ w ∈ ([.methodLink (mOwn y) idx objectInit, .instanceMethod objectInit, .code objectInit ⟨#[0xb1]⟩ 1 none] : List Cond), w.before args s = true := by
        intro w hw
        refine wd w ?_
        dsimp only [needs]
        rw [if_pos rfl]
        exact hw
      split at hx
      · rename_i a r
        split at hx
        · rename_i hr
          cases hx
          exact W.objInit hexec hb hown (wd2 _ List.mem_cons_self) (wd2 _ (List.mem_cons_of_mem _ List.mem_cons_self)) (wd2 _ (List.mem_cons_of_mem _ (List.mem_cons_of_mem _ List.mem_cons_self))) rfl (by rw [hml]; exact hl.1) rfl hd (Nat.le_trans hau.1 hfr) (by
            have := cat_map (B := B) (b := b) r hr.1 hr.2
            show 2 * 0 + ((r.map (tv B b)).map fun v => v.category).sum + 12 ≤ R.locals
            omega) (w0 (kk H locs lsR hS hR hl))
        · cases hx
      · cases hx
    · cases hx
  | invokestatic idx =>
    dsimp only [ex1] at hx
    split at hx
    · rename_i hobj
      subst hobj
      rw [if_pos rfl, Bool.and_eq_true, decide_eq_true_eq, decide_eq_true_eq] at hau
      have wd2 : ∀ w ∈ ([.methodLink (mOwn y) idx arraycopyName, .native arraycopyName, .static arraycopyName, .initialized "java/lang/System"] : List Cond), w.before args s = true := by
        intro w hw
        refine wd w ?_
        dsimp only [needs]
        rw [if_pos rfl]
        exact hw
      split at hx
      · rename_i n dp a sp a0 r
        split at hx
        · rename_i n0 f n1 g hv0 hv1
          split at hx
          · cases hx
          · rename_i hj
            cases hx
            have hj6 : r.length ≤ 8 ∧ r.all (fun v => v.category == 1) = true := Classical.byContradiction fun z => hj (Or.inr (Or.inr (Or.inr (Or.inr (Or.inr z)))))
            refine rp_copy C hS hR (hml.trans hl.1.symm) (wd2 _ List.mem_cons_self) (wd2 _ (List.mem_cons_of_mem _ List.mem_cons_self)) (wd2 _ (List.mem_cons_of_mem _ (List.mem_cons_of_mem _ List.mem_cons_self))) (wd2 _ (List.mem_cons_of_mem _ (List.mem_cons_of_mem _ (List.mem_cons_of_mem _ List.mem_cons_self)))) hv0 hv1 (fun z => hj (Or.inl z)) (fun z => hj (Or.inr (Or.inl z))) (fun z => hj (Or.inr (Or.inr (Or.inl z)))) (Nat.not_lt.mp fun z => hj (Or.inr (Or.inr (Or.inr (Or.inl z))))) (Nat.not_lt.mp fun z => hj (Or.inr (Or.inr (Or.inr (Or.inr (Or.inl z)))))) (Nat.le_trans hau.1 hfr) ?_ hd (fun H1 locs1 hS1 hR1 => w1 hv1 (by rfl) (kk H1 locs1 lsR hS1 hR1 hl))
            have := cat_map (B := B) (b := b) r hj6.1 hj6.2
            omega
        · cases hx
      · cases hx
    · cases hx
  | _ => exact absurd hx (by simp [ex1])
end STEP
