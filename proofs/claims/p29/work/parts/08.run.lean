/-! W follows a whole run. -/
section RUN
variable {B b : Nat} {D : va_G} {dA : Nat → ClassId} {p : Program} {l : Launch} {ev : Env} {R : Room} {s : State} {m : MethodId} {args : Array Value} {below : List Frame} {meth : Method} {c : Code} {Q : State → Prop} {y : Nat} {sc : Scr} {rv : Option Value} {hf : AHp} {M1 M2 : Nat}
theorem ret_spec {i : Instr} {stk : List Value} {pc : Nat} {v : Option Value} (hx : zRet y i stk = some v) (hd : ∀ i0, i = i0 → i0 = .ireturn ∨ i0 = .areturn ∨ i0 = .return_ → decode (mCode y) pc = .ok (i0, 1)) : RetAt y pc v ∧ stk = v.toList := by
  unfold zRet at hx
  split at hx
  · split at hx
    · rename_i hr
      cases hx
      exact ⟨Or.inr (Or.inl ⟨_, rfl, hr, hd _ rfl (Or.inl rfl)⟩), rfl⟩
    · cases hx
  · split at hx
    · rename_i hr
      cases hx
      cases hm : mRet y with
      | none => rw [hm] at hr; cases hr
      | some t =>
        rw [hm] at hr
        unfold isObj at hr
        split at hr
        · rename_i cn heq
          cases heq
          exact ⟨Or.inr (Or.inr ⟨_, _, rfl, hm, hd _ rfl (Or.inr (Or.inl rfl))⟩), rfl⟩
        · cases hr
    · cases hx
  · split at hx
    · rename_i hr
      cases hx
      exact ⟨Or.inl ⟨rfl, hr, hd _ rfl (Or.inr (Or.inr rfl))⟩, rfl⟩
    · cases hx
  · cases hx
theorem all_take {n : Nat} {stk : List Value} (h : stk.all (fun v => v.category == 1) = true) : ((stk.take n).reverse).all (fun v => v.category == 1) = true := by
  rw [List.all_eq_true] at h ⊢
  exact fun v hv => h v (List.mem_of_mem_take (List.mem_reverse.mp hv))
theorem nc_stat {z : Nat} (h : mStat z = false) : ¬ z = NCELL := by
  intro q
  subst q
  exact absurd h (by decide)
theorem walk : ∀ (n : Nat), (∀ k, k < n → CallOK k) → Cx B b D dA p R s m args meth c y sc → M1 ≤ R.cells → M2 ≤ R.slots →
    (∀ (pcr : Nat) (H1 : Heap) (locs1 : List Loc) (lsR1 : Array Slot), RetAt y pcr rv → va_S (fun q : Nat => B ≤ q) s.heap H1 locs1 → Rp B b D dA hf H1 → W p l ev R s m args below meth c H1 locs1 M1 M2 Q (F0 m pcr lsR1 (rv.toList.map (tv B b)))) →
    ∀ (pc : Nat) (ls stk : List Value) (h : AHp) (H : Heap) (locs : List Loc) (cells slots : Nat) (lsR : Array Slot), va_S (fun q : Nat => B ≤ q) s.heap H locs → Rp B b D dA h H → LV B b (mMaxL y) ls lsR → run n sc y pc ls stk h = some (rv, hf) → cells + (hf.length - h.length) = M1 → slots + (szH hf - szH h) = M2 → W p l ev R s m args below meth c H locs cells slots Q (F0 m pc lsR (stk.map (tv B b))) := by
  intro n
  induction n with
  | zero => intro _ _ _ _ _ pc ls stk h H locs cells slots lsR _ _ _ hx; exact absurd hx (by simp [run])
  | succ n ih =>
    intro hcall C h1 h2 hret pc ls stk h H locs cells slots lsR hS hR hl hx e1 e2
    have ih := ih (fun k hk => hcall k (Nat.lt_succ_of_lt hk)) C h1 h2 hret
    have hmono := run_mono _ hx
    unfold run at hx
    split at hx
    · cases hx
    · rename_i e he
      obtain ⟨hmem, rfl⟩ := fet_spec he
      clear he
      have he := hmem
      split at hx
      · obtain ⟨q, g1, g2⟩ := Option.bind_eq_some_iff.mp hx
        have m1 := ex1_mono g1
        have m2 := run_mono _ g2
        refine ex1_snd C hS hR hl he g1 (by omega) (by omega) (fun H1 locs1 lsR1 hS1 hR1 hl1 => ?_)
        exact ih q.1 q.2.1 q.2.2.1 q.2.2.2 H1 locs1 _ _ lsR1 hS1 hR1 hl1 g2 (by omega) (by omega)
      · obtain ⟨v, g1, g2⟩ := Option.map_eq_some_iff.mp hx
        cases g2
        obtain ⟨r1, r2⟩ := ret_spec (pc := e.1) g1 (by
          obtain ⟨-, -, -, -, -, -, -, -, -, ⟨hy, hK1, -⟩, -⟩ := C
          have hok := List.all_eq_true.mp (hK1 y hy) e he
          unfold eok at hok
          rw [Bool.and_eq_true, decide_eq_true_eq] at hok
          intro i0 hi0 hi
          have := hok.1
          obtain ⟨pc, i, r1, r2⟩ := e
          dsimp only at hi0
          subst hi0
          rcases hi with rfl | rfl | rfl <;> exact this)
        rw [Nat.sub_self, Nat.add_zero] at e1 e2
        subst e1
        subst e2
        rw [r2]
        exact hret e.1 H locs lsR r1 hS hR
      · obtain ⟨⟨as, rest⟩, g1, g2⟩ := Option.bind_eq_some_iff.mp hx
        obtain ⟨⟨rv1, h'⟩, g3, g4⟩ := Option.bind_eq_some_iff.mp g2
        dsimp only at g3 g4
        have m1 := run_mono _ g3
        have m2 := run_mono _ g4
        obtain ⟨z1, z2, z3, z4⟩ := zCall_spec g1
        have hKO : KOK := by
          obtain ⟨-, -, -, -, -, -, -, -, -, ⟨-, k⟩, -⟩ := C
          exact k
        have hy : y < NM := by
          obtain ⟨-, -, -, -, -, -, -, -, -, ⟨k, -⟩, -⟩ := C
          exact k
        have hok := List.all_eq_true.mp (hKO.1 y hy) e he
        unfold eok at hok
        rw [Bool.and_eq_true] at hok
        have hau := hok.2
        have fin : ∀ (H1 : Heap) (locs1 : List Loc), va_S (fun q : Nat => B ≤ q) s.heap H1 locs1 → Rp B b D dA h' H1 → W p l ev R s m args below meth c H1 locs1 (cells + (h'.length - h.length)) (slots + (szH h' - szH h)) Q (F0 m (e.1 + 3) lsR ((rv1.toList ++ rest).map (tv B b))) := fun H1 locs1 hS1 hR1 => ih (e.1 + 3) ls (rv1.toList ++ rest) h' H1 locs1 _ _ lsR hS1 hR1 hl g4 (by omega) (by omega)
        have hlt : (stk.take (mArgs e.2.2.1)).reverse.length = mArgs e.2.2.1 := by rw [List.length_reverse, List.length_take]; omega
        rename_i hk0 hk1
        obtain ⟨pc, i, z, r2⟩ := e
        dsimp only at hau hlt g3 z1 z4 hk0 hk1
        rcases z4 with ⟨idx, hi, has, hrest⟩ | ⟨idx, a, ca, fs, hi, hdr, hv, hca, has⟩ | ⟨idx, a, hi, hdr, has⟩
        · subst hi
          have hz : ¬ z = ACP := fun q => hk0 (by simp [kindI, q])
          dsimp only at hau
          rw [if_neg hz, Bool.and_eq_true, Bool.and_eq_true] at hau
          obtain ⟨k1, k2, k3, k4, k5, k6, k7, k8⟩ := callOk_spec hau.1
          rw [hau.2.1, if_pos rfl] at k7
          have hM := hcall n (Nat.lt_succ_self n) l B b D dA z (scOf z sc) as h rv1 h' hKO k1 k8 (by rw [has, hlt]; omega) (by rw [has]; exact all_take z3) g3
          subst hrest
          exact call_S C hS hR hl.1 he hz hM z1 z2 z3 has (by omega) (by omega) fin
        · subst hi
          dsimp only at hau
          simp only [Bool.and_eq_true] at hau
          obtain ⟨k1, k2, k3, k4, k5, k6, k7, k8⟩ := callOk_spec hau.1.1.1
          rw [if_neg (by simpa using hau.2)] at k7
          have hM := hcall n (Nat.lt_succ_self n) l B b D dA z (scOf z sc) as h rv1 h' hKO k1 k8 (by rw [has, List.length_cons, hlt]; exact k7) (by rw [has, List.all_cons, all_take z3]; rfl) g3
          exact call_V C hS hR hl.1 he hv hca hM (nc_stat (by simpa using hau.2)) z1 z2 z3 hdr has (by omega) (by omega) fin
        · subst hi
          have hz : ¬ z = OBJ := fun q => hk0 (by simp [kindI, q])
          dsimp only at hau
          rw [if_neg hz] at hau
          simp only [Bool.and_eq_true] at hau
          obtain ⟨k1, k2, k3, k4, k5, k6, k7, k8⟩ := callOk_spec hau.1.1.1
          rw [if_neg (by simpa using hau.2)] at k7
          have hM := hcall n (Nat.lt_succ_self n) l B b D dA z (scOf z sc) as h rv1 h' hKO k1 k8 (by rw [has, List.length_cons, hlt]; exact k7) (by rw [has, List.all_cons, all_take z3]; rfl) g3
          exact call_I C hS hR hl.1 he hz hM (nc_stat (by simpa using hau.2)) z1 z2 z3 hdr has (by omega) (by omega) fin
end RUN
theorem callOK_step (n : Nat) (ih : ∀ k, k < n → CallOK k) : CallOK n := by
  intro l B b D dA z sc as h rv h' hKO hz hpl hlen hcat hrun
  refine Met.ofW (cc := mCode z) (maxL := mMaxL z) (ret := mRet z) hpl rfl ?_
  intro p e s m args below meth c s₁ Bd hml hv
  obtain ⟨rfl, hR, hK, hNW, hSC⟩ := hv
  have hts := atoms_spec (ws := wsF z) Bd.pre
  have hown : s.vm.findClass (mName z).cls = some m.cls := findClass_of_methodNamed Bd.named
  have hlocks := Bd.notSynchronized
  have hr := Bd.returns
  have hws : ∀ w ∈ lw_tbl, okW w = true → w.before (as.map (tv B b)).toArray s = true := by
    intro w hw ho
    unfold okW at ho
    rcases (Bool.or_eq_true _ _).mp ho with h1 | h1
    · exact hts w (List.mem_cons_of_mem _ (List.mem_filter.mpr ⟨hw, h1⟩))
    · exact nw_use h1 (hNW w (List.mem_filter.mpr ⟨hw, h1⟩))
  have hC : Cx B b D dA p (headSpec (wsF z) (rmF z (h'.length - h.length) (szH h' - szH h))).room s m (as.map (tv B b)).toArray meth c z sc :=
    ⟨Bd.exec, Bd.bytes, hml, by rw [(hKO.2.2.2 z hz).1]; exact hown, hws, hK, fun q => by rw [(name_of_methodNamed Bd.named Bd.method).1]; exact (hKO.2.2.2 z hz).2 q, Nat.le_refl _, Nat.le_refl _, ⟨hz, hKO⟩, by rw [hR.1]; exact Nat.le_add_right _ _, hSC⟩
  rw [lg_entry_eq]
  have hx := Bd.exec
  have hb := Bd.bytes
  refine walk (rv := rv) (hf := h') (M1 := h'.length - h.length) (M2 := szH h' - szH h) n ih hC (Nat.le_refl _) (Nat.le_refl _) ?_ 0 (ent0 z as) [] h s.heap [] 0 0 _ va_S.rf hR (LV.entry B b hlen hcat) hrun (Nat.zero_add _) (Nat.zero_add _)
  intro pcr H1 locs1 lsR1 hrt hS1 hR1
  rcases hrt with ⟨rfl, hm, hd⟩ | ⟨v, rfl, hm, hd⟩ | ⟨a, cn, rfl, hm, hd⟩
  · exact W.vret hx hb (hr.trans hm) (fun t ht hW => ⟨⟨rfl, by rw [ht]; exact hR1⟩, hS1.F ht⟩) hS1.2.2 hd
  · rcases hm with hm | ⟨hm, hv⟩
    · exact W.iret hx hb (hr.trans hm) (fun t ht hW => ⟨⟨rfl, by rw [ht]; exact hR1⟩, hS1.F ht⟩) hS1.2.2 hd
    · exact W.zret hx hb (hr.trans hm) (by rcases hv with rfl | rfl <;> rfl) (fun t ht hW => ⟨⟨rfl, by rw [ht]; exact hR1⟩, hS1.F ht⟩) hS1.2.2 hd
  · exact W.aret (v := .ref (B + a)) hx hb (hr.trans hm) (Or.inl ⟨cn, rfl⟩) (Or.inr ⟨_, rfl⟩) (fun t ht hW => ⟨⟨rfl, by rw [ht]; exact hR1⟩, hS1.F ht⟩) hS1.2.2 hd
theorem callOK_all (n : Nat) : CallOK n := by
  induction n using Nat.strongRecOn with
  | _ n ih => exact callOK_step n ih
