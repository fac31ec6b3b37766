/-! Facts of the heap: objects, arrays, frames. -/
def Fr (lo hi : Nat) (h h' : AHp) : Prop := h'.length = h.length ∧ ∀ j, (j < lo ∨ hi ≤ j) → h'[j]? = h[j]?
theorem Fr.rf {lo hi : Nat} {h : AHp} : Fr lo hi h h := ⟨rfl, fun _ _ => rfl⟩
theorem Fr.tr {lo hi : Nat} {h h1 h2 : AHp} (a : Fr lo hi h h1) (c : Fr lo hi h1 h2) : Fr lo hi h h2 := ⟨c.1.trans a.1, fun j hj => (c.2 j hj).trans (a.2 j hj)⟩
theorem Fr.up {lo hi lo' hi' : Nat} {h g : AHp} (a : Fr lo hi h g) (h1 : lo' ≤ lo) (h2 : hi ≤ hi') : Fr lo' hi' h g := ⟨a.1, fun j hj => a.2 j (by omega)⟩
theorem Fr.set {i : Nat} {h : AHp} (e : AE) : Fr i (i + 1) h (h.set i e) := ⟨List.length_set, fun j hj => List.getElem?_set_ne (by omega)⟩
def HO (h : AHp) (a c : Nat) (fs : List Value) : Prop := h[a]? = some (.inr (c, fs))
def HA (h : AHp) (a n : Nat) (f : Nat → Int32) : Prop := ∃ g, h[a]? = some (.inl (0, n, .inl g)) ∧ ∀ i, i < n → g i = f i
def HQ (h : AHp) (a kd n : Nat) (f : Nat → Nat) : Prop := ∃ g, h[a]? = some (.inl (kd, n, .inr g)) ∧ ∀ i, i < n → g i = some (f i)
theorem nI_ok {w n : Nat} (hw : w < n) (hn : n < 2147483648) : ¬ (nI w < 0 ∨ n ≤ (nI w).toNatClampNeg) := nI_in hw hn
theorem nI_cl {w : Nat} (hw : w < 2147483648) : (nI w).toNatClampNeg = w := nI_clamp hw
section HF
variable {h h' : AHp} {a c n kd w : Nat} {fs : List Value} {f : Nat → Int32} {q : Nat → Nat}
theorem HO.ld {k : Nat} {v : Value} (hO : HO h a c fs) (hk : fs[k]? = some v) : fldv h a c k = some v := by
  unfold fldv
  rw [hO]
  dsimp only
  rw [if_pos rfl, hk]
theorem HO.is (hO : HO h a c fs) : isO h a c := ⟨fs, hO⟩
theorem HO.st {k : Nat} {v : Value} (hO : HO h a c fs) (hk : k < fs.length) (hv : vOk (tyAt c k) v = true) : ∃ h', stf h a c k v = some h' ∧ HO h' a c (fs.set k v) ∧ Fr a (a + 1) h h' := by
  refine ⟨h.set a (.inr (c, fs.set k v)), ?_, ?_, Fr.set _⟩
  · unfold stf
    rw [hO]
    dsimp only
    rw [if_pos ⟨rfl, hk, hv⟩]
  · unfold HO
    rw [List.getElem?_set_self (List.getElem?_eq_some_iff.mp hO).1]
theorem HO.fr {lo hi : Nat} (hO : HO h a c fs) (hf : Fr lo hi h h') (hd : a < lo ∨ hi ≤ a) : HO h' a c fs := by
  unfold HO
  rw [hf.2 a hd]
  exact hO
theorem HA.ld (hA : HA h a n f) (hw : w < n) (hn : n < 2147483648) : ldi h a (nI w) = some (f w) := by
  obtain ⟨g, h1, h2⟩ := hA
  unfold ldi
  rw [h1]
  show (if nI w < 0 ∨ n ≤ (nI w).toNatClampNeg then none else some (g (nI w).toNatClampNeg)) = _
  rw [if_neg (nI_ok hw hn), nI_cl (by omega), h2 w hw]
theorem HA.st {x : Int32} (hA : HA h a n f) (hw : w < n) (hn : n < 2147483648) : ∃ h', sti h a (nI w) x = some h' ∧ HA h' a n (upd f w x) ∧ Fr a (a + 1) h h' := by
  obtain ⟨g, h1, h2⟩ := hA
  refine ⟨h.set a (.inl (0, n, .inl (upd g w x))), ?_, ⟨upd g w x, ?_, fun i hi => ?_⟩, Fr.set _⟩
  · unfold sti
    rw [h1]
    show (if nI w < 0 ∨ n ≤ (nI w).toNatClampNeg then none else some (h.set a (.inl (0, n, .inl (upd g (nI w).toNatClampNeg x))))) = _
    rw [if_neg (nI_ok hw hn), nI_cl (by omega)]
  · rw [List.getElem?_set_self (List.getElem?_eq_some_iff.mp h1).1]
  · unfold upd
    by_cases q : i = w
    · rw [if_pos q, if_pos q]
    · rw [if_neg q, if_neg q, h2 i hi]
theorem HA.fr {lo hi : Nat} (hA : HA h a n f) (hf : Fr lo hi h h') (hd : a < lo ∨ hi ≤ a) : HA h' a n f := by
  obtain ⟨g, h1, h2⟩ := hA
  exact ⟨g, by rw [hf.2 a hd]; exact h1, h2⟩
theorem HA.to {f2 : Nat → Int32} (hA : HA h a n f) (he : ∀ i, i < n → f i = f2 i) : HA h a n f2 := by
  obtain ⟨g, h1, h2⟩ := hA
  exact ⟨g, h1, fun i hi => (h2 i hi).trans (he i hi)⟩
theorem HA.cp {a2 m : Nat} {g : Nat → Int32} (h1 : HA h a n f) (h2 : HA h a2 n g) (hm : m ≤ n) (hn : n < 2147483648) : ∃ h', acp h a 0 a2 0 (nI m) = some h' ∧ HA h' a2 n (fun i => if i < m then f i else g i) ∧ Fr a2 (a2 + 1) h h' := by
  obtain ⟨f', e1, e2⟩ := h1
  obtain ⟨g', e3, e4⟩ := h2
  refine ⟨h.set a2 (.inl (0, n, .inl (va_cpy f' g' 0 0 m))), ?_, ⟨va_cpy f' g' 0 0 m, ?_, fun i hi => ?_⟩, Fr.set _⟩
  · unfold acp
    rw [e1, e3]
    show (if (0 : Int32) < 0 ∨ (0 : Int32) < 0 ∨ nI m < 0 ∨ n < (0 : Int32).toNatClampNeg + (nI m).toNatClampNeg ∨ n < (0 : Int32).toNatClampNeg + (nI m).toNatClampNeg then none else some (h.set a2 (.inl (0, n, .inl (va_cpy f' g' (0 : Int32).toNatClampNeg (0 : Int32).toNatClampNeg (nI m).toNatClampNeg))))) = _
    have c0 : (0 : Int32).toNatClampNeg = 0 := rfl
    have cm : (nI m).toNatClampNeg = m := nI_cl (by omega)
    rw [if_neg, c0, cm]
    rw [c0, cm]
    rintro (q | q | q | q | q)
    · exact absurd q (by decide)
    · exact absurd q (by decide)
    · exact nI_pos (by omega) q
    · omega
    · omega
  · rw [List.getElem?_set_self (List.getElem?_eq_some_iff.mp e3).1]
  · unfold va_cpy
    show _ = (if i < m then f i else g i)
    by_cases q : i < m
    · rw [if_pos ⟨Nat.zero_le _, by omega⟩, if_pos q, Nat.zero_add, Nat.sub_zero, e2 i hi]
    · rw [if_neg (by omega), if_neg q, e4 i hi]
theorem HQ.ld (hA : HQ h a kd n q) (hw : w < n) (hn : n < 2147483648) (hk : ¬ (kd = 0 ∨ 4 ≤ kd)) : ldq h a (nI w) = some (.ref (q w)) := by
  obtain ⟨g, h1, h2⟩ := hA
  unfold ldq
  rw [h1]
  dsimp only
  rw [if_neg (fun z => by
    rcases z with z | z | z
    · exact hk (Or.inl z)
    · exact hk (Or.inr z)
    · exact nI_ok hw hn z), nI_cl (by omega), h2 w hw]
  rfl
theorem HQ.fr {lo hi : Nat} (hA : HQ h a kd n q) (hf : Fr lo hi h h') (hd : a < lo ∨ hi ≤ a) : HQ h' a kd n q := by
  obtain ⟨g, h1, h2⟩ := hA
  exact ⟨g, by rw [hf.2 a hd]; exact h1, h2⟩
theorem HQ.st {v c2 : Nat} (hA : HQ h a kd n q) (hw : w < n) (hn : n < 2147483648) (hk : ¬ (kd = 0 ∨ 4 ≤ kd)) (hv : isO h v c2) (hc : c2 = kindC kd) : ∃ h', stq h a (nI w) v = some h' ∧ HQ h' a kd n (fun i => if i = w then v else q i) ∧ Fr a (a + 1) h h' := by
  obtain ⟨g, h1, h2⟩ := hA
  obtain ⟨fs, h3⟩ := hv
  refine ⟨h.set a (.inl (kd, n, .inr (va_up g w (some v)))), ?_, ⟨va_up g w (some v), ?_, fun i hi => ?_⟩, Fr.set _⟩
  · unfold stq
    rw [h1, h3]
    dsimp only
    rw [if_neg (fun z => by
      rcases z with z | z | z | z
      · exact hk (Or.inl z)
      · exact hk (Or.inr z)
      · exact z hc
      · exact nI_ok hw hn z), nI_cl (by omega)]
  · rw [List.getElem?_set_self (List.getElem?_eq_some_iff.mp h1).1]
  · unfold va_up
    show _ = some (if i = w then v else q i)
    by_cases z : i = w
    · rw [if_pos z, if_pos z]
    · rw [if_neg z, if_neg z, h2 i hi]
end HF
theorem le8 {w : Nat} (hw : w < 8) : ¬ (8 : Int32) ≤ nI w := by
  have q := nI_ge (a := w) (b := 8) hw (by decide)
  exact q
theorem le6 {w : Nat} (hw : w < 6) : ¬ (6 : Int32) ≤ nI w := by
  have q := nI_ge (a := w) (b := 6) hw (by decide)
  exact q
theorem nI_s (w : Nat) : nI w + 1 = nI (w + 1) := nI_1 w
theorem z_nI : (0 : Int32) = nI 0 := rfl
def sm (f : Nat → Int32) : Nat → Int32
  | 0 => 0
  | n + 1 => sm f n + f n
