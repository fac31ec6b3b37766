/-! The law's arrays: 423 g (numbers), 424 u (stamps of views), 425 x (graves), 426 a (versions), 427 b (added), 428 c (taken), 429 h (homes), 430 e (heirs), 431 l (letters' numbers), 432 p, 433 q, 434 r (letters' parts). -/
abbrev WA : Type := Nat → Nat → Int32
def wz : Nat → Nat
  | 0 => 8
  | 1 => 6
  | 2 => 6
  | 3 => 48
  | 4 => 48
  | 5 => 48
  | 6 => 8
  | 7 => 8
  | 8 => 48
  | 9 => 64
  | 10 => 64
  | _ => 64
def HW (h : AHp) (A : WA) : Prop := ∀ k, k < 12 → HA h (423 + k) (wz k) (A k)
def ua (A : WA) (k j : Nat) (x : Int32) : WA := fun k' => if k' = k then upd (A k) j x else A k'
theorem ua_s (A : WA) (k j : Nat) (x : Int32) : ua A k j x k j = x := by unfold ua upd; rw [if_pos rfl, if_pos rfl]
theorem ua_k {A : WA} {k j k' : Nat} {x : Int32} (h : k' ≠ k) : ua A k j x k' = A k' := if_neg h
theorem ua_j {A : WA} {k j i : Nat} {x : Int32} (h : i ≠ j) : ua A k j x k i = A k i := by unfold ua upd; rw [if_pos rfl, if_neg h]
theorem ua_i (A : WA) (k j k' i : Nat) (x : Int32) : ua A k j x k' i = if k' = k ∧ i = j then x else A k' i := by
  unfold ua upd
  by_cases c : k' = k
  · subst c; rw [if_pos rfl]
    by_cases d : i = j
    · rw [if_pos d, if_pos ⟨rfl, d⟩]
    · rw [if_neg d, if_neg (fun q => d q.2)]
  · rw [if_neg c, if_neg (fun q => c q.1)]
theorem wz_le (k : Nat) : wz k ≤ 64 := by
  unfold wz
  split <;> decide
section HWS
variable {h h' : AHp} {A : WA} {j : Nat}
theorem HW.l (hW : HW h A) {k : Nat} (hk : k < 12) (hj : j < wz k) : ldi h (423 + k) (nI j) = some (A k j) := (hW k hk).ld hj (by have := wz_le k; omega)
theorem HW.s (hW : HW h A) {k : Nat} (hk : k < 12) (hj : j < wz k) (x : Int32) : ∃ h', sti h (423 + k) (nI j) x = some h' ∧ HW h' (ua A k j x) ∧ Fr 423 435 h h' := by
  obtain ⟨h', e, b, r⟩ := (hW k hk).st (x := x) hj (by have := wz_le k; omega)
  refine ⟨h', e, fun i hi => ?_, r.up (by omega) (by omega)⟩
  by_cases c : i = k
  · subst c; unfold ua; rw [if_pos rfl]; exact b
  · rw [ua_k c]; exact (hW i hi).fr r (by omega)
theorem HW.fr (hW : HW h A) {lo hi : Nat} (r : Fr lo hi h h') (hd : 435 ≤ lo ∨ hi ≤ 423) : HW h' A := fun k hk => (hW k hk).fr r (by omega)
theorem HW.to {A' : WA} (hW : HW h A) (he : ∀ k, k < 12 → ∀ i, i < wz k → A k i = A' k i) : HW h A' := fun k hk => (hW k hk).to (he k hk)
theorem HW.l0 (hW : HW h A) (hj : j < 8) : ldi h 423 (nI j) = some (A 0 j) := hW.l (k := 0) (by decide) hj
theorem HW.s0 (hW : HW h A) (hj : j < 8) (x : Int32) : ∃ h', sti h 423 (nI j) x = some h' ∧ HW h' (ua A 0 j x) ∧ Fr 423 435 h h' := hW.s (k := 0) (by decide) hj x
theorem HW.l1 (hW : HW h A) (hj : j < 6) : ldi h 424 (nI j) = some (A 1 j) := hW.l (k := 1) (by decide) hj
theorem HW.s1 (hW : HW h A) (hj : j < 6) (x : Int32) : ∃ h', sti h 424 (nI j) x = some h' ∧ HW h' (ua A 1 j x) ∧ Fr 423 435 h h' := hW.s (k := 1) (by decide) hj x
theorem HW.l2 (hW : HW h A) (hj : j < 6) : ldi h 425 (nI j) = some (A 2 j) := hW.l (k := 2) (by decide) hj
theorem HW.s2 (hW : HW h A) (hj : j < 6) (x : Int32) : ∃ h', sti h 425 (nI j) x = some h' ∧ HW h' (ua A 2 j x) ∧ Fr 423 435 h h' := hW.s (k := 2) (by decide) hj x
theorem HW.l3 (hW : HW h A) (hj : j < 48) : ldi h 426 (nI j) = some (A 3 j) := hW.l (k := 3) (by decide) hj
theorem HW.s3 (hW : HW h A) (hj : j < 48) (x : Int32) : ∃ h', sti h 426 (nI j) x = some h' ∧ HW h' (ua A 3 j x) ∧ Fr 423 435 h h' := hW.s (k := 3) (by decide) hj x
theorem HW.l4 (hW : HW h A) (hj : j < 48) : ldi h 427 (nI j) = some (A 4 j) := hW.l (k := 4) (by decide) hj
theorem HW.s4 (hW : HW h A) (hj : j < 48) (x : Int32) : ∃ h', sti h 427 (nI j) x = some h' ∧ HW h' (ua A 4 j x) ∧ Fr 423 435 h h' := hW.s (k := 4) (by decide) hj x
theorem HW.l5 (hW : HW h A) (hj : j < 48) : ldi h 428 (nI j) = some (A 5 j) := hW.l (k := 5) (by decide) hj
theorem HW.s5 (hW : HW h A) (hj : j < 48) (x : Int32) : ∃ h', sti h 428 (nI j) x = some h' ∧ HW h' (ua A 5 j x) ∧ Fr 423 435 h h' := hW.s (k := 5) (by decide) hj x
theorem HW.l6 (hW : HW h A) (hj : j < 8) : ldi h 429 (nI j) = some (A 6 j) := hW.l (k := 6) (by decide) hj
theorem HW.s6 (hW : HW h A) (hj : j < 8) (x : Int32) : ∃ h', sti h 429 (nI j) x = some h' ∧ HW h' (ua A 6 j x) ∧ Fr 423 435 h h' := hW.s (k := 6) (by decide) hj x
theorem HW.l7 (hW : HW h A) (hj : j < 8) : ldi h 430 (nI j) = some (A 7 j) := hW.l (k := 7) (by decide) hj
theorem HW.s7 (hW : HW h A) (hj : j < 8) (x : Int32) : ∃ h', sti h 430 (nI j) x = some h' ∧ HW h' (ua A 7 j x) ∧ Fr 423 435 h h' := hW.s (k := 7) (by decide) hj x
theorem HW.l8 (hW : HW h A) (hj : j < 48) : ldi h 431 (nI j) = some (A 8 j) := hW.l (k := 8) (by decide) hj
theorem HW.s8 (hW : HW h A) (hj : j < 48) (x : Int32) : ∃ h', sti h 431 (nI j) x = some h' ∧ HW h' (ua A 8 j x) ∧ Fr 423 435 h h' := hW.s (k := 8) (by decide) hj x
theorem HW.l9 (hW : HW h A) (hj : j < 64) : ldi h 432 (nI j) = some (A 9 j) := hW.l (k := 9) (by decide) hj
theorem HW.s9 (hW : HW h A) (hj : j < 64) (x : Int32) : ∃ h', sti h 432 (nI j) x = some h' ∧ HW h' (ua A 9 j x) ∧ Fr 423 435 h h' := hW.s (k := 9) (by decide) hj x
theorem HW.l10 (hW : HW h A) (hj : j < 64) : ldi h 433 (nI j) = some (A 10 j) := hW.l (k := 10) (by decide) hj
theorem HW.s10 (hW : HW h A) (hj : j < 64) (x : Int32) : ∃ h', sti h 433 (nI j) x = some h' ∧ HW h' (ua A 10 j x) ∧ Fr 423 435 h h' := hW.s (k := 10) (by decide) hj x
theorem HW.l11 (hW : HW h A) (hj : j < 64) : ldi h 434 (nI j) = some (A 11 j) := hW.l (k := 11) (by decide) hj
theorem HW.s11 (hW : HW h A) (hj : j < 64) (x : Int32) : ∃ h', sti h 434 (nI j) x = some h' ∧ HW h' (ua A 11 j x) ∧ Fr 423 435 h h' := hW.s (k := 11) (by decide) hj x
theorem HW.g (hW : HW h A) : ldi h 423 0 = some (A 0 0) ∧ ldi h 423 1 = some (A 0 1) ∧ ldi h 423 2 = some (A 0 2) ∧ ldi h 423 3 = some (A 0 3) ∧ ldi h 423 4 = some (A 0 4) ∧ ldi h 423 5 = some (A 0 5) ∧ ldi h 423 6 = some (A 0 6) ∧ ldi h 423 7 = some (A 0 7) := ⟨hW.l0 (j := 0) (by decide), hW.l0 (j := 1) (by decide), hW.l0 (j := 2) (by decide), hW.l0 (j := 3) (by decide), hW.l0 (j := 4) (by decide), hW.l0 (j := 5) (by decide), hW.l0 (j := 6) (by decide), hW.l0 (j := 7) (by decide)⟩
end HWS
theorem i8 (v : Nat) : (8 : Int32) * nI v = nI (8 * v) := pk_mul 8 v
theorem i6 (v : Nat) : (6 : Int32) * nI v = nI (6 * v) := pk_mul 6 v
theorem i1 (v : Nat) : nI v + 1 = nI (v + 1) := nI_1 v
theorem i2 (v : Nat) : nI v + 2 = nI (v + 2) := nI_add v 2
theorem i3 (v : Nat) : nI v + 3 = nI (v + 3) := nI_add v 3
theorem i4 (v : Nat) : nI v + 4 = nI (v + 4) := nI_add v 4
theorem i5 (v : Nat) : nI v + 5 = nI (v + 5) := nI_add v 5
theorem or0 (x : Int32) : x ||| 0 = x := Int32.or_zero
theorem n10' : ¬ (1 : Int32) = 0 := by decide
theorem n01' : ¬ (0 : Int32) = 1 := by decide
