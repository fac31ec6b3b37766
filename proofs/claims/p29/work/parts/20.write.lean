/-! What the changes do to a state, and that the methods of State do it. -/
def eI : Int32 := -2000000001
def eN : Int32 := -2000000002
def eL : Int32 := -2000000003
def eF : Int32 := -2000000004
abbrev sVK (S : St) (f : Nat → Kn) : St := (f, S.2)
abbrev sTH (S : St) (f : Nat → Bool) : St := (S.1, f, S.2.2)
abbrev sHO (S : St) (f : Nat → Nat) : St := (S.1, S.2.1, f, S.2.2.2)
abbrev sHE (S : St) (f : Nat → Int32) : St := (S.1, S.2.1, S.2.2.1, f, S.2.2.2.2)
abbrev sLT (S : St) (f : List Lt) : St := (S.1, S.2.1, S.2.2.1, S.2.2.2.1, f, S.2.2.2.2.2)
abbrev sCT (S : St) (f : Nat → Nat) : St := (S.1, S.2.1, S.2.2.1, S.2.2.2.1, S.2.2.2.2.1, f, S.2.2.2.2.2.2)
abbrev sOT (S : St) (x : Int32) : St := (S.1, S.2.1, S.2.2.1, S.2.2.2.1, S.2.2.2.2.1, S.2.2.2.2.2.1, x)
def kBeq (K : Kn) (w e : Nat) : Kn := ((kForget (kRaise K e (K.2.1 w) (K.2.2.1 w)) w).1, (kForget (kRaise K e (K.2.1 w) (K.2.2.1 w)) w).2.1, (kForget (kRaise K e (K.2.1 w) (K.2.2.1 w)) w).2.2.1, K.2.2.2 ||| ((1 : Int32) <<< (nI w &&& 31)))
def aWriter (S : St) (x : Int32) : Int32 × St := match ix x 6 with
  | none => (eI, S)
  | some v => if ¬ S.th v = true then (eI, S) else if ¬ S.ct 0 < 8 then (eL, S) else
    (nI (S.ct 0), sVK (sHE (sHO (sCT S (va_up S.ct 0 (S.ct 0 + 1))) (va_up S.ho (S.ct 0) v)) (va_up S.he (S.ct 0) (-1))) (va_up S.vk v (kRaise (S.vk v) (S.ct 0) 0 0)))
def aAdd (S : St) (x a : Int32) : Int32 × St := match ix x (S.ct 0) with
  | none => (eI, S)
  | some w => if ¬ (1 ≤ a ∧ a ≤ 999) then (eI, S) else if rt S w = true then (eN, S) else
    (kSum (kRaise (S.vk (S.ho w)) w a 0), sVK S (va_up S.vk (S.ho w) (kRaise (S.vk (S.ho w)) w a 0)))
def aTake (S : St) (x a : Int32) : Int32 × St := match ix x (S.ct 0) with
  | none => (eI, S)
  | some w => if ¬ (1 ≤ a ∧ a ≤ 999) then (eI, S) else if rt S w = true ∨ kSum (S.vk (S.ho w)) < a then (eN, S) else
    (kSum (kRaise (S.vk (S.ho w)) w 0 a), sVK S (va_up S.vk (S.ho w) (kRaise (S.vk (S.ho w)) w 0 a)))
def aRetire (S : St) (x z : Int32) : Int32 × St := match ix x (S.ct 0), ix z (S.ct 0) with
  | some w, some e => if w = e then (eI, S) else if rt S w = true ∨ rt S e = true ∨ ¬ S.ho w = S.ho e then (eN, S) else
    (cntI (fun u => !rt (sHE S (va_up S.he w (nI e))) u) (S.ct 0), sVK (sHE S (va_up S.he w (nI e))) (va_up S.vk (S.ho w) (kBeq (S.vk (S.ho w)) w e)))
  | _, _ => (eI, S)
def aMove (S : St) (x z : Int32) : Int32 × St := match ix x (S.ct 0), ix z 6 with
  | some w, some v => if ¬ S.th v = true then (eI, S) else if rt S w = true ∨ S.ho w = v ∨ ¬ (S.vk v).1 w = (S.vk (S.ho w)).1 w then (eN, S) else
    (nI (S.ho w), sHO S (va_up S.ho w v))
  | _, _ => (eI, S)
/-- the lowest number that is free -/
def ff (p : Nat → Bool) : Nat → Option Nat
  | 0 => none
  | n + 1 => match ff p n with
    | some u => some u
    | none => if p n = true then none else some n
def aView (S : St) (x : Int32) : Int32 × St := match ix x 6 with
  | none => (eI, S)
  | some v => if ¬ S.th v = true then (eI, S) else match ff S.th 6 with
    | none => (eL, S)
    | some u => (nI u, sVK (sTH S (va_up S.th u true)) (va_up S.vk u (S.vk v)))
def homeSet (S : St) (v : Nat) : Int32 := obits (fun w => decide (S.ho w = v) && !rt S w) (S.ct 0)
def loseTo (v : Nat) (L : Lt) : Lt := if L.2.1 = v then (L.1, L.2.1, L.2.2.1, true, L.2.2.2.2) else L
def aDrop (S : St) (x : Int32) : Int32 × St := match ix x 6 with
  | none => (eI, S)
  | some v => if ¬ S.th v = true then (eI, S) else if ¬ homeSet S v = 0 ∨ cntI S.th 6 = 1 then (eN, S) else
    (cntI (va_up S.th v false) 6, sLT (sTH S (va_up S.th v false)) (S.lt.map (loseTo v)))
def aMerge (S : St) (x z : Int32) : Int32 × St := match ix x 6, ix z 6 with
  | some v, some u => if ¬ S.th v = true ∨ ¬ S.th u = true ∨ v = u then (eI, S) else
    (kCt (S.vk v) (S.vk u), sOT (sVK S (va_up S.vk v (kTk (S.vk v) (S.vk u)))) (S.ot + kCt (S.vk v) (S.vk u)))
  | _, _ => (eI, S)
section WR
variable {h h' : AHp} {t : Nat} {S : St}
theorem upd_up {f : Nat → Int32} {k : Nat} {x : Int32} : upd f k x = va_up f k x := rfl
theorem HS.setK (hS : HS h t S) {v : Nat} {K' : Kn} (hv6 : v < 6) (hk : HK h' (t + 5 + 4 * v) K') (r : Fr (t + 5 + 4 * v) (t + 5 + 4 * v + 4) h h') : HS h' t (sVK S (va_up S.vk v K')) := by
  obtain ⟨F, f, g, o, Ls, a1, a2, a3⟩ := hS
  exact ⟨F, f, g, o, Ls, a1.sK hv6 hk r, a2, a3⟩
theorem HS.setOt (hS : HS h t S) (x : Int32) : ∃ h', stf h t 3 10 (.int x) = some h' ∧ HS h' t (sOT S x) ∧ Fr t (t + 69) h h' := by
  obtain ⟨F, f, g, o, Ls, a1, ⟨e1, e4, e6, e7, e8, e9, e10, q⟩, a3⟩ := hS
  obtain ⟨h', e, b, r⟩ := a1.sF (k := 10) (by decide) x
  exact ⟨h', e, ⟨_, f, g, o, Ls, b, ⟨e1, e4, e6, e7, e8, e9, rfl, q⟩, a3⟩, r⟩
theorem frK {v : Nat} (hv6 : v < 6) (r : Fr (t + 5 + 4 * v) (t + 5 + 4 * v + 4) h h') : Fr t (t + 69) h h' := r.up (by omega) (by omega)
theorem c_bringWriter (hS : HS h t S) (x : Int32) : Call 29 [.ref t, .int x] h (fun rv h' => rv = some (.int (aWriter S x).1) ∧ HS h' t (aWriter S x).2 ∧ Fr t (t + 69) h h') := by
  simp only [s29_0, s29_1, s29_2, s29_e, hS.f, c_hasView hS, Option.toList_some, List.cons_append, List.nil_append]
  rcases ix_cases x 6 with hx | ⟨v, hv6, rfl⟩
  · have e1 : hv S x = false := by simp [hv, hx]
    simp only [s29_5, s29_8, s29_10, e1, Bool.false_eq_true, if_false, not_true]
    simp only [aWriter, hx]
    exact ⟨rfl, hS, Fr.rf⟩
  · have e0 := ix_nI hv6 (by decide)
    rw [hv_nI hv6]
    by_cases hc : S.th v = true
    · simp only [s29_5, s29_8, s29_10, s29_11, s29_12, s29_15, s29_17, if_pos hc, if_pos (show ¬ (1 : Int32) = 0 by decide), hS.f, oB_some]
      by_cases h8 : S.ct 0 < 8
      · rw [if_pos (show nI (S.ct 0) < 8 from nI_lt (b := 8) h8 (by decide))]
        obtain ⟨F, f, g, o, Ls, a1, ⟨e1, e4, e6, e7, e8, e9, e10, q1, q2, q3, q4⟩, a3⟩ := hS
        simp only [s29_23, s29_24, s29_27, s29_28, s29_29, s29_30, s29_33, s29_34, s29_35, a1.fl, oB_some]
        obtain ⟨h1, g1, b1, r1⟩ := a1.sF (k := 4) (by decide) (F 4 + 1)
        rw [g1, oB_some, e4]
        simp only [s29_38, s29_39, s29_42, s29_43, s29_44, b1.fl, oB_some]
        obtain ⟨h2, g2, b2, r2⟩ := b1.sho h8 (nI v)
        simp only [s29_45, s29_46, s29_49, s29_50, s29_51, g2, b2.fl, oB_some]
        obtain ⟨h3, g3, b3, r3⟩ := b2.she h8 (-1)
        simp only [s29_52, s29_53, s29_56, s29_57, s29_58, s29_59, s29_60, s29_61, g3, b3.fl, oB_some, b3.vq hv6, (b3.vK hv6).f]
        refine Call.mono (c_raise (b3.vK hv6) h8) ?_
        rintro rv h4 ⟨rfl, k4, r4⟩
        simp only [Option.toList_none, List.nil_append, s29_64, s29_65]
        simp only [aWriter, e0, hc, h8, not_true, if_false]
        refine ⟨trivial, ⟨_, _, _, o, Ls, b3.sK hv6 k4 r4, ⟨e1, ?_, e6, e7, e8, e9, e10, fun w hw => ?_, fun w hw => ?_, q3, q4⟩, ?_⟩, ((r1.tr r2).tr r3).tr (frK hv6 r4)⟩
        · show F 4 + 1 = nI (S.ct 0 + 1)
          rw [e4, nI_1]
        · have hw : w < S.ct 0 + 1 := hw
          show upd f (S.ct 0) (nI v) w = nI (va_up S.ho (S.ct 0) v w)
          unfold upd va_up
          by_cases e : w = S.ct 0
          · rw [if_pos e, if_pos e]
          · rw [if_neg e, if_neg e]; exact q1 w (by omega)
        · have hw : w < S.ct 0 + 1 := hw
          show upd g (S.ct 0) (-1) w = va_up S.he (S.ct 0) (-1) w
          unfold upd va_up
          by_cases e : w = S.ct 0
          · rw [if_pos e, if_pos e]
          · rw [if_neg e, if_neg e]; exact q2 w (by omega)
        · obtain ⟨w1, w2, w3, w4, w5⟩ := a3
          refine ⟨h8, fun w hw => ?_, w3, w4, w5⟩
          have hw : w < S.ct 0 + 1 := hw
          show va_up S.ho (S.ct 0) v w < 6
          unfold va_up
          by_cases e : w = S.ct 0
          · rw [if_pos e]; exact hv6
          · rw [if_neg e]; exact w2 w (by omega)
      · have h9 : S.ct 0 = 8 := by have := hS.w.1; omega
        rw [if_neg (by rw [h9]; decide)]
        simp only [s29_20, s29_22]
        simp only [aWriter, e0, hc, h8, not_true, not_false_iff, if_false, if_true]
        exact ⟨rfl, hS, Fr.rf⟩
    · simp only [s29_5, s29_8, s29_10, if_neg hc, not_true, if_false]
      simp only [aWriter, e0, hc, not_false_iff, if_true]
      exact ⟨rfl, hS, Fr.rf⟩
theorem c_addAmount (hS : HS h t S) (x a : Int32) : Call 30 [.ref t, .int x, .int a] h (fun rv h' => rv = some (.int (aAdd S x a).1) ∧ HS h' t (aAdd S x a).2 ∧ Fr t (t + 69) h h') := by
  simp only [s30_0, s30_1, s30_2, s30_e, hS.f, c_hasWriter hS, Option.toList_some, List.cons_append, List.nil_append]
  have h8 := hS.w.1
  rcases ix_cases x (S.ct 0) with hx | ⟨w, hw, rfl⟩
  · have e1 : hw S x = false := by simp [hw, hx]
    simp only [s30_5, s30_19, s30_21, e1, Bool.false_eq_true, if_false, if_true]
    simp only [aAdd, hx]
    exact ⟨rfl, hS, Fr.rf⟩
  · have e0 := ix_nI hw (by omega)
    have e1 : Jvm.Pilot.@@N@@.hw S (nI w) = true := by simp [Jvm.Pilot.@@N@@.hw, e0]
    simp only [s30_5, s30_8, s30_9, s30_10, s30_13, e1, if_true, if_neg (show ¬ (1 : Int32) = 0 by decide), c_isWithin, Option.toList_some, List.cons_append, List.nil_append, s30_16]
    by_cases ha : 1 ≤ a ∧ a ≤ 999
    · rw [if_pos ha, if_pos (show ¬ (1 : Int32) = 0 by decide)]
      simp only [s30_22, s30_23, s30_24, hS.f, c_hasRetired hS hw, Option.toList_some, List.cons_append, List.nil_append]
      by_cases hr : rt S w = true
      · simp only [s30_27, s30_30, s30_32, if_pos hr, if_neg (show ¬ (1 : Int32) = 0 by decide)]
        simp only [aAdd, e0, ha, hr, not_true, and_self, if_false, if_true]
        exact ⟨rfl, hS, Fr.rf⟩
      · simp only [s30_27, s30_33, s30_34, s30_35, s30_38, s30_39, s30_40, s30_41, if_neg hr, if_true, hS.f, c_homeOf hS hw, Option.toList_some, List.cons_append, List.nil_append, (hS.vK (hS.w.2.1 w hw)).f]
        refine Call.mono (c_raise (hS.vK (hS.w.2.1 w hw)) (show w < 8 by omega)) ?_
        rintro rv h4 ⟨rfl, k4, r4⟩
        have hS4 := hS.setK (hS.w.2.1 w hw) k4 r4
        simp only [Option.toList_none, List.nil_append, s30_44, s30_45, s30_46, s30_49, hS4.f, c_homeOf hS4 hw, Option.toList_some, List.cons_append, k4.f, c_sum k4, s30_52]
        simp only [aAdd, e0, ha, hr, not_true, and_self, if_false, Bool.false_eq_true]
        exact ⟨trivial, hS4, frK (hS.w.2.1 w hw) r4⟩
    · rw [if_neg ha]
      simp only [s30_19, s30_21, not_true, if_false]
      simp only [aAdd, e0, ha, not_false_iff, if_true]
      exact ⟨rfl, hS, Fr.rf⟩
end WR
