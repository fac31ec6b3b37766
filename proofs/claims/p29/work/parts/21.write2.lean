section WR2
variable {h h' : AHp} {t : Nat} {S : St}
theorem hw_no {x : Int32} (hx : ix x (S.ct 0) = none) : hw S x = false := by simp [hw, hx]
theorem hw_yes {w : Nat} (hw8 : S.ct 0 ≤ 8) (hwr : w < S.ct 0) : hw S (nI w) = true := by simp [hw, ix_nI hwr (by omega)]
theorem hv_no {x : Int32} (hx : ix x 6 = none) : hv S x = false := by simp [hv, hx]
theorem n10 : ¬ (1 : Int32) = 0 := by decide
theorem c_takeAmount (hS : HS h t S) (x a : Int32) : Call 31 [.ref t, .int x, .int a] h (fun rv h' => rv = some (.int (aTake S x a).1) ∧ HS h' t (aTake S x a).2 ∧ Fr t (t + 69) h h') := by
  simp only [s31_0, s31_1, s31_2, s31_e, hS.f, c_hasWriter hS, Option.toList_some, List.cons_append, List.nil_append]
  have h8 := hS.w.1
  rcases ix_cases x (S.ct 0) with hx | ⟨w, hwr, rfl⟩
  · simp only [s31_5, s31_19, s31_21, hw_no hx, Bool.false_eq_true, if_false, if_true]
    simp only [aTake, hx]
    exact ⟨rfl, hS, Fr.rf⟩
  · have e0 := ix_nI hwr (by omega)
    have hh := hS.w.2.1 w hwr
    simp only [s31_5, s31_8, s31_9, s31_10, s31_13, hw_yes h8 hwr, if_true, if_neg n10, c_isWithin, Option.toList_some, List.cons_append, List.nil_append, s31_16]
    by_cases ha : 1 ≤ a ∧ a ≤ 999
    · rw [if_pos ha, if_pos n10]
      simp only [s31_22, s31_23, s31_24, hS.f, c_hasRetired hS hwr, Option.toList_some, List.cons_append, List.nil_append]
      by_cases hr : rt S w = true
      · simp only [s31_27, s31_42, s31_44, if_pos hr, if_pos n10]
        simp only [aTake, e0, ha, hr, not_true, and_self, if_false, true_or, if_true]
        exact ⟨rfl, hS, Fr.rf⟩
      · simp only [s31_27, s31_30, s31_31, s31_32, s31_35, s31_38, s31_39, if_neg hr, not_true, if_false, hS.f, c_homeOf hS hwr, Option.toList_some, List.cons_append, List.nil_append, (hS.vK hh).f, c_sum (hS.vK hh)]
        by_cases hs : kSum (S.vk (S.ho w)) < a
        · rw [if_neg (Int32.not_le.mpr hs)]
          simp only [s31_42, s31_44]
          simp only [aTake, e0, ha, hs, not_true, and_self, if_false, or_true, if_true]
          exact ⟨rfl, hS, Fr.rf⟩
        · rw [if_pos (Int32.not_lt.mp hs)]
          simp only [s31_45, s31_46, s31_47, s31_50, s31_51, s31_52, s31_53, hS.f, c_homeOf hS hwr, Option.toList_some, List.cons_append, List.nil_append, (hS.vK hh).f]
          refine Call.mono (c_raise (hS.vK hh) (show w < 8 by omega)) ?_
          rintro rv h4 ⟨rfl, k4, r4⟩
          have hS4 := hS.setK hh k4 r4
          simp only [Option.toList_none, List.nil_append, s31_56, s31_57, s31_58, s31_61, hS4.f, c_homeOf hS4 hwr, Option.toList_some, List.cons_append, k4.f, c_sum k4, s31_64]
          simp only [aTake, e0, ha, hr, hs, not_true, and_self, if_false, Bool.false_eq_true, or_self]
          exact ⟨trivial, hS4, frK hh r4⟩
    · rw [if_neg ha]
      simp only [s31_19, s31_21, not_true, if_false]
      simp only [aTake, e0, ha, not_false_iff, if_true]
      exact ⟨rfl, hS, Fr.rf⟩
theorem HS.setHe (hS : HS h t S) {w : Nat} (hwr : w < S.ct 0) (x : Int32) : ∃ h', sti h (t + 3) (nI w) x = some h' ∧ HS h' t (sHE S (va_up S.he w x)) ∧ Fr t (t + 69) h h' := by
  obtain ⟨F, f, g, o, Ls, a1, ⟨e1, e4, e6, e7, e8, e9, e10, q1, q2, q3, q4⟩, a3⟩ := hS
  have := a3.1
  obtain ⟨h', e, b, r⟩ := a1.she (w := w) (by omega) x
  refine ⟨h', e, ⟨F, f, _, o, Ls, b, ⟨e1, e4, e6, e7, e8, e9, e10, q1, fun u hu => ?_, q3, q4⟩, a3⟩, r⟩
  show upd g w x u = va_up S.he w x u
  unfold upd va_up
  by_cases z : u = w
  · rw [if_pos z, if_pos z]
  · rw [if_neg z, if_neg z]; exact q2 u hu
theorem HS.setHo (hS : HS h t S) {w v : Nat} (hwr : w < S.ct 0) (hv6 : v < 6) : ∃ h', sti h (t + 2) (nI w) (nI v) = some h' ∧ HS h' t (sHO S (va_up S.ho w v)) ∧ Fr t (t + 69) h h' := by
  obtain ⟨F, f, g, o, Ls, a1, ⟨e1, e4, e6, e7, e8, e9, e10, q1, q2, q3, q4⟩, ⟨w1, w2, w3⟩⟩ := hS
  obtain ⟨h', e, b, r⟩ := a1.sho (w := w) (by omega) (nI v)
  refine ⟨h', e, ⟨F, _, g, o, Ls, b, ⟨e1, e4, e6, e7, e8, e9, e10, fun u hu => ?_, q2, q3, q4⟩, ⟨w1, fun u hu => ?_, w3⟩⟩, r⟩
  · show upd f w (nI v) u = nI (va_up S.ho w v u)
    unfold upd va_up
    by_cases z : u = w
    · rw [if_pos z, if_pos z]
    · rw [if_neg z, if_neg z]; exact q1 u hu
  · show va_up S.ho w v u < 6
    unfold va_up
    by_cases z : u = w
    · rw [if_pos z]; exact hv6
    · rw [if_neg z]; exact w2 u hu
theorem c_retireWriter (hS : HS h t S) (x z : Int32) : Call 32 [.ref t, .int x, .int z] h (fun rv h' => rv = some (.int (aRetire S x z).1) ∧ HS h' t (aRetire S x z).2 ∧ Fr t (t + 69) h h') := by
  simp only [s32_0, s32_1, s32_2, s32_e, hS.f, c_hasWriter hS, Option.toList_some, List.cons_append, List.nil_append]
  have h8 := hS.w.1
  rcases ix_cases x (S.ct 0) with hx | ⟨w, hwr, rfl⟩
  · simp only [s32_5, s32_21, s32_23, hw_no hx, Bool.false_eq_true, if_false, if_true]
    simp only [aRetire, hx]
    exact ⟨rfl, hS, Fr.rf⟩
  · have e0 := ix_nI hwr (by omega)
    have hh := hS.w.2.1 w hwr
    simp only [s32_5, s32_8, s32_9, s32_10, hw_yes h8 hwr, if_true, if_neg n10, hS.f, c_hasWriter hS, Option.toList_some, List.cons_append, List.nil_append]
    rcases ix_cases z (S.ct 0) with hz | ⟨e, her, rfl⟩
    · simp only [s32_13, s32_21, s32_23, hw_no hz, Bool.false_eq_true, if_false, if_true]
      simp only [aRetire, e0, hz]
      exact ⟨rfl, hS, Fr.rf⟩
    · have f0 := ix_nI her (by omega)
      have hhe := hS.w.2.1 e her
      simp only [s32_13, s32_16, s32_17, s32_18, hw_yes h8 her, if_true, if_neg n10]
      by_cases hwe : w = e
      · rw [if_neg (fun q => q (by rw [hwe]))]
        simp only [s32_21, s32_23]
        simp only [aRetire, e0, f0, hwe, if_true]
        exact ⟨rfl, hS, Fr.rf⟩
      · rw [if_pos (fun q => hwe ((nI_eq (by omega) (by omega)).mp q))]
        simp only [s32_24, s32_25, s32_26, hS.f, c_hasRetired hS hwr, Option.toList_some, List.cons_append, List.nil_append]
        by_cases hr : rt S w = true
        · simp only [s32_29, s32_55, s32_57, if_pos hr, if_pos n10]
          simp only [aRetire, e0, f0, hwe, hr, if_false, true_or, if_true]
          exact ⟨rfl, hS, Fr.rf⟩
        · simp only [s32_29, s32_32, s32_33, s32_34, if_neg hr, not_true, if_false, hS.f, c_hasRetired hS her, Option.toList_some, List.cons_append, List.nil_append]
          by_cases hr2 : rt S e = true
          · simp only [s32_37, s32_55, s32_57, if_pos hr2, if_pos n10]
            simp only [aRetire, e0, f0, hwe, hr2, if_false, true_or, or_true, if_true]
            exact ⟨rfl, hS, Fr.rf⟩
          · simp only [s32_37, s32_40, s32_41, s32_44, s32_45, s32_46, s32_47, s32_50, s32_51, s32_52, if_neg hr2, not_true, if_false, hS.f, hS.lho hwr, hS.lho her, oB_some]
            by_cases hho : S.ho w = S.ho e
            · rw [if_pos (by rw [hho])]
              simp only [s32_58, s32_59, s32_60, s32_63, s32_64, s32_65, hS.f, c_homeOf hS hwr, Option.toList_some, List.cons_append, List.nil_append, (hS.vK hh).f]
              refine Call.mono (c_bequeath (hS.vK hh) (show w < 8 by omega) (show e < 8 by omega)) ?_
              rintro rv h4 ⟨rfl, k4, r4⟩
              have hS4 := hS.setK hh k4 r4
              simp only [Option.toList_none, List.nil_append, s32_68, s32_69, s32_72, s32_73, s32_74, hS4.f, oB_some]
              obtain ⟨h5, g5, b5, r5⟩ := hS4.setHe hwr (nI e)
              simp only [g5, oB_some, s32_75, s32_76, b5.f, c_countActive b5, Option.toList_some, List.cons_append, List.nil_append, s32_79]
              simp only [aRetire, e0, f0, hwe, hr, hr2, hho, not_true, if_false, or_self, Bool.false_eq_true]
              rw [hho] at b5
              exact ⟨rfl, b5, (frK hh r4).tr r5⟩
            · rw [if_neg (fun q => hho ((nI_eq (by omega) (by omega)).mp q))]
              simp only [s32_55, s32_57]
              simp only [aRetire, e0, f0, hwe, hho, not_false_iff, if_false, or_true, if_true]
              exact ⟨rfl, hS, Fr.rf⟩
theorem c_moveWriter (hS : HS h t S) (x z : Int32) : Call 33 [.ref t, .int x, .int z] h (fun rv h' => rv = some (.int (aMove S x z).1) ∧ HS h' t (aMove S x z).2 ∧ Fr t (t + 69) h h') := by
  simp only [s33_0, s33_1, s33_2, s33_e, hS.f, c_hasWriter hS, Option.toList_some, List.cons_append, List.nil_append]
  have h8 := hS.w.1
  rcases ix_cases x (S.ct 0) with hx | ⟨w, hwr, rfl⟩
  · simp only [s33_5, s33_16, s33_18, hw_no hx, Bool.false_eq_true, if_false, if_true]
    simp only [aMove, hx]
    exact ⟨rfl, hS, Fr.rf⟩
  · have e0 := ix_nI hwr (by omega)
    have hh := hS.w.2.1 w hwr
    simp only [s33_5, s33_8, s33_9, s33_10, hw_yes h8 hwr, if_true, if_neg n10, hS.f, c_hasView hS, Option.toList_some, List.cons_append, List.nil_append]
    rcases ix_cases z 6 with hz | ⟨v, hv6, rfl⟩
    · simp only [s33_13, s33_16, s33_18, hv_no hz, Bool.false_eq_true, if_false, not_true]
      simp only [aMove, e0, hz]
      exact ⟨rfl, hS, Fr.rf⟩
    · have f0 := ix_nI hv6 (by decide)
      rw [hv_nI hv6]
      by_cases hc : S.th v = true
      · simp only [s33_13, s33_19, s33_20, s33_21, if_pos hc, if_pos n10, hS.f, c_hasRetired hS hwr, Option.toList_some, List.cons_append, List.nil_append]
        by_cases hr : rt S w = true
        · simp only [s33_24, s33_56, s33_58, if_pos hr, if_pos n10]
          simp only [aMove, e0, f0, hc, hr, not_true, if_false, true_or, if_true]
          exact ⟨rfl, hS, Fr.rf⟩
        · simp only [s33_24, s33_27, s33_28, s33_31, s33_32, s33_33, s33_34, if_neg hr, not_true, if_false, hS.f, hS.lho hwr, oB_some]
          by_cases hho : S.ho w = v
          · rw [if_pos (by rw [hho])]
            simp only [s33_56, s33_58]
            simp only [aMove, e0, f0, hc, hho, not_true, if_false, true_or, or_true, if_true]
            exact ⟨rfl, hS, Fr.rf⟩
          · rw [if_neg (fun q => hho ((nI_eq (by omega) (by omega)).mp q))]
            have hw8 : w < 8 := by omega
            simp only [s33_37, s33_38, s33_41, s33_42, s33_43, s33_46, s33_47, s33_48, s33_49, s33_50, s33_53, hS.f, hS.vq hv6, (hS.vK hv6).f, (hS.vK hv6).lv hw8, oB_some, c_homeVersion hS hwr, Option.toList_some, List.cons_append, List.nil_append]
            by_cases hk : (S.vk v).1 w = (S.vk (S.ho w)).1 w
            · rw [if_pos hk]
              simp only [s33_59, s33_60, s33_63, s33_64, s33_65, s33_66, s33_67, s33_70, s33_71, s33_72, hS.f, hS.lho hwr, oB_some]
              obtain ⟨h5, g5, b5, r5⟩ := hS.setHo hwr hv6
              simp only [g5, oB_some, s33_73, s33_74]
              simp only [aMove, e0, f0, hc, hr, hho, hk, not_true, if_false, or_self, Bool.false_eq_true]
              exact ⟨trivial, b5, r5⟩
            · rw [if_neg hk]
              simp only [s33_56, s33_58]
              simp only [aMove, e0, f0, hc, hk, not_true, not_false_iff, if_false, or_true, if_true]
              exact ⟨rfl, hS, Fr.rf⟩
      · simp only [s33_13, s33_16, s33_18, if_neg hc, not_true, if_false]
        simp only [aMove, e0, f0, hc, not_false_iff, if_true]
        exact ⟨rfl, hS, Fr.rf⟩
theorem c_mergeViews (hS : HS h t S) (x z : Int32) : Call 36 [.ref t, .int x, .int z] h (fun rv h' => rv = some (.int (aMerge S x z).1) ∧ HS h' t (aMerge S x z).2 ∧ Fr t (t + 69) h h') := by
  simp only [s36_0, s36_1, s36_2, s36_e, hS.f, c_hasView hS, Option.toList_some, List.cons_append, List.nil_append]
  rcases ix_cases x 6 with hx | ⟨v, hv6, rfl⟩
  · simp only [s36_5, s36_21, s36_23, hv_no hx, Bool.false_eq_true, if_false, if_true]
    simp only [aMerge, hx]
    exact ⟨rfl, hS, Fr.rf⟩
  · have e0 := ix_nI hv6 (by decide)
    rw [hv_nI hv6]
    by_cases hc : S.th v = true
    · simp only [s36_5, s36_8, s36_9, s36_10, if_pos hc, if_neg n10, hS.f, c_hasView hS, Option.toList_some, List.cons_append, List.nil_append]
      rcases ix_cases z 6 with hz | ⟨u, hu6, rfl⟩
      · simp only [s36_13, s36_21, s36_23, hv_no hz, Bool.false_eq_true, if_false, if_true]
        simp only [aMerge, e0, hz]
        exact ⟨rfl, hS, Fr.rf⟩
      · have f0 := ix_nI hu6 (by decide)
        rw [hv_nI hu6]
        by_cases hd : S.th u = true
        · simp only [s36_13, s36_16, s36_17, s36_18, if_pos hd, if_neg n10]
          by_cases hvu : v = u
          · rw [if_neg (fun q => q (by rw [hvu]))]
            simp only [s36_21, s36_23]
            simp only [aMerge, e0, f0, hvu, or_true, if_true]
            exact ⟨rfl, hS, Fr.rf⟩
          · rw [if_pos (fun q => hvu ((nI_eq (by omega) (by omega)).mp q))]
            simp only [s36_24, s36_25, s36_28, s36_29, s36_30, s36_31, s36_34, s36_35, s36_36, hS.f, hS.vq hv6, hS.vq hu6, oB_some, (hS.vK hv6).f]
            refine Call.mono (c_takeIn (hS.vK hv6) (hS.vK hu6) (by omega)) ?_
            rintro rv h4 ⟨rfl, k4, r4⟩
            have hS4 := hS.setK hv6 k4 r4
            simp only [Option.toList_some, List.cons_append, List.nil_append, s36_39, s36_40, s36_41, s36_42, s36_45, s36_46, s36_47, hS4.f, oB_some]
            obtain ⟨h5, g5, b5, r5⟩ := hS4.setOt (S.ot + kCt (S.vk v) (S.vk u))
            simp only [g5, oB_some, s36_50, s36_51]
            simp only [aMerge, e0, f0, hc, hd, hvu, not_true, if_false, or_self]
            exact ⟨trivial, b5, (frK hv6 r4).tr r5⟩
        · simp only [s36_13, s36_21, s36_23, if_neg hd, if_true]
          simp only [aMerge, e0, f0, hd, Bool.false_eq_true, not_false_iff, true_or, or_true, if_true]
          exact ⟨rfl, hS, Fr.rf⟩
    · simp only [s36_5, s36_21, s36_23, if_neg hc, if_true]
      simp only [aMerge, e0]
      cases hz : ix z 6 with
      | none => exact ⟨rfl, hS, Fr.rf⟩
      | some u =>
        simp only [hc, not_false_iff, true_or, if_true]
        exact ⟨rfl, hS, Fr.rf⟩
end WR2
