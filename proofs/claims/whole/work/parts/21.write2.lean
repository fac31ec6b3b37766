section WR2
variable {h h' : AHp} {t : Nat} {S : St}
theorem hw_no {x : Int32} (hx : ix x (S.ct 0) = none) : hw S x = false := by simp [hw, hx]
theorem hw_yes {w : Nat} (hw8 : S.ct 0 ≤ 8) (hwr : w < S.ct 0) : hw S (nI w) = true := by simp [hw, ix_nI hwr (by omega)]
theorem hv_no {x : Int32} (hx : ix x 6 = none) : hv S x = false := by simp [hv, hx]
theorem n10 : ¬ (1 : Int32) = 0 := by decide
theorem c_takeAmount (hS : HS h t S) (x a : Int32) : Call 41 [.ref t, .int x, .int a] h (fun rv h' => rv = some (.int (aTake S x a).1) ∧ HS h' t (aTake S x a).2 ∧ Fr t (t + 69) h h') := by
  simp only [s41_0, s41_1, s41_2, s41_e, hS.f, c_hasWriter hS, Option.toList_some, List.cons_append, List.nil_append]
  have h8 := hS.w.1
  rcases ix_cases x (S.ct 0) with hx | ⟨w, hwr, rfl⟩
  · simp only [s41_5, s41_19, s41_21, hw_no hx, Bool.false_eq_true, if_false, if_true]
    simp only [aTake, hx]
    exact ⟨rfl, hS, Fr.rf⟩
  · have e0 := ix_nI hwr (by omega)
    have hh := hS.w.2.1 w hwr
    simp only [s41_5, s41_8, s41_9, s41_10, s41_13, hw_yes h8 hwr, if_true, if_neg n10, c_isWithin, Option.toList_some, List.cons_append, List.nil_append, s41_16]
    by_cases ha : 1 ≤ a ∧ a ≤ 999
    · rw [if_pos ha, if_pos n10]
      simp only [s41_22, s41_23, s41_24, hS.f, c_hasRetired hS hwr, Option.toList_some, List.cons_append, List.nil_append]
      by_cases hr : rt S w = true
      · simp only [s41_27, s41_42, s41_44, if_pos hr, if_pos n10]
        simp only [aTake, e0, ha, hr, not_true, and_self, if_false, true_or, if_true]
        exact ⟨rfl, hS, Fr.rf⟩
      · simp only [s41_27, s41_30, s41_31, s41_32, s41_35, s41_38, s41_39, if_neg hr, not_true, if_false, hS.f, c_homeOf hS hwr, Option.toList_some, List.cons_append, List.nil_append, (hS.vK hh).f, c_sum (hS.vK hh)]
        by_cases hs : kSum (S.vk (S.ho w)) < a
        · rw [if_neg (Int32.not_le.mpr hs)]
          simp only [s41_42, s41_44]
          simp only [aTake, e0, ha, hs, not_true, and_self, if_false, or_true, if_true]
          exact ⟨rfl, hS, Fr.rf⟩
        · rw [if_pos (Int32.not_lt.mp hs)]
          simp only [s41_45, s41_46, s41_47, s41_50, s41_51, s41_52, s41_53, hS.f, c_homeOf hS hwr, Option.toList_some, List.cons_append, List.nil_append, (hS.vK hh).f]
          refine Call.mono (c_raise (hS.vK hh) (show w < 8 by omega)) ?_
          rintro rv h4 ⟨rfl, k4, r4⟩
          have hS4 := hS.setK hh k4 r4
          simp only [Option.toList_none, List.nil_append, s41_56, s41_57, s41_58, s41_61, hS4.f, c_homeOf hS4 hwr, Option.toList_some, List.cons_append, k4.f, c_sum k4, s41_64]
          simp only [aTake, e0, ha, hr, hs, not_true, and_self, if_false, Bool.false_eq_true, or_self]
          exact ⟨trivial, hS4, frK hh r4⟩
    · rw [if_neg ha]
      simp only [s41_19, s41_21, not_true, if_false]
      simp only [aTake, e0, ha, not_false_iff, if_true]
      exact ⟨rfl, hS, Fr.rf⟩
theorem HS.setHe (hS : HS h t S) {w : Nat} (hwr : w < S.ct 0) (x : Int32) : ∃ h', sti h (t + 3) (nI w) x = some h' ∧ HS h' t (sHE S (va_up S.he w x)) ∧ Fr t (t + 69) h h' := by
  obtain ⟨F, f, g, o, Ls, a1, ⟨e1, e4, e6, e7, e8, e9, e10, q1, q2, q3, q4⟩, a3⟩ := hS
  have := a3.1
  obtain ⟨h', e, b, r⟩ := a1.she (w := w) (by omega) x
  refine ⟨h', e, ⟨F, f, _, o, Ls, b, ⟨e1, e4, e6, e7, e8, e9, e10, q1, fun u hu => ?_, q3, q4⟩, a3⟩, r⟩
  show upd g w x u = va_up S.he w x u
  unfold upd va_up
  by_cases z : u = w
  · rw [if_pos z, if_pos z]
  · rw [if_neg z, if_neg z]; exact q2 u hu
theorem HS.setHo (hS : HS h t S) {w v : Nat} (hwr : w < S.ct 0) (hv6 : v < 6) : ∃ h', sti h (t + 2) (nI w) (nI v) = some h' ∧ HS h' t (sHO S (va_up S.ho w v)) ∧ Fr t (t + 69) h h' := by
  obtain ⟨F, f, g, o, Ls, a1, ⟨e1, e4, e6, e7, e8, e9, e10, q1, q2, q3, q4⟩, ⟨w1, w2, w3⟩⟩ := hS
  obtain ⟨h', e, b, r⟩ := a1.sho (w := w) (by omega) (nI v)
  refine ⟨h', e, ⟨F, _, g, o, Ls, b, ⟨e1, e4, e6, e7, e8, e9, e10, fun u hu => ?_, q2, q3, q4⟩, ⟨w1, fun u hu => ?_, w3⟩⟩, r⟩
  · show upd f w (nI v) u = nI (va_up S.ho w v u)
    unfold upd va_up
    by_cases z : u = w
    · rw [if_pos z, if_pos z]
    · rw [if_neg z, if_neg z]; exact q1 u hu
  · show va_up S.ho w v u < 6
    unfold va_up
    by_cases z : u = w
    · rw [if_pos z]; exact hv6
    · rw [if_neg z]; exact w2 u hu
theorem c_retireWriter (hS : HS h t S) (x z : Int32) : Call 42 [.ref t, .int x, .int z] h (fun rv h' => rv = some (.int (aRetire S x z).1) ∧ HS h' t (aRetire S x z).2 ∧ Fr t (t + 69) h h') := by
  simp only [s42_0, s42_1, s42_2, s42_e, hS.f, c_hasWriter hS, Option.toList_some, List.cons_append, List.nil_append]
  have h8 := hS.w.1
  rcases ix_cases x (S.ct 0) with hx | ⟨w, hwr, rfl⟩
  · simp only [s42_5, s42_21, s42_23, hw_no hx, Bool.false_eq_true, if_false, if_true]
    simp only [aRetire, hx]
    exact ⟨rfl, hS, Fr.rf⟩
  · have e0 := ix_nI hwr (by omega)
    have hh := hS.w.2.1 w hwr
    simp only [s42_5, s42_8, s42_9, s42_10, hw_yes h8 hwr, if_true, if_neg n10, hS.f, c_hasWriter hS, Option.toList_some, List.cons_append, List.nil_append]
    rcases ix_cases z (S.ct 0) with hz | ⟨e, her, rfl⟩
    · simp only [s42_13, s42_21, s42_23, hw_no hz, Bool.false_eq_true, if_false, if_true]
      simp only [aRetire, e0, hz]
      exact ⟨rfl, hS, Fr.rf⟩
    · have f0 := ix_nI her (by omega)
      have hhe := hS.w.2.1 e her
      simp only [s42_13, s42_16, s42_17, s42_18, hw_yes h8 her, if_true, if_neg n10]
      by_cases hwe : w = e
      · rw [if_neg (fun q => q (by rw [hwe]))]
        simp only [s42_21, s42_23]
        simp only [aRetire, e0, f0, hwe, if_true]
        exact ⟨rfl, hS, Fr.rf⟩
      · rw [if_pos (fun q => hwe ((nI_eq (by omega) (by omega)).mp q))]
        simp only [s42_24, s42_25, s42_26, hS.f, c_hasRetired hS hwr, Option.toList_some, List.cons_append, List.nil_append]
        by_cases hr : rt S w = true
        · simp only [s42_29, s42_55, s42_57, if_pos hr, if_pos n10]
          simp only [aRetire, e0, f0, hwe, hr, if_false, true_or, if_true]
          exact ⟨rfl, hS, Fr.rf⟩
        · simp only [s42_29, s42_32, s42_33, s42_34, if_neg hr, not_true, if_false, hS.f, c_hasRetired hS her, Option.toList_some, List.cons_append, List.nil_append]
          by_cases hr2 : rt S e = true
          · simp only [s42_37, s42_55, s42_57, if_pos hr2, if_pos n10]
            simp only [aRetire, e0, f0, hwe, hr2, if_false, true_or, or_true, if_true]
            exact ⟨rfl, hS, Fr.rf⟩
          · simp only [s42_37, s42_40, s42_41, s42_44, s42_45, s42_46, s42_47, s42_50, s42_51, s42_52, if_neg hr2, not_true, if_false, hS.f, hS.lho hwr, hS.lho her, oB_some]
            by_cases hho : S.ho w = S.ho e
            · rw [if_pos (by rw [hho])]
              simp only [s42_58, s42_59, s42_60, s42_63, s42_64, s42_65, hS.f, c_homeOf hS hwr, Option.toList_some, List.cons_append, List.nil_append, (hS.vK hh).f]
              refine Call.mono (c_bequeath (hS.vK hh) (show w < 8 by omega) (show e < 8 by omega)) ?_
              rintro rv h4 ⟨rfl, k4, r4⟩
              have hS4 := hS.setK hh k4 r4
              simp only [Option.toList_none, List.nil_append, s42_68, s42_69, s42_72, s42_73, s42_74, hS4.f, oB_some]
              obtain ⟨h5, g5, b5, r5⟩ := hS4.setHe hwr (nI e)
              simp only [g5, oB_some, s42_75, s42_76, b5.f, c_countActive b5, Option.toList_some, List.cons_append, List.nil_append, s42_79]
              simp only [aRetire, e0, f0, hwe, hr, hr2, hho, not_true, if_false, or_self, Bool.false_eq_true]
              rw [hho] at b5
              exact ⟨rfl, b5, (frK hh r4).tr r5⟩
            · rw [if_neg (fun q => hho ((nI_eq (by omega) (by omega)).mp q))]
              simp only [s42_55, s42_57]
              simp only [aRetire, e0, f0, hwe, hho, not_false_iff, if_false, or_true, if_true]
              exact ⟨rfl, hS, Fr.rf⟩
theorem c_moveWriter (hS : HS h t S) (x z : Int32) : Call 43 [.ref t, .int x, .int z] h (fun rv h' => rv = some (.int (aMove S x z).1) ∧ HS h' t (aMove S x z).2 ∧ Fr t (t + 69) h h') := by
  simp only [s43_0, s43_1, s43_2, s43_e, hS.f, c_hasWriter hS, Option.toList_some, List.cons_append, List.nil_append]
  have h8 := hS.w.1
  rcases ix_cases x (S.ct 0) with hx | ⟨w, hwr, rfl⟩
  · simp only [s43_5, s43_16, s43_18, hw_no hx, Bool.false_eq_true, if_false, if_true]
    simp only [aMove, hx]
    exact ⟨rfl, hS, Fr.rf⟩
  · have e0 := ix_nI hwr (by omega)
    have hh := hS.w.2.1 w hwr
    simp only [s43_5, s43_8, s43_9, s43_10, hw_yes h8 hwr, if_true, if_neg n10, hS.f, c_hasView hS, Option.toList_some, List.cons_append, List.nil_append]
    rcases ix_cases z 6 with hz | ⟨v, hv6, rfl⟩
    · simp only [s43_13, s43_16, s43_18, hv_no hz, Bool.false_eq_true, if_false, not_true]
      simp only [aMove, e0, hz]
      exact ⟨rfl, hS, Fr.rf⟩
    · have f0 := ix_nI hv6 (by decide)
      rw [hv_nI hv6]
      by_cases hc : S.th v = true
      · simp only [s43_13, s43_19, s43_20, s43_21, if_pos hc, if_pos n10, hS.f, c_hasRetired hS hwr, Option.toList_some, List.cons_append, List.nil_append]
        by_cases hr : rt S w = true
        · simp only [s43_24, s43_56, s43_58, if_pos hr, if_pos n10]
          simp only [aMove, e0, f0, hc, hr, not_true, if_false, true_or, if_true]
          exact ⟨rfl, hS, Fr.rf⟩
        · simp only [s43_24, s43_27, s43_28, s43_31, s43_32, s43_33, s43_34, if_neg hr, not_true, if_false, hS.f, hS.lho hwr, oB_some]
          by_cases hho : S.ho w = v
          · rw [if_pos (by rw [hho])]
            simp only [s43_56, s43_58]
            simp only [aMove, e0, f0, hc, hho, not_true, if_false, true_or, or_true, if_true]
            exact ⟨rfl, hS, Fr.rf⟩
          · rw [if_neg (fun q => hho ((nI_eq (by omega) (by omega)).mp q))]
            have hw8 : w < 8 := by omega
            simp only [s43_37, s43_38, s43_41, s43_42, s43_43, s43_46, s43_47, s43_48, s43_49, s43_50, s43_53, hS.f, hS.vq hv6, (hS.vK hv6).f, (hS.vK hv6).lv hw8, oB_some, c_homeVersion hS hwr, Option.toList_some, List.cons_append, List.nil_append]
            by_cases hk : (S.vk v).1 w = (S.vk (S.ho w)).1 w
            · rw [if_pos hk]
              simp only [s43_59, s43_60, s43_63, s43_64, s43_65, s43_66, s43_67, s43_70, s43_71, s43_72, hS.f, hS.lho hwr, oB_some]
              obtain ⟨h5, g5, b5, r5⟩ := hS.setHo hwr hv6
              simp only [g5, oB_some, s43_73, s43_74]
              simp only [aMove, e0, f0, hc, hr, hho, hk, not_true, if_false, or_self, Bool.false_eq_true]
              exact ⟨trivial, b5, r5⟩
            · rw [if_neg hk]
              simp only [s43_56, s43_58]
              simp only [aMove, e0, f0, hc, hk, not_true, not_false_iff, if_false, or_true, if_true]
              exact ⟨rfl, hS, Fr.rf⟩
      · simp only [s43_13, s43_16, s43_18, if_neg hc, not_true, if_false]
        simp only [aMove, e0, f0, hc, not_false_iff, if_true]
        exact ⟨rfl, hS, Fr.rf⟩
theorem c_mergeViews (hS : HS h t S) (x z : Int32) : Call 46 [.ref t, .int x, .int z] h (fun rv h' => rv = some (.int (aMerge S x z).1) ∧ HS h' t (aMerge S x z).2 ∧ Fr t (t + 69) h h') := by
  simp only [s46_0, s46_1, s46_2, s46_e, hS.f, c_hasView hS, Option.toList_some, List.cons_append, List.nil_append]
  rcases ix_cases x 6 with hx | ⟨v, hv6, rfl⟩
  · simp only [s46_5, s46_21, s46_23, hv_no hx, Bool.false_eq_true, if_false, if_true]
    simp only [aMerge, hx]
    exact ⟨rfl, hS, Fr.rf⟩
  · have e0 := ix_nI hv6 (by decide)
    rw [hv_nI hv6]
    by_cases hc : S.th v = true
    · simp only [s46_5, s46_8, s46_9, s46_10, if_pos hc, if_neg n10, hS.f, c_hasView hS, Option.toList_some, List.cons_append, List.nil_append]
      rcases ix_cases z 6 with hz | ⟨u, hu6, rfl⟩
      · simp only [s46_13, s46_21, s46_23, hv_no hz, Bool.false_eq_true, if_false, if_true]
        simp only [aMerge, e0, hz]
        exact ⟨rfl, hS, Fr.rf⟩
      · have f0 := ix_nI hu6 (by decide)
        rw [hv_nI hu6]
        by_cases hd : S.th u = true
        · simp only [s46_13, s46_16, s46_17, s46_18, if_pos hd, if_neg n10]
          by_cases hvu : v = u
          · rw [if_neg (fun q => q (by rw [hvu]))]
            simp only [s46_21, s46_23]
            simp only [aMerge, e0, f0, hvu, or_true, if_true]
            exact ⟨rfl, hS, Fr.rf⟩
          · rw [if_pos (fun q => hvu ((nI_eq (by omega) (by omega)).mp q))]
            simp only [s46_24, s46_25, s46_28, s46_29, s46_30, s46_31, s46_34, s46_35, s46_36, hS.f, hS.vq hv6, hS.vq hu6, oB_some, (hS.vK hv6).f]
            refine Call.mono (c_takeIn (hS.vK hv6) (hS.vK hu6) (by omega)) ?_
            rintro rv h4 ⟨rfl, k4, r4⟩
            have hS4 := hS.setK hv6 k4 r4
            simp only [Option.toList_some, List.cons_append, List.nil_append, s46_39, s46_40, s46_41, s46_42, s46_45, s46_46, s46_47, hS4.f, oB_some]
            obtain ⟨h5, g5, b5, r5⟩ := hS4.setOt (S.ot + kCt (S.vk v) (S.vk u))
            simp only [g5, oB_some, s46_50, s46_51]
            simp only [aMerge, e0, f0, hc, hd, hvu, not_true, if_false, or_self]
            exact ⟨trivial, b5, (frK hv6 r4).tr r5⟩
        · simp only [s46_13, s46_21, s46_23, if_neg hd, if_true]
          simp only [aMerge, e0, f0, hd, Bool.false_eq_true, not_false_iff, true_or, or_true, if_true]
          exact ⟨rfl, hS, Fr.rf⟩
    · simp only [s46_5, s46_21, s46_23, if_neg hc, if_true]
      simp only [aMerge, e0]
      cases hz : ix z 6 with
      | none => exact ⟨rfl, hS, Fr.rf⟩
      | some u =>
        simp only [hc, not_false_iff, true_or, if_true]
        exact ⟨rfl, hS, Fr.rf⟩
end WR2
