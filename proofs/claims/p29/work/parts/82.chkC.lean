set_option maxRecDepth 100000 in
theorem k60_ok : (kOf 60).all (eok 60) = true := by decide +kernel
set_option maxRecDepth 100000 in
theorem k60_in : ∀ e ∈ kOf 60, ∀ w ∈ needs 60 e, w ∈ lw_tbl ∧ okW w = true := pl_in (ps := [[], [], [], [], [], [], [], [], [], []]) (by decide +kernel) (by decide +kernel)
set_option maxRecDepth 100000 in
theorem k61_ok : (kOf 61).all (eok 61) = true := by decide +kernel
set_option maxRecDepth 100000 in
theorem k61_in : ∀ e ∈ kOf 61, ∀ w ∈ needs 61 e, w ∈ lw_tbl ∧ okW w = true := pl_in (ps := [[], [274], [212], [275, 260, 6, 259], []]) (by decide +kernel) (by decide +kernel)
set_option maxRecDepth 100000 in
theorem k62_ok : (kOf 62).all (eok 62) = true := by decide +kernel
set_option maxRecDepth 100000 in
theorem k62_in : ∀ e ∈ kOf 62, ∀ w ∈ needs 62 e, w ∈ lw_tbl ∧ okW w = true := pl_in (ps := [[], [], [], [], [201], [], [], [], [], [202], [], [], [], [], [202], [], [], [], [], [], [], [], [], [203], [], [], [], [], [], [], [], [], [], [], [], [], [], [], [], [], [], []]) (by decide +kernel) (by decide +kernel)
set_option maxRecDepth 100000 in
theorem k63_ok : (kOf 63).all (eok 63) = true := by decide +kernel
set_option maxRecDepth 100000 in
theorem k63_in : ∀ e ∈ kOf 63, ∀ w ∈ needs 63 e, w ∈ lw_tbl ∧ okW w = true := pl_in (ps := [[], [], [], [], [], [], [], [], [216], [], [], [], [], []]) (by decide +kernel) (by decide +kernel)
set_option maxRecDepth 100000 in
theorem k64_ok : (kOf 64).all (eok 64) = true := by decide +kernel
set_option maxRecDepth 100000 in
theorem k64_in : ∀ e ∈ kOf 64, ∀ w ∈ needs 64 e, w ∈ lw_tbl ∧ okW w = true := pl_in (ps := [[], [220], [], [], [], []]) (by decide +kernel) (by decide +kernel)
set_option maxRecDepth 100000 in
theorem k65_ok : (kOf 65).all (eok 65) = true := by decide +kernel
set_option maxRecDepth 100000 in
theorem k65_in : ∀ e ∈ kOf 65, ∀ w ∈ needs 65 e, w ∈ lw_tbl ∧ okW w = true := pl_in (ps := [[], [], [], [], [], [], [], [], [], [], [], [], [], [], [], []]) (by decide +kernel) (by decide +kernel)
set_option maxRecDepth 100000 in
theorem k66_ok : (kOf 66).all (eok 66) = true := by decide +kernel
set_option maxRecDepth 100000 in
theorem k66_in : ∀ e ∈ kOf 66, ∀ w ∈ needs 66 e, w ∈ lw_tbl ∧ okW w = true := pl_in (ps := [[], [], [], [], [], [], [], [], [], [], [], [], [], [], [], [], [], [], [], [], [], [], [], [], [], [], [], [], []]) (by decide +kernel) (by decide +kernel)
set_option maxRecDepth 100000 in
theorem k67_ok : (kOf 67).all (eok 67) = true := by decide +kernel
set_option maxRecDepth 100000 in
theorem k67_in : ∀ e ∈ kOf 67, ∀ w ∈ needs 67 e, w ∈ lw_tbl ∧ okW w = true := pl_in (ps := [[], [], [], [], [], [], [], [], [], [], [], [], [], [], [], [], [], [], [], [], [], [], []]) (by decide +kernel) (by decide +kernel)
set_option maxRecDepth 100000 in
theorem k68_0_ok : (K68_0).all (eok 68) = true := by decide +kernel
set_option maxRecDepth 100000 in
theorem k68_0_in : ∀ e ∈ K68_0, ∀ w ∈ needs 68 e, w ∈ lw_tbl ∧ okW w = true := pl_in (ps := [[], [], [], [], [], [], [], [], [], [], [], [], [], [], [], [], [], [], [], [], [], [], [], [], [], [], [], [], [], [], [], [], [], [], [], [], [], [], [], []]) (by decide +kernel) (by decide +kernel)
set_option maxRecDepth 100000 in
theorem k68_1_ok : (K68_1).all (eok 68) = true := by decide +kernel
set_option maxRecDepth 100000 in
theorem k68_1_in : ∀ e ∈ K68_1, ∀ w ∈ needs 68 e, w ∈ lw_tbl ∧ okW w = true := pl_in (ps := [[], [], [], [], [], [], [], [], [], [], [], [], [], [], [], [], [], [], [], [], [], [], [], [], [], [], [], [], [], [], [], [], [], [], [], [], [], [], [], []]) (by decide +kernel) (by decide +kernel)
set_option maxRecDepth 100000 in
theorem k68_2_ok : (K68_2).all (eok 68) = true := by decide +kernel
set_option maxRecDepth 100000 in
theorem k68_2_in : ∀ e ∈ K68_2, ∀ w ∈ needs 68 e, w ∈ lw_tbl ∧ okW w = true := pl_in (ps := [[], [], [], [], [], [], [], [], [], [], [], [], [], [], [], [], [], [], [], [], [], [], [], [], [], [], [], [], [], [], [], [], [], []]) (by decide +kernel) (by decide +kernel)
theorem k68_ok : (kOf 68).all (eok 68) = true := by
  show (K68_0 ++ (K68_1 ++ (K68_2))).all (eok 68) = true
  simp only [List.all_append, k68_0_ok, k68_1_ok, k68_2_ok, Bool.and_self]
theorem k68_in : ∀ e ∈ kOf 68, ∀ w ∈ needs 68 e, w ∈ lw_tbl ∧ okW w = true := by
  show ∀ e ∈ K68_0 ++ (K68_1 ++ (K68_2)), ∀ w ∈ needs 68 e, w ∈ lw_tbl ∧ okW w = true
  exact List.forall_mem_append.mpr ⟨k68_0_in, List.forall_mem_append.mpr ⟨k68_1_in, k68_2_in⟩⟩
set_option maxRecDepth 100000 in
theorem k69_ok : (kOf 69).all (eok 69) = true := by decide +kernel
set_option maxRecDepth 100000 in
theorem k69_in : ∀ e ∈ kOf 69, ∀ w ∈ needs 69 e, w ∈ lw_tbl ∧ okW w = true := pl_in (ps := [[], [], [], [], [], [], [], [], [], [], [], [], [], [], [], [], [], [], [], [], [], [], [], [], [], [], [], [], [], [], [], [], [], [], [], [], [], [], [], [], []]) (by decide +kernel) (by decide +kernel)
set_option maxRecDepth 100000 in
theorem k70_ok : (kOf 70).all (eok 70) = true := by decide +kernel
set_option maxRecDepth 100000 in
theorem k70_in : ∀ e ∈ kOf 70, ∀ w ∈ needs 70 e, w ∈ lw_tbl ∧ okW w = true := pl_in (ps := [[], [], [], [], [], [], [], [], [], [], [], [], [], [], [], [], [], [], [], [], [], [], [], [], [], [], [], [], [], []]) (by decide +kernel) (by decide +kernel)
set_option maxRecDepth 100000 in
theorem k71_ok : (kOf 71).all (eok 71) = true := by decide +kernel
set_option maxRecDepth 100000 in
theorem k71_in : ∀ e ∈ kOf 71, ∀ w ∈ needs 71 e, w ∈ lw_tbl ∧ okW w = true := pl_in (ps := [[], [], [], [], [], [], [], [], [], [], [], [], [], [], [], [], [], [], [], [], [], [], [], [], [], [], [], [], [], [], [], [], [], [], [], [], [], [], [], [], [], [], [], [], [], [], [], [], [], [], [], [], [], [], [], [], [], [], [], [], [], [], [], [], [], []]) (by decide +kernel) (by decide +kernel)
set_option maxRecDepth 100000 in
theorem k72_ok : (kOf 72).all (eok 72) = true := by decide +kernel
set_option maxRecDepth 100000 in
theorem k72_in : ∀ e ∈ kOf 72, ∀ w ∈ needs 72 e, w ∈ lw_tbl ∧ okW w = true := pl_in (ps := [[], [], [], [], [], [], [], [], [], [], [], [], [], [], [], [], [], [], [], [], [], [], [], [], [], [], [], [], [], [], [], [], [], [], [], [], [], [], [], [], [], [], [], [], [], [], [], [], [], [], [], [], [], [], [], [], [], [], [], [], [], [], [], [], [], [], [], [], [], []]) (by decide +kernel) (by decide +kernel)
set_option maxRecDepth 100000 in
theorem k73_0_ok : (K73_0).all (eok 73) = true := by decide +kernel
set_option maxRecDepth 100000 in
theorem k73_0_in : ∀ e ∈ K73_0, ∀ w ∈ needs 73 e, w ∈ lw_tbl ∧ okW w = true := pl_in (ps := [[], [], [], [], [], [], [], [], [], [], [438, 440, 5, 439], [], [], [], [], [], [], [], [], [], [], [], [], [], [], [], [], [], [], [], [], [], [], [], [], [], [], [], [], []]) (by decide +kernel) (by decide +kernel)
set_option maxRecDepth 100000 in
theorem k73_1_ok : (K73_1).all (eok 73) = true := by decide +kernel
set_option maxRecDepth 100000 in
theorem k73_1_in : ∀ e ∈ K73_1, ∀ w ∈ needs 73 e, w ∈ lw_tbl ∧ okW w = true := pl_in (ps := [[], [], [], [], [], [], [], [], [], [], [], [], [], [], [], [], [], [], [], [], [], [], [], [], [], [], [], [], [], [], [], [], [], [], [401, 403, 5, 402], [], [], [], [], []]) (by decide +kernel) (by decide +kernel)
set_option maxRecDepth 100000 in
theorem k73_2_ok : (K73_2).all (eok 73) = true := by decide +kernel
set_option maxRecDepth 100000 in
theorem k73_2_in : ∀ e ∈ K73_2, ∀ w ∈ needs 73 e, w ∈ lw_tbl ∧ okW w = true := pl_in (ps := [[], [], [], [], [], [], [], [], [], [], [], [], [], [], [], [], [], [], [], [441, 443, 5, 442], [], [], [438, 440, 5, 439], [], [], [], [], [], [], [], []]) (by decide +kernel) (by decide +kernel)
theorem k73_ok : (kOf 73).all (eok 73) = true := by
  show (K73_0 ++ (K73_1 ++ (K73_2))).all (eok 73) = true
  simp only [List.all_append, k73_0_ok, k73_1_ok, k73_2_ok, Bool.and_self]
theorem k73_in : ∀ e ∈ kOf 73, ∀ w ∈ needs 73 e, w ∈ lw_tbl ∧ okW w = true := by
  show ∀ e ∈ K73_0 ++ (K73_1 ++ (K73_2)), ∀ w ∈ needs 73 e, w ∈ lw_tbl ∧ okW w = true
  exact List.forall_mem_append.mpr ⟨k73_0_in, List.forall_mem_append.mpr ⟨k73_1_in, k73_2_in⟩⟩
set_option maxRecDepth 100000 in
theorem k74_0_ok : (K74_0).all (eok 74) = true := by decide +kernel
set_option maxRecDepth 100000 in
theorem k74_0_in : ∀ e ∈ K74_0, ∀ w ∈ needs 74 e, w ∈ lw_tbl ∧ okW w = true := pl_in (ps := [[], [], [], [], [], [], [], [], [], [], [], [], [], [], [], [], [], [], [], [], [], [], [], [], [], [], [], [], [], [], [], [], [], [], [], [], [], [], [], []]) (by decide +kernel) (by decide +kernel)
set_option maxRecDepth 100000 in
theorem k74_1_ok : (K74_1).all (eok 74) = true := by decide +kernel
set_option maxRecDepth 100000 in
theorem k74_1_in : ∀ e ∈ K74_1, ∀ w ∈ needs 74 e, w ∈ lw_tbl ∧ okW w = true := pl_in (ps := [[], [], [], [], [], [], [], [], [281, 283, 5, 282], [], [], [], [], [], [], [], [284, 287, 6, 285, 286], [], [], [], [], [313, 316, 6, 314, 315], [321], [], [], [], [], [], [], [], [], [], [], [], [], [], [], [], [], []]) (by decide +kernel) (by decide +kernel)
set_option maxRecDepth 100000 in
theorem k74_2_ok : (K74_2).all (eok 74) = true := by decide +kernel
set_option maxRecDepth 100000 in
theorem k74_2_in : ∀ e ∈ K74_2, ∀ w ∈ needs 74 e, w ∈ lw_tbl ∧ okW w = true := pl_in (ps := [[], [], [], [], [], [], [], [], [], [], [], [], [], [], [], [], [], [], [], [], [], [], [], [], [], [], [], [], [284, 287, 6, 285, 286], [], [], [], [], [313, 316, 6, 314, 315], [], [], [], [], [281, 283, 5, 282], []]) (by decide +kernel) (by decide +kernel)
set_option maxRecDepth 100000 in
theorem k74_3_ok : (K74_3).all (eok 74) = true := by decide +kernel
set_option maxRecDepth 100000 in
theorem k74_3_in : ∀ e ∈ K74_3, ∀ w ∈ needs 74 e, w ∈ lw_tbl ∧ okW w = true := pl_in (ps := [[], [], [], [], [], [], [], [], [], [], [], [], [], [322, 325, 6, 323, 324], [276], [], [], [], [], [], [], [], [], [], [], [], [], [], [], [], [], [], [], [], [], [], [], [], [322, 325, 6, 323, 324], [321]]) (by decide +kernel) (by decide +kernel)
set_option maxRecDepth 100000 in
theorem k74_4_ok : (K74_4).all (eok 74) = true := by decide +kernel
set_option maxRecDepth 100000 in
theorem k74_4_in : ∀ e ∈ K74_4, ∀ w ∈ needs 74 e, w ∈ lw_tbl ∧ okW w = true := pl_in (ps := [[], [], [], [], [], [], [], [], [], [], [], [], [], [], [], [], [], [], [], [], [], [], [], [], [], [], [], [], [], [], [], [], [], [], [], [], [], [], [], []]) (by decide +kernel) (by decide +kernel)
set_option maxRecDepth 100000 in
theorem k74_5_ok : (K74_5).all (eok 74) = true := by decide +kernel
set_option maxRecDepth 100000 in
theorem k74_5_in : ∀ e ∈ K74_5, ∀ w ∈ needs 74 e, w ∈ lw_tbl ∧ okW w = true := pl_in (ps := [[], [], [], [], [], [], [], [], [], [], [], [], [], [], [], [], [], [], [], [], [], [], [], [], [], [], [], [], [], [], [], [], [], [], [], [], [], [], [], []]) (by decide +kernel) (by decide +kernel)
set_option maxRecDepth 100000 in
theorem k74_6_ok : (K74_6).all (eok 74) = true := by decide +kernel
set_option maxRecDepth 100000 in
theorem k74_6_in : ∀ e ∈ K74_6, ∀ w ∈ needs 74 e, w ∈ lw_tbl ∧ okW w = true := pl_in (ps := [[], [], [], [], [], [], [], [], [], [], [], [], [], [], [], [], [], [322, 325, 6, 323, 324], [], [], [], [], [], [], [], [], [], [], [], [], [], [], [], [], [], [], [], [340, 343, 6, 341, 342], [276], []]) (by decide +kernel) (by decide +kernel)
set_option maxRecDepth 100000 in
theorem k74_7_ok : (K74_7).all (eok 74) = true := by decide +kernel
set_option maxRecDepth 100000 in
theorem k74_7_in : ∀ e ∈ K74_7, ∀ w ∈ needs 74 e, w ∈ lw_tbl ∧ okW w = true := pl_in (ps := [[], [], [], [], [], [], [], [], [], [], [], [], [], [], [], [], [], [], [], [], [], [], [], [], [], [], [], [], [], [340, 343, 6, 341, 342], [321], [], [], [], [], [], [], [], [], []]) (by decide +kernel) (by decide +kernel)
set_option maxRecDepth 100000 in
theorem k74_8_ok : (K74_8).all (eok 74) = true := by decide +kernel
set_option maxRecDepth 100000 in
theorem k74_8_in : ∀ e ∈ K74_8, ∀ w ∈ needs 74 e, w ∈ lw_tbl ∧ okW w = true := pl_in (ps := [[], [], [], [], [], [], [], [340, 343, 6, 341, 342], [], [], [], [], [], []]) (by decide +kernel) (by decide +kernel)
theorem k74_ok : (kOf 74).all (eok 74) = true := by
  show (K74_0 ++ (K74_1 ++ (K74_2 ++ (K74_3 ++ (K74_4 ++ (K74_5 ++ (K74_6 ++ (K74_7 ++ (K74_8))))))))).all (eok 74) = true
  simp only [List.all_append, k74_0_ok, k74_1_ok, k74_2_ok, k74_3_ok, k74_4_ok, k74_5_ok, k74_6_ok, k74_7_ok, k74_8_ok, Bool.and_self]
theorem k74_in : ∀ e ∈ kOf 74, ∀ w ∈ needs 74 e, w ∈ lw_tbl ∧ okW w = true := by
  show ∀ e ∈ K74_0 ++ (K74_1 ++ (K74_2 ++ (K74_3 ++ (K74_4 ++ (K74_5 ++ (K74_6 ++ (K74_7 ++ (K74_8)))))))), ∀ w ∈ needs 74 e, w ∈ lw_tbl ∧ okW w = true
  exact List.forall_mem_append.mpr ⟨k74_0_in, List.forall_mem_append.mpr ⟨k74_1_in, List.forall_mem_append.mpr ⟨k74_2_in, List.forall_mem_append.mpr ⟨k74_3_in, List.forall_mem_append.mpr ⟨k74_4_in, List.forall_mem_append.mpr ⟨k74_5_in, List.forall_mem_append.mpr ⟨k74_6_in, List.forall_mem_append.mpr ⟨k74_7_in, k74_8_in⟩⟩⟩⟩⟩⟩⟩⟩
set_option maxRecDepth 100000 in
theorem k75_0_ok : (K75_0).all (eok 75) = true := by decide +kernel
set_option maxRecDepth 100000 in
theorem k75_0_in : ∀ e ∈ K75_0, ∀ w ∈ needs 75 e, w ∈ lw_tbl ∧ okW w = true := pl_in (ps := [[], [], [], [], [], [], [], [], [], [], [], [], [], [], [], [], [], [], [], [], [], [], [], [], [355, 358, 6, 356, 357], [276], [], [], [], [], [], [], [], [371, 374, 6, 372, 373], [276], [], [], [], [379, 382, 6, 380, 381], [276]]) (by decide +kernel) (by decide +kernel)
set_option maxRecDepth 100000 in
theorem k75_1_ok : (K75_1).all (eok 75) = true := by decide +kernel
set_option maxRecDepth 100000 in
theorem k75_1_in : ∀ e ∈ K75_1, ∀ w ∈ needs 75 e, w ∈ lw_tbl ∧ okW w = true := pl_in (ps := [[], [], [], [], [], [], [], [], [], [], [], [], [], [], [], [], [], [], [], [], [], [], [], [371, 374, 6, 372, 373], [277], [], [], [], [], [], [], [], [], [], [], [], [], [], [], []]) (by decide +kernel) (by decide +kernel)
set_option maxRecDepth 100000 in
theorem k75_2_ok : (K75_2).all (eok 75) = true := by decide +kernel
set_option maxRecDepth 100000 in
theorem k75_2_in : ∀ e ∈ K75_2, ∀ w ∈ needs 75 e, w ∈ lw_tbl ∧ okW w = true := pl_in (ps := [[], [], [], [], [], [], [], [], [], [], [], [], [], [], [], [], [], [], [], [], [], [], [], [], [], [], [], [], [], [], [], [], [], [], [], [], [], [], [], []]) (by decide +kernel) (by decide +kernel)
set_option maxRecDepth 100000 in
theorem k75_3_ok : (K75_3).all (eok 75) = true := by decide +kernel
set_option maxRecDepth 100000 in
theorem k75_3_in : ∀ e ∈ K75_3, ∀ w ∈ needs 75 e, w ∈ lw_tbl ∧ okW w = true := pl_in (ps := [[], [], [], [], [], [], [], [], [], [], [], [], [], [], [], [], [], [], [], [], [371, 374, 6, 372, 373], [], [], [], [], [], [], [], [], [], [], [], [], [], [392, 394, 5, 393], [], [], [395, 397, 5, 396], [398, 400, 5, 399], []]) (by decide +kernel) (by decide +kernel)
set_option maxRecDepth 100000 in
theorem k75_4_ok : (K75_4).all (eok 75) = true := by decide +kernel
set_option maxRecDepth 100000 in
theorem k75_4_in : ∀ e ∈ K75_4, ∀ w ∈ needs 75 e, w ∈ lw_tbl ∧ okW w = true := pl_in (ps := [[], [], [], [379, 382, 6, 380, 381], [321], [], [], [], [], [], [], [], [], [], [], [], [379, 382, 6, 380, 381], [], [395, 397, 5, 396], [398, 400, 5, 399], [], [], [], [], [], [], [], [], [], [], [], [355, 358, 6, 356, 357], [276], [], [], [], [], [], [], []]) (by decide +kernel) (by decide +kernel)
set_option maxRecDepth 100000 in
theorem k75_5_ok : (K75_5).all (eok 75) = true := by decide +kernel
set_option maxRecDepth 100000 in
theorem k75_5_in : ∀ e ∈ K75_5, ∀ w ∈ needs 75 e, w ∈ lw_tbl ∧ okW w = true := pl_in (ps := [[], [], [], [], [], [], [], [], [], [], [], [], [], [], [], [], [], [], [], [], [], [], [401, 403, 5, 402], [], [], [], [], [], [], [], [], [], [], [], [355, 358, 6, 356, 357], [], [], [], [], []]) (by decide +kernel) (by decide +kernel)
set_option maxRecDepth 100000 in
theorem k75_6_ok : (K75_6).all (eok 75) = true := by decide +kernel
set_option maxRecDepth 100000 in
theorem k75_6_in : ∀ e ∈ K75_6, ∀ w ∈ needs 75 e, w ∈ lw_tbl ∧ okW w = true := pl_in (ps := [[]]) (by decide +kernel) (by decide +kernel)
theorem k75_ok : (kOf 75).all (eok 75) = true := by
  show (K75_0 ++ (K75_1 ++ (K75_2 ++ (K75_3 ++ (K75_4 ++ (K75_5 ++ (K75_6))))))).all (eok 75) = true
  simp only [List.all_append, k75_0_ok, k75_1_ok, k75_2_ok, k75_3_ok, k75_4_ok, k75_5_ok, k75_6_ok, Bool.and_self]
theorem k75_in : ∀ e ∈ kOf 75, ∀ w ∈ needs 75 e, w ∈ lw_tbl ∧ okW w = true := by
  show ∀ e ∈ K75_0 ++ (K75_1 ++ (K75_2 ++ (K75_3 ++ (K75_4 ++ (K75_5 ++ (K75_6)))))), ∀ w ∈ needs 75 e, w ∈ lw_tbl ∧ okW w = true
  exact List.forall_mem_append.mpr ⟨k75_0_in, List.forall_mem_append.mpr ⟨k75_1_in, List.forall_mem_append.mpr ⟨k75_2_in, List.forall_mem_append.mpr ⟨k75_3_in, List.forall_mem_append.mpr ⟨k75_4_in, List.forall_mem_append.mpr ⟨k75_5_in, k75_6_in⟩⟩⟩⟩⟩⟩
set_option maxRecDepth 100000 in
theorem k76_0_ok : (K76_0).all (eok 76) = true := by decide +kernel
set_option maxRecDepth 100000 in
theorem k76_0_in : ∀ e ∈ K76_0, ∀ w ∈ needs 76 e, w ∈ lw_tbl ∧ okW w = true := pl_in (ps := [[], [], [], [], [], [], [], [], [], [], [], [], [], [], [], [], [], [], [], [], [], [], [], [], [], [], [], [], [], [], [], [], [], [], [], [], [], [], [], []]) (by decide +kernel) (by decide +kernel)
set_option maxRecDepth 100000 in
theorem k76_1_ok : (K76_1).all (eok 76) = true := by decide +kernel
set_option maxRecDepth 100000 in
theorem k76_1_in : ∀ e ∈ K76_1, ∀ w ∈ needs 76 e, w ∈ lw_tbl ∧ okW w = true := pl_in (ps := [[], [], [], [], [407, 410, 6, 408, 409], [], [], [], [], [], [], [], [], [], [], [], [], [], [], [], [], [277], [], [276], [], [], [], [], [], [], [], [], [], [], [], [], [], [], [], []]) (by decide +kernel) (by decide +kernel)
set_option maxRecDepth 100000 in
theorem k76_2_ok : (K76_2).all (eok 76) = true := by decide +kernel
set_option maxRecDepth 100000 in
theorem k76_2_in : ∀ e ∈ K76_2, ∀ w ∈ needs 76 e, w ∈ lw_tbl ∧ okW w = true := pl_in (ps := [[], [], [], [], [], [], [], [], [], [], [], [], [], [], [], [], [], [], [], [], [], [], [], [], [], [], [], [], [], [], [], [], [], [], [], [], [], [], [], []]) (by decide +kernel) (by decide +kernel)
set_option maxRecDepth 100000 in
theorem k76_3_ok : (K76_3).all (eok 76) = true := by decide +kernel
set_option maxRecDepth 100000 in
theorem k76_3_in : ∀ e ∈ K76_3, ∀ w ∈ needs 76 e, w ∈ lw_tbl ∧ okW w = true := pl_in (ps := [[], [], [], [], [], [], [], [], [], [], [], [], [], [], [], [], [], [], [], [], [], [], [], [], [], [], [], [], [], [], [], [], [], [], [], [], [], [], [], []]) (by decide +kernel) (by decide +kernel)
set_option maxRecDepth 100000 in
theorem k76_4_ok : (K76_4).all (eok 76) = true := by decide +kernel
set_option maxRecDepth 100000 in
theorem k76_4_in : ∀ e ∈ K76_4, ∀ w ∈ needs 76 e, w ∈ lw_tbl ∧ okW w = true := pl_in (ps := [[], [], [], [], [], [], [], [], [], [], [], [], [], [], [], [], [], [], [], [], [], [], [], [], [], [], [], [], [], [], [], [], [407, 410, 6, 408, 409], [], [], [], [], [], [], []]) (by decide +kernel) (by decide +kernel)
set_option maxRecDepth 100000 in
theorem k76_5_ok : (K76_5).all (eok 76) = true := by decide +kernel
set_option maxRecDepth 100000 in
theorem k76_5_in : ∀ e ∈ K76_5, ∀ w ∈ needs 76 e, w ∈ lw_tbl ∧ okW w = true := pl_in (ps := [[], [], []]) (by decide +kernel) (by decide +kernel)
theorem k76_ok : (kOf 76).all (eok 76) = true := by
  show (K76_0 ++ (K76_1 ++ (K76_2 ++ (K76_3 ++ (K76_4 ++ (K76_5)))))).all (eok 76) = true
  simp only [List.all_append, k76_0_ok, k76_1_ok, k76_2_ok, k76_3_ok, k76_4_ok, k76_5_ok, Bool.and_self]
theorem k76_in : ∀ e ∈ kOf 76, ∀ w ∈ needs 76 e, w ∈ lw_tbl ∧ okW w = true := by
  show ∀ e ∈ K76_0 ++ (K76_1 ++ (K76_2 ++ (K76_3 ++ (K76_4 ++ (K76_5))))), ∀ w ∈ needs 76 e, w ∈ lw_tbl ∧ okW w = true
  exact List.forall_mem_append.mpr ⟨k76_0_in, List.forall_mem_append.mpr ⟨k76_1_in, List.forall_mem_append.mpr ⟨k76_2_in, List.forall_mem_append.mpr ⟨k76_3_in, List.forall_mem_append.mpr ⟨k76_4_in, k76_5_in⟩⟩⟩⟩⟩
set_option maxRecDepth 100000 in
theorem k77_0_ok : (K77_0).all (eok 77) = true := by decide +kernel
set_option maxRecDepth 100000 in
theorem k77_0_in : ∀ e ∈ K77_0, ∀ w ∈ needs 77 e, w ∈ lw_tbl ∧ okW w = true := pl_in (ps := [[], [], [], [224], [217, 219, 5, 218], [], [], [], [217, 219, 5, 218], [], [], [], [], [], [], [], [], [], [], [], [], [], [], [], [], [], [], [], [], [], [], [], [], [], [], [225, 228, 6, 226, 227], [], [], [], []]) (by decide +kernel) (by decide +kernel)
set_option maxRecDepth 100000 in
theorem k77_1_ok : (K77_1).all (eok 77) = true := by decide +kernel
set_option maxRecDepth 100000 in
theorem k77_1_in : ∀ e ∈ K77_1, ∀ w ∈ needs 77 e, w ∈ lw_tbl ∧ okW w = true := pl_in (ps := [[276], [], [277], [], [], [], [], [], [], [], [], [], [], [], [], [], [], [], [], [], [], [], [], [], [], [], [], [], [], [], [], [], [], [], [], [], [], [], [], [225, 228, 6, 226, 227]]) (by decide +kernel) (by decide +kernel)
set_option maxRecDepth 100000 in
theorem k77_2_ok : (K77_2).all (eok 77) = true := by decide +kernel
set_option maxRecDepth 100000 in
theorem k77_2_in : ∀ e ∈ K77_2, ∀ w ∈ needs 77 e, w ∈ lw_tbl ∧ okW w = true := pl_in (ps := [[], [], [], [], [], [], [], [], [], [], [], [], [], [], [], [], [], [], [], [], [], [], [], [], [], [], [], [], [], [], [], [], [], [], [], [], [], [], [], [278, 280, 5, 279]]) (by decide +kernel) (by decide +kernel)
set_option maxRecDepth 100000 in
theorem k77_3_ok : (K77_3).all (eok 77) = true := by decide +kernel
set_option maxRecDepth 100000 in
theorem k77_3_in : ∀ e ∈ K77_3, ∀ w ∈ needs 77 e, w ∈ lw_tbl ∧ okW w = true := pl_in (ps := [[], [], [], [], [], [], [], [], [], [], [], [], [], [], [], [], [], [], [], [], [], [], [], [], [], [352, 354, 5, 353], [], [], [], [], [], [], [], [], [], [], [], [], [], []]) (by decide +kernel) (by decide +kernel)
set_option maxRecDepth 100000 in
theorem k77_4_ok : (K77_4).all (eok 77) = true := by decide +kernel
set_option maxRecDepth 100000 in
theorem k77_4_in : ∀ e ∈ K77_4, ∀ w ∈ needs 77 e, w ∈ lw_tbl ∧ okW w = true := pl_in (ps := [[], [], [404, 406, 5, 405], [], [], [], [], [], [], [], [], [], [], [], [], [], [], [], [], [], [], [], [], [], [], [419, 422, 6, 420, 421], [277], [], [], [], [], [], [], [], [419, 422, 6, 420, 421], [], [], [], [], []]) (by decide +kernel) (by decide +kernel)
set_option maxRecDepth 100000 in
theorem k77_5_ok : (K77_5).all (eok 77) = true := by decide +kernel
set_option maxRecDepth 100000 in
theorem k77_5_in : ∀ e ∈ K77_5, ∀ w ∈ needs 77 e, w ∈ lw_tbl ∧ okW w = true := pl_in (ps := [[], [], [], [], [], [], [435, 437, 5, 436], [], [], [], [], []]) (by decide +kernel) (by decide +kernel)
theorem k77_ok : (kOf 77).all (eok 77) = true := by
  show (K77_0 ++ (K77_1 ++ (K77_2 ++ (K77_3 ++ (K77_4 ++ (K77_5)))))).all (eok 77) = true
  simp only [List.all_append, k77_0_ok, k77_1_ok, k77_2_ok, k77_3_ok, k77_4_ok, k77_5_ok, Bool.and_self]
theorem k77_in : ∀ e ∈ kOf 77, ∀ w ∈ needs 77 e, w ∈ lw_tbl ∧ okW w = true := by
  show ∀ e ∈ K77_0 ++ (K77_1 ++ (K77_2 ++ (K77_3 ++ (K77_4 ++ (K77_5))))), ∀ w ∈ needs 77 e, w ∈ lw_tbl ∧ okW w = true
  exact List.forall_mem_append.mpr ⟨k77_0_in, List.forall_mem_append.mpr ⟨k77_1_in, List.forall_mem_append.mpr ⟨k77_2_in, List.forall_mem_append.mpr ⟨k77_3_in, List.forall_mem_append.mpr ⟨k77_4_in, k77_5_in⟩⟩⟩⟩⟩
