set_option maxRecDepth 100000 in
theorem k78_0_ok : (K78_0).all (eok 78) = true := by decide +kernel
set_option maxRecDepth 100000 in
theorem k78_0_in : ∀ e ∈ K78_0, ∀ w ∈ needs 78 e, w ∈ lw_tbl ∧ okW w = true := pl_in (ps := [[], [], [], [450, 453, 6, 451, 452], [276], [], [], [], [], [450, 453, 6, 451, 452], [276], [], [], [], [], [], [], [], [], [], [], [], [], [], [], [], [], [], [], [], [450, 453, 6, 451, 452], [276], [], [], [], [], [], [476, 479, 6, 477, 478], [276], []]) (by decide +kernel) (by decide +kernel)
set_option maxRecDepth 100000 in
theorem k78_1_ok : (K78_1).all (eok 78) = true := by decide +kernel
set_option maxRecDepth 100000 in
theorem k78_1_in : ∀ e ∈ K78_1, ∀ w ∈ needs 78 e, w ∈ lw_tbl ∧ okW w = true := pl_in (ps := [[], [], [], [], [], [], [], [], [], [], [], [], [], [], [], [], [], [], [], [], [], [], [], [], [], [], [], [], [], [], [], [], [], [], [], [], [], [], [], []]) (by decide +kernel) (by decide +kernel)
set_option maxRecDepth 100000 in
theorem k78_2_ok : (K78_2).all (eok 78) = true := by decide +kernel
set_option maxRecDepth 100000 in
theorem k78_2_in : ∀ e ∈ K78_2, ∀ w ∈ needs 78 e, w ∈ lw_tbl ∧ okW w = true := pl_in (ps := [[], [], [], [], [], [], [], [], [], [], [], [], [], [], [], [], [], [], [], [], [], [], [], [], [], [], [], [], [], [], [], [], [], [], [], [], [], [], [], []]) (by decide +kernel) (by decide +kernel)
set_option maxRecDepth 100000 in
theorem k78_3_ok : (K78_3).all (eok 78) = true := by decide +kernel
set_option maxRecDepth 100000 in
theorem k78_3_in : ∀ e ∈ K78_3, ∀ w ∈ needs 78 e, w ∈ lw_tbl ∧ okW w = true := pl_in (ps := [[], [], [], [], [476, 479, 6, 477, 478], [], [], [482], [], [], [], [], [], [], [], [], [], [], [], [], [], [], [], [], [], [], [], [], [], [], [], [], [], [], [], [], [], [], [], []]) (by decide +kernel) (by decide +kernel)
set_option maxRecDepth 100000 in
theorem k78_4_ok : (K78_4).all (eok 78) = true := by decide +kernel
set_option maxRecDepth 100000 in
theorem k78_4_in : ∀ e ∈ K78_4, ∀ w ∈ needs 78 e, w ∈ lw_tbl ∧ okW w = true := pl_in (ps := [[], [], [], [], [], [], [], [], [], [], [], [], [], [], [], [], [], [], [], [], [], [], [], [], [], [], [], [], [], [], [], [], [], [], [], [], [483, 485, 5, 484], [], [], []]) (by decide +kernel) (by decide +kernel)
set_option maxRecDepth 100000 in
theorem k78_5_ok : (K78_5).all (eok 78) = true := by decide +kernel
set_option maxRecDepth 100000 in
theorem k78_5_in : ∀ e ∈ K78_5, ∀ w ∈ needs 78 e, w ∈ lw_tbl ∧ okW w = true := pl_in (ps := [[], [], [], [], [], [], [], [], [], [], [], [], [450, 453, 6, 451, 452], [], [], [], [], [], [], [], [450, 453, 6, 451, 452], [], [], [], [], [], [450, 453, 6, 451, 452], [], [], [], [], [], [450, 453, 6, 451, 452], [], [398, 400, 5, 399], [], [], [], [], [450, 453, 6, 451, 452]]) (by decide +kernel) (by decide +kernel)
set_option maxRecDepth 100000 in
theorem k78_6_ok : (K78_6).all (eok 78) = true := by decide +kernel
set_option maxRecDepth 100000 in
theorem k78_6_in : ∀ e ∈ K78_6, ∀ w ∈ needs 78 e, w ∈ lw_tbl ∧ okW w = true := pl_in (ps := [[], [], [], [398, 400, 5, 399], [], [], [], [], [450, 453, 6, 451, 452], [], [], [], [], [392, 394, 5, 393], [], [], [], [], [450, 453, 6, 451, 452], [], [], [], [], [], [450, 453, 6, 451, 452], [], [], [], [], [], [450, 453, 6, 451, 452], [276], [], [], [], [], [], [], [], []]) (by decide +kernel) (by decide +kernel)
set_option maxRecDepth 100000 in
theorem k78_7_ok : (K78_7).all (eok 78) = true := by decide +kernel
set_option maxRecDepth 100000 in
theorem k78_7_in : ∀ e ∈ K78_7, ∀ w ∈ needs 78 e, w ∈ lw_tbl ∧ okW w = true := pl_in (ps := [[]]) (by decide +kernel) (by decide +kernel)
theorem k78_ok : (kOf 78).all (eok 78) = true := by
  show (K78_0 ++ (K78_1 ++ (K78_2 ++ (K78_3 ++ (K78_4 ++ (K78_5 ++ (K78_6 ++ (K78_7)))))))).all (eok 78) = true
  simp only [List.all_append, k78_0_ok, k78_1_ok, k78_2_ok, k78_3_ok, k78_4_ok, k78_5_ok, k78_6_ok, k78_7_ok, Bool.and_self]
theorem k78_in : ∀ e ∈ kOf 78, ∀ w ∈ needs 78 e, w ∈ lw_tbl ∧ okW w = true := by
  show ∀ e ∈ K78_0 ++ (K78_1 ++ (K78_2 ++ (K78_3 ++ (K78_4 ++ (K78_5 ++ (K78_6 ++ (K78_7))))))), ∀ w ∈ needs 78 e, w ∈ lw_tbl ∧ okW w = true
  exact List.forall_mem_append.mpr ⟨k78_0_in, List.forall_mem_append.mpr ⟨k78_1_in, List.forall_mem_append.mpr ⟨k78_2_in, List.forall_mem_append.mpr ⟨k78_3_in, List.forall_mem_append.mpr ⟨k78_4_in, List.forall_mem_append.mpr ⟨k78_5_in, List.forall_mem_append.mpr ⟨k78_6_in, k78_7_in⟩⟩⟩⟩⟩⟩⟩
set_option maxRecDepth 100000 in
theorem k79_0_ok : (K79_0).all (eok 79) = true := by decide +kernel
set_option maxRecDepth 100000 in
theorem k79_0_in : ∀ e ∈ K79_0, ∀ w ∈ needs 79 e, w ∈ lw_tbl ∧ okW w = true := pl_in (ps := [[], [], [], [], [], [489, 492, 6, 490, 491], [276], [], [], [], [], [489, 492, 6, 490, 491], [276], [], [], [], [], [], [], [], [], [], [], [], [], [], [], [], [], [], [], [], [], [], [], [], [], [], [], []]) (by decide +kernel) (by decide +kernel)
set_option maxRecDepth 100000 in
theorem k79_1_ok : (K79_1).all (eok 79) = true := by decide +kernel
set_option maxRecDepth 100000 in
theorem k79_1_in : ∀ e ∈ K79_1, ∀ w ∈ needs 79 e, w ∈ lw_tbl ∧ okW w = true := pl_in (ps := [[], [], [], [], [], [], [], [], [], [], [], [], [], [], [], [], [], [], [], [], [], [], [], [], [], [], [], [], [], [], [], [], [], [], [], [], [], [], [], []]) (by decide +kernel) (by decide +kernel)
set_option maxRecDepth 100000 in
theorem k79_2_ok : (K79_2).all (eok 79) = true := by decide +kernel
set_option maxRecDepth 100000 in
theorem k79_2_in : ∀ e ∈ K79_2, ∀ w ∈ needs 79 e, w ∈ lw_tbl ∧ okW w = true := pl_in (ps := [[], [], [], [], [], [], [], [], [], [], [], [], [], [], [], [], [], [], [], [489, 492, 6, 490, 491], [], [], [482], [], [], [], [], [], [], [], [], [489, 492, 6, 490, 491], [], [], [482], [], [], [], [], []]) (by decide +kernel) (by decide +kernel)
set_option maxRecDepth 100000 in
theorem k79_3_ok : (K79_3).all (eok 79) = true := by decide +kernel
set_option maxRecDepth 100000 in
theorem k79_3_in : ∀ e ∈ K79_3, ∀ w ∈ needs 79 e, w ∈ lw_tbl ∧ okW w = true := pl_in (ps := [[], [], [], [], [], [], [], [], [], [489, 492, 6, 490, 491], [], [], [], [], [], [], [482], [], [], [], [], [489, 492, 6, 490, 491], [], [], [482], [], [], [], [], [], [], [489, 492, 6, 490, 491], [], [], [], [], [], [489, 492, 6, 490, 491], [276], []]) (by decide +kernel) (by decide +kernel)
set_option maxRecDepth 100000 in
theorem k79_4_ok : (K79_4).all (eok 79) = true := by decide +kernel
set_option maxRecDepth 100000 in
theorem k79_4_in : ∀ e ∈ K79_4, ∀ w ∈ needs 79 e, w ∈ lw_tbl ∧ okW w = true := pl_in (ps := [[], [], [], [], [], [], [], []]) (by decide +kernel) (by decide +kernel)
theorem k79_ok : (kOf 79).all (eok 79) = true := by
  show (K79_0 ++ (K79_1 ++ (K79_2 ++ (K79_3 ++ (K79_4))))).all (eok 79) = true
  simp only [List.all_append, k79_0_ok, k79_1_ok, k79_2_ok, k79_3_ok, k79_4_ok, Bool.and_self]
theorem k79_in : ∀ e ∈ kOf 79, ∀ w ∈ needs 79 e, w ∈ lw_tbl ∧ okW w = true := by
  show ∀ e ∈ K79_0 ++ (K79_1 ++ (K79_2 ++ (K79_3 ++ (K79_4)))), ∀ w ∈ needs 79 e, w ∈ lw_tbl ∧ okW w = true
  exact List.forall_mem_append.mpr ⟨k79_0_in, List.forall_mem_append.mpr ⟨k79_1_in, List.forall_mem_append.mpr ⟨k79_2_in, List.forall_mem_append.mpr ⟨k79_3_in, k79_4_in⟩⟩⟩⟩
set_option maxRecDepth 100000 in
theorem k80_0_ok : (K80_0).all (eok 80) = true := by decide +kernel
set_option maxRecDepth 100000 in
theorem k80_0_in : ∀ e ∈ K80_0, ∀ w ∈ needs 80 e, w ∈ lw_tbl ∧ okW w = true := pl_in (ps := [[], [], [], [507, 510, 6, 508, 509], [276], [], [], [], [], [507, 510, 6, 508, 509], [276], [], [], [], [], [], [], [507, 510, 6, 508, 509], [482], [], [], [], [], [], [], [], [], [], [], [], [], [], [], [], [], [], [], [], [], []]) (by decide +kernel) (by decide +kernel)
set_option maxRecDepth 100000 in
theorem k80_1_ok : (K80_1).all (eok 80) = true := by decide +kernel
set_option maxRecDepth 100000 in
theorem k80_1_in : ∀ e ∈ K80_1, ∀ w ∈ needs 80 e, w ∈ lw_tbl ∧ okW w = true := pl_in (ps := [[], [], [], [], [], [], [], [], [], [], [], [], [], [], [], [], [], [], [], [], [], [], [], [], [], [], [], [], [], [], [], [], [], [], [], [], [], [], [], []]) (by decide +kernel) (by decide +kernel)
set_option maxRecDepth 100000 in
theorem k80_2_ok : (K80_2).all (eok 80) = true := by decide +kernel
set_option maxRecDepth 100000 in
theorem k80_2_in : ∀ e ∈ K80_2, ∀ w ∈ needs 80 e, w ∈ lw_tbl ∧ okW w = true := pl_in (ps := [[], [], [], [], [], [], [], [], [], [], [], [], [], [], [], [], [], [], [507, 510, 6, 508, 509], [], [], [], [], [], [], [], [], [], [507, 510, 6, 508, 509], [], [], [], [], [], [], [], [], [], [], []]) (by decide +kernel) (by decide +kernel)
set_option maxRecDepth 100000 in
theorem k80_3_ok : (K80_3).all (eok 80) = true := by decide +kernel
set_option maxRecDepth 100000 in
theorem k80_3_in : ∀ e ∈ K80_3, ∀ w ∈ needs 80 e, w ∈ lw_tbl ∧ okW w = true := pl_in (ps := [[507, 510, 6, 508, 509], [], [], [], [], [], [], [], [], [], [], [], [], [], [], [], [507, 510, 6, 508, 509], [], [], [], [], [], [], [281, 283, 5, 282], [], [], [], [], [507, 510, 6, 508, 509], [], [], [], [], [], [], [], [], [], [], []]) (by decide +kernel) (by decide +kernel)
set_option maxRecDepth 100000 in
theorem k80_4_ok : (K80_4).all (eok 80) = true := by decide +kernel
set_option maxRecDepth 100000 in
theorem k80_4_in : ∀ e ∈ K80_4, ∀ w ∈ needs 80 e, w ∈ lw_tbl ∧ okW w = true := pl_in (ps := [[], [], [], [], [], [], [], [], [], [], [], [], [], [507, 510, 6, 508, 509], [], [], [], [], [], [], [], [], []]) (by decide +kernel) (by decide +kernel)
theorem k80_ok : (kOf 80).all (eok 80) = true := by
  show (K80_0 ++ (K80_1 ++ (K80_2 ++ (K80_3 ++ (K80_4))))).all (eok 80) = true
  simp only [List.all_append, k80_0_ok, k80_1_ok, k80_2_ok, k80_3_ok, k80_4_ok, Bool.and_self]
theorem k80_in : ∀ e ∈ kOf 80, ∀ w ∈ needs 80 e, w ∈ lw_tbl ∧ okW w = true := by
  show ∀ e ∈ K80_0 ++ (K80_1 ++ (K80_2 ++ (K80_3 ++ (K80_4)))), ∀ w ∈ needs 80 e, w ∈ lw_tbl ∧ okW w = true
  exact List.forall_mem_append.mpr ⟨k80_0_in, List.forall_mem_append.mpr ⟨k80_1_in, List.forall_mem_append.mpr ⟨k80_2_in, List.forall_mem_append.mpr ⟨k80_3_in, k80_4_in⟩⟩⟩⟩
set_option maxRecDepth 100000 in
theorem k81_0_ok : (K81_0).all (eok 81) = true := by decide +kernel
set_option maxRecDepth 100000 in
theorem k81_0_in : ∀ e ∈ K81_0, ∀ w ∈ needs 81 e, w ∈ lw_tbl ∧ okW w = true := pl_in (ps := [[], [], [], [], [], [], [], [], [], [], [], [], [], [], [], [], [], [], [], [], [], [], [], [], [], [], [], [], [], [], [447, 449, 5, 448], [], [], [], [], [], [], [], [], [486, 488, 5, 487]]) (by decide +kernel) (by decide +kernel)
set_option maxRecDepth 100000 in
theorem k81_1_ok : (K81_1).all (eok 81) = true := by decide +kernel
set_option maxRecDepth 100000 in
theorem k81_1_in : ∀ e ∈ K81_1, ∀ w ∈ needs 81 e, w ∈ lw_tbl ∧ okW w = true := pl_in (ps := [[], [], [], [], [], [], [], [], [504, 506, 5, 505], [], [], [], [190, 193, 6, 191, 192], [], [395, 397, 5, 396], [398, 400, 5, 399], [], [], [], [190, 193, 6, 191, 192], [], [], [], [], [], [], [190, 193, 6, 191, 192], [], [], [], [], [190, 193, 6, 191, 192], [], [], [], [], [], [], [190, 193, 6, 191, 192], []]) (by decide +kernel) (by decide +kernel)
set_option maxRecDepth 100000 in
theorem k81_2_ok : (K81_2).all (eok 81) = true := by decide +kernel
set_option maxRecDepth 100000 in
theorem k81_2_in : ∀ e ∈ K81_2, ∀ w ∈ needs 81 e, w ∈ lw_tbl ∧ okW w = true := pl_in (ps := [[], [], [], [], [], [190, 193, 6, 191, 192], [], [], [], [], [], [], [190, 193, 6, 191, 192], [], [], [], [], [], [], [190, 193, 6, 191, 192], [], [], [], [], [], [], [190, 193, 6, 191, 192], [], [], [], [190, 193, 6, 191, 192], [], [395, 397, 5, 396], [], [], [], [], []]) (by decide +kernel) (by decide +kernel)
theorem k81_ok : (kOf 81).all (eok 81) = true := by
  show (K81_0 ++ (K81_1 ++ (K81_2))).all (eok 81) = true
  simp only [List.all_append, k81_0_ok, k81_1_ok, k81_2_ok, Bool.and_self]
theorem k81_in : ∀ e ∈ kOf 81, ∀ w ∈ needs 81 e, w ∈ lw_tbl ∧ okW w = true := by
  show ∀ e ∈ K81_0 ++ (K81_1 ++ (K81_2)), ∀ w ∈ needs 81 e, w ∈ lw_tbl ∧ okW w = true
  exact List.forall_mem_append.mpr ⟨k81_0_in, List.forall_mem_append.mpr ⟨k81_1_in, k81_2_in⟩⟩
set_option maxRecDepth 100000 in
theorem k82_0_ok : (K82_0).all (eok 82) = true := by decide +kernel
set_option maxRecDepth 100000 in
theorem k82_0_in : ∀ e ∈ K82_0, ∀ w ∈ needs 82 e, w ∈ lw_tbl ∧ okW w = true := pl_in (ps := [[13, 14, 6], [], [15, 17, 6, 16], [], [], [54], [], [], [54], [], [], [54], [], [], [54], [], [], [54], [], [], [54], [], [], [54], [], [], [54], [], [], [54], [], [], [54], [], [], [54], [], [], [54], []]) (by decide +kernel) (by decide +kernel)
set_option maxRecDepth 100000 in
theorem k82_1_ok : (K82_1).all (eok 82) = true := by decide +kernel
set_option maxRecDepth 100000 in
theorem k82_1_in : ∀ e ∈ K82_1, ∀ w ∈ needs 82 e, w ∈ lw_tbl ∧ okW w = true := pl_in (ps := [[], [], [], [], [], [], [], [], [], [], [], [], [], [], [190, 193, 6, 191, 192], [], [], [], [], [], [], [], [], [], [], [], [], [], [], [], [], [], [], [], [], [], [], [], [], []]) (by decide +kernel) (by decide +kernel)
set_option maxRecDepth 100000 in
theorem k82_2_ok : (K82_2).all (eok 82) = true := by decide +kernel
set_option maxRecDepth 100000 in
theorem k82_2_in : ∀ e ∈ K82_2, ∀ w ∈ needs 82 e, w ∈ lw_tbl ∧ okW w = true := pl_in (ps := [[], [], [], [], [], [213, 215, 5, 214], [220], [], [], [], [], [], [], [], [], [], [], [], [], [], [], [], [], [], [], [], [], [], [221, 223, 5, 222], [], [], [], [], [], [], [], [], [], [], []]) (by decide +kernel) (by decide +kernel)
set_option maxRecDepth 100000 in
theorem k82_3_ok : (K82_3).all (eok 82) = true := by decide +kernel
set_option maxRecDepth 100000 in
theorem k82_3_in : ∀ e ∈ K82_3, ∀ w ∈ needs 82 e, w ∈ lw_tbl ∧ okW w = true := pl_in (ps := [[], [], [], [], [], [], [], [444, 446, 5, 445], [], [], [], [], [], [], [], [], [213, 215, 5, 214], [], [217, 219, 5, 218], [], [], [], [], [], [], [], [], [], [], [], [], [], [], [], [], [], [], [], [], []]) (by decide +kernel) (by decide +kernel)
set_option maxRecDepth 100000 in
theorem k82_4_ok : (K82_4).all (eok 82) = true := by decide +kernel
set_option maxRecDepth 100000 in
theorem k82_4_in : ∀ e ∈ K82_4, ∀ w ∈ needs 82 e, w ∈ lw_tbl ∧ okW w = true := pl_in (ps := [[], [], [], [], [], [213, 215, 5, 214], [], [], [], [], [221, 223, 5, 222], [], [], [], [], [], [], [], [], [], [], [], [], [], [], [444, 446, 5, 445], [], [], [], [], [], [], [], [], [], [], [], [190, 193, 6, 191, 192], [276], []]) (by decide +kernel) (by decide +kernel)
set_option maxRecDepth 100000 in
theorem k82_5_ok : (K82_5).all (eok 82) = true := by decide +kernel
set_option maxRecDepth 100000 in
theorem k82_5_in : ∀ e ∈ K82_5, ∀ w ∈ needs 82 e, w ∈ lw_tbl ∧ okW w = true := pl_in (ps := [[], [], [], []]) (by decide +kernel) (by decide +kernel)
theorem k82_ok : (kOf 82).all (eok 82) = true := by
  show (K82_0 ++ (K82_1 ++ (K82_2 ++ (K82_3 ++ (K82_4 ++ (K82_5)))))).all (eok 82) = true
  simp only [List.all_append, k82_0_ok, k82_1_ok, k82_2_ok, k82_3_ok, k82_4_ok, k82_5_ok, Bool.and_self]
theorem k82_in : ∀ e ∈ kOf 82, ∀ w ∈ needs 82 e, w ∈ lw_tbl ∧ okW w = true := by
  show ∀ e ∈ K82_0 ++ (K82_1 ++ (K82_2 ++ (K82_3 ++ (K82_4 ++ (K82_5))))), ∀ w ∈ needs 82 e, w ∈ lw_tbl ∧ okW w = true
  exact List.forall_mem_append.mpr ⟨k82_0_in, List.forall_mem_append.mpr ⟨k82_1_in, List.forall_mem_append.mpr ⟨k82_2_in, List.forall_mem_append.mpr ⟨k82_3_in, List.forall_mem_append.mpr ⟨k82_4_in, k82_5_in⟩⟩⟩⟩⟩
