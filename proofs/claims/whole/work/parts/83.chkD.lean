set_option maxRecDepth 100000 in
theorem k154_0_ok : (K154_0).all (eok 154) = true := by decide +kernel
set_option maxRecDepth 100000 in
theorem k154_0_in : ∀ e ∈ K154_0, ∀ w ∈ needs 154 e, w ∈ lw_tbl ∧ okW w = true := pl_in (ps := [[54, 55, 46], [], [56, 58, 46, 57], [], [607, 608, 51], [], [609, 611, 51, 610], [], [], [], [], [], [], [], [], [], [], [], [], [], [], [], [], [], [], [], [], [], [237, 240, 46, 238, 239], [], [], [], [], [], [], [659, 662, 51, 660, 661], [], [], [], []]) (by decide +kernel) (by decide +kernel)
set_option maxRecDepth 100000 in
theorem k154_1_ok : (K154_1).all (eok 154) = true := by decide +kernel
set_option maxRecDepth 100000 in
theorem k154_1_in : ∀ e ∈ K154_1, ∀ w ∈ needs 154 e, w ∈ lw_tbl ∧ okW w = true := pl_in (ps := [[], [], [], [], [], [], [], [], [], [], [289, 292, 46, 290, 291], [], [], [], [], [], [], [], [], [], [], [], [682, 685, 51, 683, 684], [], [], [], [], [], [], [], [], [], [], [], [], [], [], [322, 325, 46, 323, 324], [], []]) (by decide +kernel) (by decide +kernel)
set_option maxRecDepth 100000 in
theorem k154_2_ok : (K154_2).all (eok 154) = true := by decide +kernel
set_option maxRecDepth 100000 in
theorem k154_2_in : ∀ e ∈ K154_2, ∀ w ∈ needs 154 e, w ∈ lw_tbl ∧ okW w = true := pl_in (ps := [[], [], [], [], [], [], [], [], [], [711, 714, 51, 712, 713], [], [], [], [], [], [], [], [], [], [], [], [], [], [], [330, 333, 46, 331, 332], [], [], [], [], [], [], [], [], [], [], [], [715, 718, 51, 716, 717], [], [], []]) (by decide +kernel) (by decide +kernel)
set_option maxRecDepth 100000 in
theorem k154_3_ok : (K154_3).all (eok 154) = true := by decide +kernel
set_option maxRecDepth 100000 in
theorem k154_3_in : ∀ e ∈ K154_3, ∀ w ∈ needs 154 e, w ∈ lw_tbl ∧ okW w = true := pl_in (ps := [[], [], [], [], [], [], [], [], [], [], [], [351, 354, 46, 352, 353], [], [], [], [], [], [], [], [], [], [], [], [727, 730, 51, 728, 729], [], [], [], [], [], [], [], [], [], [363, 366, 46, 364, 365], [], [], [], [], [], []]) (by decide +kernel) (by decide +kernel)
set_option maxRecDepth 100000 in
theorem k154_4_ok : (K154_4).all (eok 154) = true := by decide +kernel
set_option maxRecDepth 100000 in
theorem k154_4_in : ∀ e ∈ K154_4, ∀ w ∈ needs 154 e, w ∈ lw_tbl ∧ okW w = true := pl_in (ps := [[731, 734, 51, 732, 733], [], [], [], [], [], [], [], [], [], [371, 374, 46, 372, 373], [], [], [], [], [], [], [739, 742, 51, 740, 741], [], [], [], [], [], [], [], [], [], [], [], [], [], [], [393, 396, 46, 394, 395], [], [], [], [], [], [], []]) (by decide +kernel) (by decide +kernel)
set_option maxRecDepth 100000 in
theorem k154_5_ok : (K154_5).all (eok 154) = true := by decide +kernel
set_option maxRecDepth 100000 in
theorem k154_5_in : ∀ e ∈ K154_5, ∀ w ∈ needs 154 e, w ∈ lw_tbl ∧ okW w = true := pl_in (ps := [[], [], [], [], [754, 757, 51, 755, 756], [], [], [], [], [], [], [], [], [], [], [], [], [], [], [], [], [], [], [], [409, 412, 46, 410, 411], [], [], [], [], [], [], [], [], [], [], [], [], [], [], []]) (by decide +kernel) (by decide +kernel)
set_option maxRecDepth 100000 in
theorem k154_6_ok : (K154_6).all (eok 154) = true := by decide +kernel
set_option maxRecDepth 100000 in
theorem k154_6_in : ∀ e ∈ K154_6, ∀ w ∈ needs 154 e, w ∈ lw_tbl ∧ okW w = true := pl_in (ps := [[], [762, 765, 51, 763, 764], [], [], [], [], [], [], [], [], [], [421, 424, 46, 422, 423], [], [], [], [], [], [], [769, 772, 51, 770, 771], [], [], [], [], [], [], [], [], [], [], [], [], [], [], [437, 440, 46, 438, 439], [], [], [], [], [], []]) (by decide +kernel) (by decide +kernel)
set_option maxRecDepth 100000 in
theorem k154_7_ok : (K154_7).all (eok 154) = true := by decide +kernel
set_option maxRecDepth 100000 in
theorem k154_7_in : ∀ e ∈ K154_7, ∀ w ∈ needs 154 e, w ∈ lw_tbl ∧ okW w = true := pl_in (ps := [[], [], [], [], [], [789, 792, 51, 790, 791], [], [], [], [], [], [], [], [], [], [], [], [], [], [], [], [], [], [], [], [463, 466, 46, 464, 465], [], [], [], [], [], [], [], [], [], [], [], [], [], []]) (by decide +kernel) (by decide +kernel)
set_option maxRecDepth 100000 in
theorem k154_8_ok : (K154_8).all (eok 154) = true := by decide +kernel
set_option maxRecDepth 100000 in
theorem k154_8_in : ∀ e ∈ K154_8, ∀ w ∈ needs 154 e, w ∈ lw_tbl ∧ okW w = true := pl_in (ps := [[], [], [805, 808, 51, 806, 807], [], [], [], [], [], [], [], [], [], [], [], [], [], [], [469, 472, 46, 470, 471], [], [], [], [], [], [], [], [], [], [], [], [810, 813, 51, 811, 812], [], [], [], [], [], [], [], [], [], []]) (by decide +kernel) (by decide +kernel)
set_option maxRecDepth 100000 in
theorem k154_9_ok : (K154_9).all (eok 154) = true := by decide +kernel
set_option maxRecDepth 100000 in
theorem k154_9_in : ∀ e ∈ K154_9, ∀ w ∈ needs 154 e, w ∈ lw_tbl ∧ okW w = true := pl_in (ps := [[], [], [], [], [484, 487, 46, 485, 486], [], [], [], [], [], [], [], [], [], [], [], [818, 821, 51, 819, 820], [], [], [], [], [], [], [], [], [], [], [], [], [], [], [], [], [], [], [], [488, 491, 46, 489, 490], [], [], []]) (by decide +kernel) (by decide +kernel)
set_option maxRecDepth 100000 in
theorem k154_10_ok : (K154_10).all (eok 154) = true := by decide +kernel
set_option maxRecDepth 100000 in
theorem k154_10_in : ∀ e ∈ K154_10, ∀ w ∈ needs 154 e, w ∈ lw_tbl ∧ okW w = true := pl_in (ps := [[], [], [], [], [], [], [], [], [], [], [], [], [], [826, 829, 51, 827, 828], [], [], [], [], [499, 502, 46, 500, 501], [], [837, 840, 51, 838, 839], [], [], [], [], [507, 510, 46, 508, 509], [], [845, 848, 51, 846, 847], [], [], [], [], [515, 518, 46, 516, 517], [], [849, 852, 51, 850, 851], [], [], [], [], []]) (by decide +kernel) (by decide +kernel)
set_option maxRecDepth 100000 in
theorem k154_11_ok : (K154_11).all (eok 154) = true := by decide +kernel
set_option maxRecDepth 100000 in
theorem k154_11_in : ∀ e ∈ K154_11, ∀ w ∈ needs 154 e, w ∈ lw_tbl ∧ okW w = true := pl_in (ps := [[], [], [], [], [], [], [], [], [], [528, 531, 46, 529, 530], [], [], [], [], [], [], [], [], [], [], [], [857, 860, 51, 858, 859], [], [], [], [], [], [], [], [], [], [532, 535, 46, 533, 534], [], [], [], [], [], [], [861, 864, 51, 862, 863], []]) (by decide +kernel) (by decide +kernel)
set_option maxRecDepth 100000 in
theorem k154_12_ok : (K154_12).all (eok 154) = true := by decide +kernel
set_option maxRecDepth 100000 in
theorem k154_12_in : ∀ e ∈ K154_12, ∀ w ∈ needs 154 e, w ∈ lw_tbl ∧ okW w = true := pl_in (ps := [[], [], [], [], [], [], [], [], [540, 543, 46, 541, 542], [], [], [], [], [], [], [865, 868, 51, 866, 867], [], [], [], [], [546, 549, 46, 547, 548], [], [869, 872, 51, 870, 871], [], [], [], [], [], [], [], [], [], [551, 554, 46, 552, 553], [], [], [], [], [], [], [873, 876, 51, 874, 875]]) (by decide +kernel) (by decide +kernel)
set_option maxRecDepth 100000 in
theorem k154_13_ok : (K154_13).all (eok 154) = true := by decide +kernel
set_option maxRecDepth 100000 in
theorem k154_13_in : ∀ e ∈ K154_13, ∀ w ∈ needs 154 e, w ∈ lw_tbl ∧ okW w = true := pl_in (ps := [[], [], [], [], [560, 563, 46, 561, 562], [], [877, 880, 51, 878, 879], [], [], [], [], [], [], [], [], [], [564, 567, 46, 565, 566], [], [], [], [], [], [], [881, 884, 51, 882, 883], [], [], [], [], [603, 606, 46, 604, 605], [], [918, 921, 51, 919, 920], [], [], [], [], [], [], []]) (by decide +kernel) (by decide +kernel)
theorem k154_ok : (kOf 154).all (eok 154) = true := by
  show (K154_0 ++ (K154_1 ++ (K154_2 ++ (K154_3 ++ (K154_4 ++ (K154_5 ++ (K154_6 ++ (K154_7 ++ (K154_8 ++ (K154_9 ++ (K154_10 ++ (K154_11 ++ (K154_12 ++ (K154_13)))))))))))))).all (eok 154) = true
  simp only [List.all_append, k154_0_ok, k154_1_ok, k154_2_ok, k154_3_ok, k154_4_ok, k154_5_ok, k154_6_ok, k154_7_ok, k154_8_ok, k154_9_ok, k154_10_ok, k154_11_ok, k154_12_ok, k154_13_ok, Bool.and_self]
theorem k154_in : ∀ e ∈ kOf 154, ∀ w ∈ needs 154 e, w ∈ lw_tbl ∧ okW w = true := by
  show ∀ e ∈ K154_0 ++ (K154_1 ++ (K154_2 ++ (K154_3 ++ (K154_4 ++ (K154_5 ++ (K154_6 ++ (K154_7 ++ (K154_8 ++ (K154_9 ++ (K154_10 ++ (K154_11 ++ (K154_12 ++ (K154_13))))))))))))), ∀ w ∈ needs 154 e, w ∈ lw_tbl ∧ okW w = true
  exact List.forall_mem_append.mpr ⟨k154_0_in, List.forall_mem_append.mpr ⟨k154_1_in, List.forall_mem_append.mpr ⟨k154_2_in, List.forall_mem_append.mpr ⟨k154_3_in, List.forall_mem_append.mpr ⟨k154_4_in, List.forall_mem_append.mpr ⟨k154_5_in, List.forall_mem_append.mpr ⟨k154_6_in, List.forall_mem_append.mpr ⟨k154_7_in, List.forall_mem_append.mpr ⟨k154_8_in, List.forall_mem_append.mpr ⟨k154_9_in, List.forall_mem_append.mpr ⟨k154_10_in, List.forall_mem_append.mpr ⟨k154_11_in, List.forall_mem_append.mpr ⟨k154_12_in, k154_13_in⟩⟩⟩⟩⟩⟩⟩⟩⟩⟩⟩⟩⟩
