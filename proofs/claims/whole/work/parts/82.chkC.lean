set_option maxRecDepth 100000 in
theorem k112_ok : (kOf 112).all (eok 112) = true := by decide +kernel
set_option maxRecDepth 100000 in
theorem k112_in : ∀ e ∈ kOf 112, ∀ w ∈ needs 112 e, w ∈ lw_tbl ∧ okW w = true := pl_in (ps := [[], [], [], [], [], [], [613], [], [], [], [], [613], [], [], [], [], [], [], [], []]) (by decide +kernel) (by decide +kernel)
set_option maxRecDepth 100000 in
theorem k113_ok : (kOf 113).all (eok 113) = true := by decide +kernel
set_option maxRecDepth 100000 in
theorem k113_in : ∀ e ∈ kOf 113, ∀ w ∈ needs 113 e, w ∈ lw_tbl ∧ okW w = true := pl_in (ps := [[], [], [663, 666, 51, 665, 13], [], [670], [], [], [], [], [], [], [], [], [663, 666, 51, 665, 13], [], [], [], [], [], [], [671], [], [], [672, 675, 51, 674, 14], [], [613], [], [], [], [], [], [], [], [613], [], [], [], [], [], [], [], [], [613], [], [], [], [], [], [676, 678, 51, 677], [], [676, 678, 51, 677], [735, 738, 51, 737, 23], [], []]) (by decide +kernel) (by decide +kernel)
set_option maxRecDepth 100000 in
theorem k114_ok : (kOf 114).all (eok 114) = true := by decide +kernel
set_option maxRecDepth 100000 in
theorem k114_in : ∀ e ∈ kOf 114, ∀ w ∈ needs 114 e, w ∈ lw_tbl ∧ okW w = true := pl_in (ps := [[], [], [], [], [], [], [613], [], [], [], [], [], [], [690, 693, 51, 692, 16], [], [], [], [], [694, 697, 51, 696, 17], [], [], [], [], [], [], [], [], [], [], [], [], []]) (by decide +kernel) (by decide +kernel)
set_option maxRecDepth 100000 in
theorem k115_ok : (kOf 115).all (eok 115) = true := by decide +kernel
set_option maxRecDepth 100000 in
theorem k115_in : ∀ e ∈ kOf 115, ∀ w ∈ needs 115 e, w ∈ lw_tbl ∧ okW w = true := pl_in (ps := [[], [], [663, 666, 51, 665, 13], [], [670], [], [], [], [743, 746, 51, 745, 24], [], [], [747, 750, 51, 749, 25], [751, 753, 51, 752], [], [], [698], [], [], [672, 675, 51, 674, 14], [], [613], [], [], [], [], [], [], [], [], [], [], [747, 750, 51, 749, 25], [751, 753, 51, 752], []]) (by decide +kernel) (by decide +kernel)
set_option maxRecDepth 100000 in
theorem k116_ok : (kOf 116).all (eok 116) = true := by decide +kernel
set_option maxRecDepth 100000 in
theorem k116_in : ∀ e ∈ kOf 116, ∀ w ∈ needs 116 e, w ∈ lw_tbl ∧ okW w = true := pl_in (ps := [[], [], [663, 666, 51, 665, 13], [], [], [], [663, 666, 51, 665, 13], [], [], [], [], [670], [], [], [672, 675, 51, 674, 14], [], [], [676, 678, 51, 677], [], [676, 678, 51, 677], [758, 761, 51, 760, 26], [], [], [613], [], [], [], [], [], [], [], []]) (by decide +kernel) (by decide +kernel)
set_option maxRecDepth 100000 in
theorem k117_ok : (kOf 117).all (eok 117) = true := by decide +kernel
set_option maxRecDepth 100000 in
theorem k117_in : ∀ e ∈ kOf 117, ∀ w ∈ needs 117 e, w ∈ lw_tbl ∧ okW w = true := pl_in (ps := [[], [613], [], [], [], [], [], [], [], [], []]) (by decide +kernel) (by decide +kernel)
set_option maxRecDepth 100000 in
theorem k118_0_ok : (K118_0).all (eok 118) = true := by decide +kernel
set_option maxRecDepth 100000 in
theorem k118_0_in : ∀ e ∈ K118_0, ∀ w ∈ needs 118 e, w ∈ lw_tbl ∧ okW w = true := pl_in (ps := [[], [], [663, 666, 51, 665, 13], [], [], [], [663, 666, 51, 665, 13], [], [], [], [], [], [], [], [667, 669, 51, 668], [], [670], [], [], [613], [], [], [], [], [], [], [671], [], [], [672, 675, 51, 674, 14], [], [], [], [], [], [], [], [613], [], []]) (by decide +kernel) (by decide +kernel)
set_option maxRecDepth 100000 in
theorem k118_1_ok : (K118_1).all (eok 118) = true := by decide +kernel
set_option maxRecDepth 100000 in
theorem k118_1_in : ∀ e ∈ K118_1, ∀ w ∈ needs 118 e, w ∈ lw_tbl ∧ okW w = true := pl_in (ps := [[], [], [], [], [613], [], [], [], [], [], [], [613], [], [], [], [], [613], [], [], [], [], [], [], [], [], [], [], [613], [], [], [], [], [613], [], [], [], [], [], [], [613]]) (by decide +kernel) (by decide +kernel)
set_option maxRecDepth 100000 in
theorem k118_2_ok : (K118_2).all (eok 118) = true := by decide +kernel
set_option maxRecDepth 100000 in
theorem k118_2_in : ∀ e ∈ K118_2, ∀ w ∈ needs 118 e, w ∈ lw_tbl ∧ okW w = true := pl_in (ps := [[], [], [], [], [613], [], [], [], [], [], [676, 678, 51, 677], [], [766, 768, 51, 767], [735, 738, 51, 737, 23], [], [613], [], [], [], [], [], [], [], [613], [], [], [], [], [], [], [], [613], [], [], [], [], []]) (by decide +kernel) (by decide +kernel)
theorem k118_ok : (kOf 118).all (eok 118) = true := by
  show (K118_0 ++ (K118_1 ++ (K118_2))).all (eok 118) = true
  simp only [List.all_append, k118_0_ok, k118_1_ok, k118_2_ok, Bool.and_self]
theorem k118_in : ∀ e ∈ kOf 118, ∀ w ∈ needs 118 e, w ∈ lw_tbl ∧ okW w = true := by
  show ∀ e ∈ K118_0 ++ (K118_1 ++ (K118_2)), ∀ w ∈ needs 118 e, w ∈ lw_tbl ∧ okW w = true
  exact List.forall_mem_append.mpr ⟨k118_0_in, List.forall_mem_append.mpr ⟨k118_1_in, k118_2_in⟩⟩
set_option maxRecDepth 100000 in
theorem k119_ok : (kOf 119).all (eok 119) = true := by decide +kernel
set_option maxRecDepth 100000 in
theorem k119_in : ∀ e ∈ kOf 119, ∀ w ∈ needs 119 e, w ∈ lw_tbl ∧ okW w = true := pl_in (ps := [[], [613], [], [], [], [], [], [777, 780, 51, 779, 28], [], [], [], [], [], [], [], [], [777, 780, 51, 779, 28], [], [], [], [], []]) (by decide +kernel) (by decide +kernel)
set_option maxRecDepth 100000 in
theorem k120_ok : (kOf 120).all (eok 120) = true := by decide +kernel
set_option maxRecDepth 100000 in
theorem k120_in : ∀ e ∈ kOf 120, ∀ w ∈ needs 120 e, w ∈ lw_tbl ∧ okW w = true := pl_in (ps := [[], [], [785, 788, 51, 787, 30], [], [], [613], [], [], [], [], [], [], [], [], [], [], [], [613], [], [], [], [], [], [], [], [], [], [], [], [777, 780, 51, 779, 28], [676, 678, 51, 677], [], [766, 768, 51, 767], [758, 761, 51, 760, 26], [], [], [], [613], [], [], [], [], [], [], [], [], [], [], [], [], [], [], [], [], [613], [], [], [], [], [], [], [613], [], [], [613], [], [], [], [], [], [], [], [], [], [], [], [], []]) (by decide +kernel) (by decide +kernel)
set_option maxRecDepth 100000 in
theorem k121_ok : (kOf 121).all (eok 121) = true := by decide +kernel
set_option maxRecDepth 100000 in
theorem k121_in : ∀ e ∈ kOf 121, ∀ w ∈ needs 121 e, w ∈ lw_tbl ∧ okW w = true := pl_in (ps := [[], [613], [], [], [], [], [], [], [], [], [], [], [], [], [613], [], [], [], [], [], [], [777, 780, 51, 779, 28], [], [613], [], [], [], [], [], [], [781, 784, 51, 783, 29], [], [], [], [], [], [], [], [], [], [], []]) (by decide +kernel) (by decide +kernel)
set_option maxRecDepth 100000 in
theorem k122_ok : (kOf 122).all (eok 122) = true := by decide +kernel
set_option maxRecDepth 100000 in
theorem k122_in : ∀ e ∈ kOf 122, ∀ w ∈ needs 122 e, w ∈ lw_tbl ∧ okW w = true := pl_in (ps := [[], [], [], [667, 669, 51, 668], [], [670], [], [], [613], [], [], [], [], [], [], [671], [], [], [672, 675, 51, 674, 14], [], [], [], [], [], [], [], [], [], [773, 776, 51, 775, 27], [], [], [], [], [], []]) (by decide +kernel) (by decide +kernel)
set_option maxRecDepth 100000 in
theorem k123_ok : (kOf 123).all (eok 123) = true := by decide +kernel
set_option maxRecDepth 100000 in
theorem k123_in : ∀ e ∈ kOf 123, ∀ w ∈ needs 123 e, w ∈ lw_tbl ∧ okW w = true := pl_in (ps := [[], [], [], [], [], [], [], [], [], [613], [], [676, 678, 51, 677], [], [679, 681, 51, 680], [], [], [], [], [], [], [], [], [], [], [], [], []]) (by decide +kernel) (by decide +kernel)
set_option maxRecDepth 100000 in
theorem k124_ok : (kOf 124).all (eok 124) = true := by decide +kernel
set_option maxRecDepth 100000 in
theorem k124_in : ∀ e ∈ kOf 124, ∀ w ∈ needs 124 e, w ∈ lw_tbl ∧ okW w = true := pl_in (ps := [[], [], [], [], [], [], [], [], [], [], [663, 666, 51, 665, 13], [], [], [], [676, 678, 51, 677], [], [676, 678, 51, 677], [801, 804, 51, 803, 33], [], [], [], [], [], [], [], [], [], [], [], []]) (by decide +kernel) (by decide +kernel)
set_option maxRecDepth 100000 in
theorem k125_ok : (kOf 125).all (eok 125) = true := by decide +kernel
set_option maxRecDepth 100000 in
theorem k125_in : ∀ e ∈ kOf 125, ∀ w ∈ needs 125 e, w ∈ lw_tbl ∧ okW w = true := pl_in (ps := [[], [], [663, 666, 51, 665, 13], [], [], [], [], [667, 669, 51, 668], [], [670], [], [], [], [], [], [676, 678, 51, 677], [], [707, 710, 51, 709, 20], [], [], [], [793, 796, 51, 795, 31], [751, 753, 51, 752], [], [], [613], [], [676, 678, 51, 677], [], [751, 753, 51, 752], [], [], [], [743, 746, 51, 745, 24], [], [], [], [793, 796, 51, 795, 31], [], [], [], [797, 800, 51, 799, 32], []]) (by decide +kernel) (by decide +kernel)
set_option maxRecDepth 100000 in
theorem k126_ok : (kOf 126).all (eok 126) = true := by decide +kernel
set_option maxRecDepth 100000 in
theorem k126_in : ∀ e ∈ kOf 126, ∀ w ∈ needs 126 e, w ∈ lw_tbl ∧ okW w = true := pl_in (ps := [[], [], [663, 666, 51, 665, 13], [], [], [], [686, 689, 51, 688, 15], [], [], [], [], [667, 669, 51, 668], [], [670], [], [], [676, 678, 51, 677], [], [679, 681, 51, 680], [], [], [613], [], [], [], [809], [], [], [613], [], [], [], [], []]) (by decide +kernel) (by decide +kernel)
set_option maxRecDepth 100000 in
theorem k127_ok : (kOf 127).all (eok 127) = true := by decide +kernel
set_option maxRecDepth 100000 in
theorem k127_in : ∀ e ∈ kOf 127, ∀ w ∈ needs 127 e, w ∈ lw_tbl ∧ okW w = true := pl_in (ps := [[], [], [], [], [], [], [], [], [], [663, 666, 51, 665, 13], [], [], [], [], [613], [], [676, 678, 51, 677], [], [], [], [], [], [], [], [], [], [613], [], [676, 678, 51, 677], [], [679, 681, 51, 680], [], [], [613], [], [], [703, 706, 51, 705, 19], [], [], [], [], [], [], [], [], [], [], [], [], [], [], [], [], [], [], [], []]) (by decide +kernel) (by decide +kernel)
set_option maxRecDepth 100000 in
theorem k128_ok : (kOf 128).all (eok 128) = true := by decide +kernel
set_option maxRecDepth 100000 in
theorem k128_in : ∀ e ∈ kOf 128, ∀ w ∈ needs 128 e, w ∈ lw_tbl ∧ okW w = true := pl_in (ps := [[], [], [686, 689, 51, 688, 15], [], [], [], [], [667, 669, 51, 668], [], [670], [], [], [], [], [], [], [], [814, 817, 51, 816, 34], [], [], [], [690, 693, 51, 692, 16], [], [], [], [], [], [], [], [809], [], [], [], [], [], [], [694, 697, 51, 696, 17], [], [], [], [], [], [613], [], [], [703, 706, 51, 705, 19], [], [], [], [], [], [], [], [], [694, 697, 51, 696, 17], [], [], [], [], [814, 817, 51, 816, 34], []]) (by decide +kernel) (by decide +kernel)
set_option maxRecDepth 100000 in
theorem k129_ok : (kOf 129).all (eok 129) = true := by decide +kernel
set_option maxRecDepth 100000 in
theorem k129_in : ∀ e ∈ kOf 129, ∀ w ∈ needs 129 e, w ∈ lw_tbl ∧ okW w = true := pl_in (ps := [[], [], [], [], [613], [], [], [], [], [], [], [], [], [], [613], [], [], [], [], [], [], [777, 780, 51, 779, 28], [], [], [], [777, 780, 51, 779, 28], [], [], [], [], [777, 780, 51, 779, 28], [], [], [], [777, 780, 51, 779, 28], [], [], [], [], [777, 780, 51, 779, 28], [], [], [], [777, 780, 51, 779, 28], [], [], [], [], [], [], [], [], [], [], [], [], [], [], [], [], [], [], [], [], [], [], [809], []]) (by decide +kernel) (by decide +kernel)
set_option maxRecDepth 100000 in
theorem k130_ok : (kOf 130).all (eok 130) = true := by decide +kernel
set_option maxRecDepth 100000 in
theorem k130_in : ∀ e ∈ kOf 130, ∀ w ∈ needs 130 e, w ∈ lw_tbl ∧ okW w = true := pl_in (ps := [[], [], [], [], [], [667, 669, 51, 668], [], [670], [], [], [], [822, 825, 51, 824, 35], [], [], [], [809], [], [], [], [], [], [], [], [777, 780, 51, 779, 28], [], [], [], [], [], [], [], [777, 780, 51, 779, 28], [], [613], [], [], [], [], [], [], [], [], [], [766, 768, 51, 767], [], [707, 710, 51, 709, 20], [], [], [], [785, 788, 51, 787, 30], [], [], [], [], []]) (by decide +kernel) (by decide +kernel)
set_option maxRecDepth 100000 in
theorem k131_ok : (kOf 131).all (eok 131) = true := by decide +kernel
set_option maxRecDepth 100000 in
theorem k131_in : ∀ e ∈ kOf 131, ∀ w ∈ needs 131 e, w ∈ lw_tbl ∧ okW w = true := pl_in (ps := [[], [613], [], [616], [834, 836, 51, 835], [], [], [676, 678, 51, 677], [], [707, 710, 51, 709, 20], [], [], [], [676, 678, 51, 677], [], [676, 678, 51, 677], [758, 761, 51, 760, 26], [], [], [], [], [], [], [], [], [], [], [676, 678, 51, 677], [], [707, 710, 51, 709, 20], [], [], [], [], [], [676, 678, 51, 677], [], [676, 678, 51, 677], [801, 804, 51, 803, 33], [], [], [], [], [], [], [616], [], [613], [834, 836, 51, 835], [], []]) (by decide +kernel) (by decide +kernel)
set_option maxRecDepth 100000 in
theorem k132_ok : (kOf 132).all (eok 132) = true := by decide +kernel
set_option maxRecDepth 100000 in
theorem k132_in : ∀ e ∈ kOf 132, ∀ w ∈ needs 132 e, w ∈ lw_tbl ∧ okW w = true := pl_in (ps := [[], [], [663, 666, 51, 665, 13], [], [], [], [663, 666, 51, 665, 13], [], [], [], [], [], [], [], [667, 669, 51, 668], [], [670], [], [], [], [], [], [830, 833, 51, 832, 36], []]) (by decide +kernel) (by decide +kernel)
set_option maxRecDepth 100000 in
theorem k133_ok : (kOf 133).all (eok 133) = true := by decide +kernel
set_option maxRecDepth 100000 in
theorem k133_in : ∀ e ∈ kOf 133, ∀ w ∈ needs 133 e, w ∈ lw_tbl ∧ okW w = true := pl_in (ps := [[], [], [], [], [663, 666, 51, 665, 13], [], [], [], [], []]) (by decide +kernel) (by decide +kernel)
set_option maxRecDepth 100000 in
theorem k134_ok : (kOf 134).all (eok 134) = true := by decide +kernel
set_option maxRecDepth 100000 in
theorem k134_in : ∀ e ∈ kOf 134, ∀ w ∈ needs 134 e, w ∈ lw_tbl ∧ okW w = true := pl_in (ps := [[], [613], [], [616], [834, 836, 51, 835], [], [841, 844, 51, 843, 37], [], [], [], [], [], [], [], [], [], [], [], [663, 666, 51, 665, 13], [], [], [], [], [], [], [676, 678, 51, 677], [], [676, 678, 51, 677], [758, 761, 51, 760, 26], [], [], [], [], [], [], [], [], [809], [], [], [], [676, 678, 51, 677], [], [707, 710, 51, 709, 20], [], [], [616], [], [613], [834, 836, 51, 835], [], []]) (by decide +kernel) (by decide +kernel)
set_option maxRecDepth 100000 in
theorem k135_ok : (kOf 135).all (eok 135) = true := by decide +kernel
set_option maxRecDepth 100000 in
theorem k135_in : ∀ e ∈ kOf 135, ∀ w ∈ needs 135 e, w ∈ lw_tbl ∧ okW w = true := pl_in (ps := [[], [], [], [], [], [], [], [], [841, 844, 51, 843, 37], [676, 678, 51, 677], [], [679, 681, 51, 680], [], [], [], [], [], [], [], [], [663, 666, 51, 665, 13], [], [], [613], [], [676, 678, 51, 677], [], [679, 681, 51, 680], [], [], [613], [], [], [], [], [676, 678, 51, 677], [], [679, 681, 51, 680], [], [], [], [], [], [], [], [613], [], [], [], [], [], [], [613], [], [], [], [], [], [613], [], [], [], [], [], [], [], [], [], [], []]) (by decide +kernel) (by decide +kernel)
set_option maxRecDepth 100000 in
theorem k136_ok : (kOf 136).all (eok 136) = true := by decide +kernel
set_option maxRecDepth 100000 in
theorem k136_in : ∀ e ∈ kOf 136, ∀ w ∈ needs 136 e, w ∈ lw_tbl ∧ okW w = true := pl_in (ps := [[], [], [], [], [], [], [], [], [663, 666, 51, 665, 13], [], [], [], [], [], [], [], [], [], []]) (by decide +kernel) (by decide +kernel)
set_option maxRecDepth 100000 in
theorem k137_ok : (kOf 137).all (eok 137) = true := by decide +kernel
set_option maxRecDepth 100000 in
theorem k137_in : ∀ e ∈ kOf 137, ∀ w ∈ needs 137 e, w ∈ lw_tbl ∧ okW w = true := pl_in (ps := [[], [613], [], [616], [834, 836, 51, 835], [], [], [], [841, 844, 51, 843, 37], [], [], [], [841, 844, 51, 843, 37], [797, 800, 51, 799, 32], [], [747, 750, 51, 749, 25], [], [], [], [], [676, 678, 51, 677], [], [], [853, 856, 51, 855, 38], [676, 678, 51, 677], [758, 761, 51, 760, 26], [], [], [], [], [], [], [], [], [853, 856, 51, 855, 38], [], [], [], [616], [], [613], [834, 836, 51, 835], [], []]) (by decide +kernel) (by decide +kernel)
set_option maxRecDepth 100000 in
theorem k138_ok : (kOf 138).all (eok 138) = true := by decide +kernel
set_option maxRecDepth 100000 in
theorem k138_in : ∀ e ∈ kOf 138, ∀ w ∈ needs 138 e, w ∈ lw_tbl ∧ okW w = true := pl_in (ps := [[], [], [663, 666, 51, 665, 13], [], [], [], [], [667, 669, 51, 668], [], [670], [], [], [613], [], [616], [834, 836, 51, 835], [], [], [], [], [], [], [], [], [], [773, 776, 51, 775, 27], [], [], [], [], [], [], [809], [], [], [], [676, 678, 51, 677], [], [707, 710, 51, 709, 20], [], [], [616], [], [613], [834, 836, 51, 835], [], []]) (by decide +kernel) (by decide +kernel)
set_option maxRecDepth 100000 in
theorem k139_ok : (kOf 139).all (eok 139) = true := by decide +kernel
set_option maxRecDepth 100000 in
theorem k139_in : ∀ e ∈ kOf 139, ∀ w ∈ needs 139 e, w ∈ lw_tbl ∧ okW w = true := pl_in (ps := [[], [], [], [667, 669, 51, 668], [], [670], [], [], [], [], [], [], [], [], [], [], [], [], [], [], [], [], [], [], [], [663, 666, 51, 665, 13], [], [], [], [], [663, 666, 51, 665, 13], [], [], [], [], [], [], [], [], [830, 833, 51, 832, 36], [], [], [], [], [], [], [], [], [663, 666, 51, 665, 13], [], [], [], [], [], [], [], [], [], [], [], [], [], [], [], [], [], [], [], [], [], [], [], [], [], [], [], []]) (by decide +kernel) (by decide +kernel)
set_option maxRecDepth 100000 in
theorem k140_ok : (kOf 140).all (eok 140) = true := by decide +kernel
set_option maxRecDepth 100000 in
theorem k140_in : ∀ e ∈ kOf 140, ∀ w ∈ needs 140 e, w ∈ lw_tbl ∧ okW w = true := pl_in (ps := [[], [], [], [747, 750, 51, 749, 25], [751, 753, 51, 752], [], [], [613], [], [], [], [], [723, 726, 51, 725, 22], [], [], [613], [], [], [], [], [613], [], [], [], [], [613], [], [], [], [], [], [], [], [], [617], [], [], [620], [], [], [747, 750, 51, 749, 25], [], [670], []]) (by decide +kernel) (by decide +kernel)
set_option maxRecDepth 100000 in
theorem k141_ok : (kOf 141).all (eok 141) = true := by decide +kernel
set_option maxRecDepth 100000 in
theorem k141_in : ∀ e ∈ kOf 141, ∀ w ∈ needs 141 e, w ∈ lw_tbl ∧ okW w = true := pl_in (ps := [[], [617], [], [698], [], [], [], [617], [], [], [617], [], [], [], [], [], [], [613], [], [], [614], [], [], [617], [], [], [], [], [], [], [], [], [617], []]) (by decide +kernel) (by decide +kernel)
set_option maxRecDepth 100000 in
theorem k142_ok : (kOf 142).all (eok 142) = true := by decide +kernel
set_option maxRecDepth 100000 in
theorem k142_in : ∀ e ∈ kOf 142, ∀ w ∈ needs 142 e, w ∈ lw_tbl ∧ okW w = true := pl_in (ps := [[], [], [], [667, 669, 51, 668], [], [670], [], [], [620], [], [], [671], [], [], [619], [], [620], [], [], [], [], [620], [], [], [620], [], [620], []]) (by decide +kernel) (by decide +kernel)
set_option maxRecDepth 100000 in
theorem k143_ok : (kOf 143).all (eok 143) = true := by decide +kernel
set_option maxRecDepth 100000 in
theorem k143_in : ∀ e ∈ kOf 143, ∀ w ∈ needs 143 e, w ∈ lw_tbl ∧ okW w = true := pl_in (ps := [[], [620], [], [], [], [620], [], []]) (by decide +kernel) (by decide +kernel)
set_option maxRecDepth 100000 in
theorem k144_ok : (kOf 144).all (eok 144) = true := by decide +kernel
set_option maxRecDepth 100000 in
theorem k144_in : ∀ e ∈ kOf 144, ∀ w ∈ needs 144 e, w ∈ lw_tbl ∧ okW w = true := pl_in (ps := [[], [621], [], [620], [], [], [619], [], [621], [], [], [], [667, 669, 51, 668], [], [], [], [], []]) (by decide +kernel) (by decide +kernel)
set_option maxRecDepth 100000 in
theorem k145_ok : (kOf 145).all (eok 145) = true := by decide +kernel
set_option maxRecDepth 100000 in
theorem k145_in : ∀ e ∈ kOf 145, ∀ w ∈ needs 145 e, w ∈ lw_tbl ∧ okW w = true := pl_in (ps := [[], [], [], [893, 896, 51, 895, 41], [], [], [], [621], [], [], [], [], [], [], [621], [], []]) (by decide +kernel) (by decide +kernel)
set_option maxRecDepth 100000 in
theorem k146_ok : (kOf 146).all (eok 146) = true := by decide +kernel
set_option maxRecDepth 100000 in
theorem k146_in : ∀ e ∈ kOf 146, ∀ w ∈ needs 146 e, w ∈ lw_tbl ∧ okW w = true := pl_in (ps := [[], [621], [], [], [627], [], [], [], [], [], [], [893, 896, 51, 895, 41], [], [], [621], [], [], [], [], [], [627], [], [], [], [627], [], [], [], [], [619], [], [621], [], [], [], [], [], [], [], [621], [], [], [621], [], [], [621], [], [], [], [], [], []]) (by decide +kernel) (by decide +kernel)
set_option maxRecDepth 100000 in
theorem k147_ok : (kOf 147).all (eok 147) = true := by decide +kernel
set_option maxRecDepth 100000 in
theorem k147_in : ∀ e ∈ kOf 147, ∀ w ∈ needs 147 e, w ∈ lw_tbl ∧ okW w = true := pl_in (ps := [[], [], [], [], [], [], [], [], [], [], [], [], [], [], [], [], [], [], [], [], [], [], [], [], [], []]) (by decide +kernel) (by decide +kernel)
set_option maxRecDepth 100000 in
theorem k148_ok : (kOf 148).all (eok 148) = true := by decide +kernel
set_option maxRecDepth 100000 in
theorem k148_in : ∀ e ∈ kOf 148, ∀ w ∈ needs 148 e, w ∈ lw_tbl ∧ okW w = true := pl_in (ps := [[], [], [], [], [893, 896, 51, 895, 41], [], [], [619], [], [621], [], [], [], [626], [], [626], [897, 899, 51, 898], [], [], [], [], [], [], [], [621], [], [], [621], [], [], [900, 903, 51, 902, 42], [], [], [], [], [], [], [], [], [], [], [904, 907, 51, 906, 43], [], [], [], [900, 903, 51, 902, 42], [], [], [], [], [], [], [], [], [], [], [], [904, 907, 51, 906, 43], [], [], [], [], []]) (by decide +kernel) (by decide +kernel)
set_option maxRecDepth 100000 in
theorem k149_ok : (kOf 149).all (eok 149) = true := by decide +kernel
set_option maxRecDepth 100000 in
theorem k149_in : ∀ e ∈ kOf 149, ∀ w ∈ needs 149 e, w ∈ lw_tbl ∧ okW w = true := pl_in (ps := [[], [626], [], [], [], [627], [], [], [912, 662, 51, 660, 661], [], [], [], [627], [], [], [], [627], [], [], [913, 685, 51, 683, 684], [], [], [], [627], [], [], [], [627], [], [], [914, 714, 51, 712, 713], [], [], [], [627], [], [], [], [627], [], [], [915, 718, 51, 716, 717], [], [], [], [627], [], [], [], [627], [], [], [], [627], [], [], [916, 765, 51, 763, 764], [], [], [], [627], [], [], [917, 772, 51, 770, 771], []]) (by decide +kernel) (by decide +kernel)
set_option maxRecDepth 100000 in
theorem k150_ok : (kOf 150).all (eok 150) = true := by decide +kernel
set_option maxRecDepth 100000 in
theorem k150_in : ∀ e ∈ kOf 150, ∀ w ∈ needs 150 e, w ∈ lw_tbl ∧ okW w = true := pl_in (ps := [[], [], [618], [], [], [621], [], [], [622], [], [], [625], [], [], [], [621], [], [620], [], [], [], [], [], [621], [622], [], [889, 892, 51, 891, 40], [], [], [], [], [908, 911, 51, 910, 44], [], [], [], [], [], [], [670], [], [], [], [], [], [], [], [], [], [], [], [623], [], [], [], [], [], [], [621], [], [622], [], [624], [], [], [625], [], [], [625], [], [], [], [618], [], []]) (by decide +kernel) (by decide +kernel)
set_option maxRecDepth 100000 in
theorem k151_ok : (kOf 151).all (eok 151) = true := by decide +kernel
set_option maxRecDepth 100000 in
theorem k151_in : ∀ e ∈ kOf 151, ∀ w ∈ needs 151 e, w ∈ lw_tbl ∧ okW w = true := pl_in (ps := [[], [], [], [667, 669, 51, 668], [], [670], [], [], [613], [], [615], [834, 836, 51, 835], [], [885, 888, 51, 887, 39], [], [], [615], [], [613], [834, 836, 51, 835], [], [], [809], [], [], [], [], [622], [], [], [], [], [], [623], [], [], [624], []]) (by decide +kernel) (by decide +kernel)
set_option maxRecDepth 100000 in
theorem k152_ok : (kOf 152).all (eok 152) = true := by decide +kernel
set_option maxRecDepth 100000 in
theorem k152_in : ∀ e ∈ kOf 152, ∀ w ∈ needs 152 e, w ∈ lw_tbl ∧ okW w = true := pl_in (ps := [[], [613], [], [615], [834, 836, 51, 835], [], [885, 888, 51, 887, 39], [], [], [615], [], [613], [834, 836, 51, 835], [], [], [698], [], [], [672, 675, 51, 674, 14], [], [885, 888, 51, 887, 39], [], [], [625], [], [809], []]) (by decide +kernel) (by decide +kernel)
set_option maxRecDepth 100000 in
theorem k153_ok : (kOf 153).all (eok 153) = true := by decide +kernel
set_option maxRecDepth 100000 in
theorem k153_in : ∀ e ∈ kOf 153, ∀ w ∈ needs 153 e, w ∈ lw_tbl ∧ okW w = true := pl_in (ps := [[], [], [], [], [390], [], [], [], [], [391], [], [], [], [], [391], [], [], [], [], [], [], [], [], [392], [], [], [], [], [], [], [], [], [], [], [], [], [], [], [], [], [], []]) (by decide +kernel) (by decide +kernel)
