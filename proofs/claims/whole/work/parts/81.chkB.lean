set_option maxRecDepth 100000 in
theorem k70_ok : (kOf 70).all (eok 70) = true := by decide +kernel
set_option maxRecDepth 100000 in
theorem k70_in : ∀ e ∈ kOf 70, ∀ w ∈ needs 70 e, w ∈ lw_tbl ∧ okW w = true := pl_in (ps := [[], [222], [503, 506, 48, 504, 505], [], [], [], [], [], [], [218], [], [441, 269, 47, 267, 268], [], [], [222], [], [218], [132], [], [], [497, 404, 48, 402, 403], [], [], [], [], [222], [442, 313, 48, 311, 312], []]) (by decide +kernel) (by decide +kernel)
set_option maxRecDepth 100000 in
theorem k71_ok : (kOf 71).all (eok 71) = true := by decide +kernel
set_option maxRecDepth 100000 in
theorem k71_in : ∀ e ∈ kOf 71, ∀ w ∈ needs 71 e, w ∈ lw_tbl ∧ okW w = true := pl_in (ps := [[], [], [], [], [], [], [218], [140], [], [], [], [218], [], [511, 514, 47, 512, 513], [], [], [], [], [], []]) (by decide +kernel) (by decide +kernel)
set_option maxRecDepth 100000 in
theorem k72_ok : (kOf 72).all (eok 72) = true := by decide +kernel
set_option maxRecDepth 100000 in
theorem k72_in : ∀ e ∈ kOf 72, ∀ w ∈ needs 72 e, w ∈ lw_tbl ∧ okW w = true := pl_in (ps := [[], [241, 244, 46, 243, 0], [519, 522, 47, 520, 521], []]) (by decide +kernel) (by decide +kernel)
set_option maxRecDepth 100000 in
theorem k73_ok : (kOf 73).all (eok 73) = true := by decide +kernel
set_option maxRecDepth 100000 in
theorem k73_in : ∀ e ∈ kOf 73, ∀ w ∈ needs 73 e, w ∈ lw_tbl ∧ okW w = true := pl_in (ps := [[], [218], [], [441, 269, 47, 267, 268], [], [], [], [], [288, 272, 46, 271], [], [287], [], [], [222], [], [218], [132], [], [], [496, 252, 48, 250, 251], [], [], [], [], [218], [144], [], [], [218], [142], [], [], [], [], [109], [], [], [], [115], [], [], [112], [], [218], [146], [], [], [], [], [222], [], [118], [497, 404, 48, 402, 403], [], [], [], [], [222], [442, 313, 48, 311, 312], []]) (by decide +kernel) (by decide +kernel)
set_option maxRecDepth 100000 in
theorem k74_ok : (kOf 74).all (eok 74) = true := by decide +kernel
set_option maxRecDepth 100000 in
theorem k74_in : ∀ e ∈ kOf 74, ∀ w ∈ needs 74 e, w ∈ lw_tbl ∧ okW w = true := pl_in (ps := [[], [], [], [288, 272, 46, 271], [], [287], [], [], [], [], [], [], [], [], [], [], [], [218], [], [441, 269, 47, 267, 268], [], [], [], [536, 539, 46, 538, 7], [], [], [], [], [], [], [], [], [], [], [], [], [], [], [], [], [], []]) (by decide +kernel) (by decide +kernel)
set_option maxRecDepth 100000 in
theorem k75_ok : (kOf 75).all (eok 75) = true := by decide +kernel
set_option maxRecDepth 100000 in
theorem k75_in : ∀ e ∈ kOf 75, ∀ w ∈ needs 75 e, w ∈ lw_tbl ∧ okW w = true := pl_in (ps := [[], [], [], [218], [544, 386, 47, 384, 385], [], [], [218], [140], [], [], [218], [545, 350, 47, 348, 349], [], [], [218], [144], [], [], [218], [146], [], [], [218], [148], [], [], [218], [150], [], [], [218], [152], [], [], [221], [], [], [223], [187], [], [], [218], [134], [], [287], []]) (by decide +kernel) (by decide +kernel)
set_option maxRecDepth 100000 in
theorem k76_ok : (kOf 76).all (eok 76) = true := by decide +kernel
set_option maxRecDepth 100000 in
theorem k76_in : ∀ e ∈ kOf 76, ∀ w ∈ needs 76 e, w ∈ lw_tbl ∧ okW w = true := pl_in (ps := [[], [221], [], [550], [], [], [], [221], [], [], [221], [], [220], [], [221], [], [], [], [220], [], [221], [], [218], [], [], [], [218], [], [221], []]) (by decide +kernel) (by decide +kernel)
set_option maxRecDepth 100000 in
theorem k77_ok : (kOf 77).all (eok 77) = true := by decide +kernel
set_option maxRecDepth 100000 in
theorem k77_in : ∀ e ∈ kOf 77, ∀ w ∈ needs 77 e, w ∈ lw_tbl ∧ okW w = true := pl_in (ps := [[], [], [], [288, 272, 46, 271], [], [287], [], [], [223], [], [555, 558, 50, 556, 557], []]) (by decide +kernel) (by decide +kernel)
set_option maxRecDepth 100000 in
theorem k78_ok : (kOf 78).all (eok 78) = true := by decide +kernel
set_option maxRecDepth 100000 in
theorem k78_in : ∀ e ∈ kOf 78, ∀ w ∈ needs 78 e, w ∈ lw_tbl ∧ okW w = true := pl_in (ps := [[], [223], [187], [], [], [223], [], [187], [], []]) (by decide +kernel) (by decide +kernel)
set_option maxRecDepth 100000 in
theorem k79_ok : (kOf 79).all (eok 79) = true := by decide +kernel
set_option maxRecDepth 100000 in
theorem k79_in : ∀ e ∈ kOf 79, ∀ w ∈ needs 79 e, w ∈ lw_tbl ∧ okW w = true := pl_in (ps := [[], [], [], [288, 272, 46, 271], [], [287], [], [], [223], [], [241, 244, 46, 243, 0], [568, 571, 50, 569, 570], [], [223], [191], [], [], [286], [], [], [], [], [223], [191], [], [], [223], [193], [], [], [223], [195], []]) (by decide +kernel) (by decide +kernel)
set_option maxRecDepth 100000 in
theorem k80_ok : (kOf 80).all (eok 80) = true := by decide +kernel
set_option maxRecDepth 100000 in
theorem k80_in : ∀ e ∈ kOf 80, ∀ w ∈ needs 80 e, w ∈ lw_tbl ∧ okW w = true := pl_in (ps := [[], [223], [], [241, 244, 46, 243, 0], [568, 571, 50, 569, 570], [], [], [223], [191], [], [], [], [223], [189], [], [550], [279, 282, 46, 281, 1], []]) (by decide +kernel) (by decide +kernel)
set_option maxRecDepth 100000 in
theorem k81_ok : (kOf 81).all (eok 81) = true := by decide +kernel
set_option maxRecDepth 100000 in
theorem k81_in : ∀ e ∈ kOf 81, ∀ w ∈ needs 81 e, w ∈ lw_tbl ∧ okW w = true := pl_in (ps := [[], [219], [], [218], [245, 248, 47, 246, 247], [], [219], []]) (by decide +kernel) (by decide +kernel)
set_option maxRecDepth 100000 in
theorem k82_ok : (kOf 82).all (eok 82) = true := by decide +kernel
set_option maxRecDepth 100000 in
theorem k82_in : ∀ e ∈ kOf 82, ∀ w ∈ needs 82 e, w ∈ lw_tbl ∧ okW w = true := pl_in (ps := [[], [283, 285, 46, 284], [], [], [], [], [221], [], [], [], [220], [], [221], [], [], [], [], [221], [], [], [221], [], [], [220], [], [], [], [], [], [], [], [], [], [220], [], [], [], [], [220], [], [], [], [], [], [], [220], [], [221], [], [], [], [218], [], [], [], [219], [218], [], [], [219], [], []]) (by decide +kernel) (by decide +kernel)
set_option maxRecDepth 100000 in
theorem k83_ok : (kOf 83).all (eok 83) = true := by decide +kernel
set_option maxRecDepth 100000 in
theorem k83_in : ∀ e ∈ kOf 83, ∀ w ∈ needs 83 e, w ∈ lw_tbl ∧ okW w = true := pl_in (ps := [[], [222], [], [218], [132], [], [], [496, 252, 48, 250, 251], [], [222], [], [218], [132], [], [], [497, 404, 48, 402, 403], []]) (by decide +kernel) (by decide +kernel)
set_option maxRecDepth 100000 in
theorem k84_ok : (kOf 84).all (eok 84) = true := by decide +kernel
set_option maxRecDepth 100000 in
theorem k84_in : ∀ e ∈ kOf 84, ∀ w ∈ needs 84 e, w ∈ lw_tbl ∧ okW w = true := pl_in (ps := [[], [], [], [], [], [], [], [], [], [], [], [218], [], [441, 269, 47, 267, 268], [], [], [], [], [], [492, 495, 46, 494, 5], [], [], [], [], [], []]) (by decide +kernel) (by decide +kernel)
set_option maxRecDepth 100000 in
theorem k85_ok : (kOf 85).all (eok 85) = true := by decide +kernel
set_option maxRecDepth 100000 in
theorem k85_in : ∀ e ∈ kOf 85, ∀ w ∈ needs 85 e, w ∈ lw_tbl ∧ okW w = true := pl_in (ps := [[], [], [], [], [], [], [], [], [], []]) (by decide +kernel) (by decide +kernel)
set_option maxRecDepth 100000 in
theorem k86_ok : (kOf 86).all (eok 86) = true := by decide +kernel
set_option maxRecDepth 100000 in
theorem k86_in : ∀ e ∈ kOf 86, ∀ w ∈ needs 86 e, w ∈ lw_tbl ∧ okW w = true := pl_in (ps := [[], [286], [287], [288, 272, 46, 271], []]) (by decide +kernel) (by decide +kernel)
set_option maxRecDepth 100000 in
theorem k87_ok : (kOf 87).all (eok 87) = true := by decide +kernel
set_option maxRecDepth 100000 in
theorem k87_in : ∀ e ∈ kOf 87, ∀ w ∈ needs 87 e, w ∈ lw_tbl ∧ okW w = true := pl_in (ps := [[], [612, 60, 61], [], [], [97], [613], [], [], [97], [614], [], [], [97], [615], [], [], [97], [616], [], [], [97], [619], [], [], [97], [627], [], [613], [], [], [], [], [613], [], [], [], [], [613], [], [], [], []]) (by decide +kernel) (by decide +kernel)
set_option maxRecDepth 100000 in
theorem k88_ok : (kOf 88).all (eok 88) = true := by decide +kernel
set_option maxRecDepth 100000 in
theorem k88_in : ∀ e ∈ kOf 88, ∀ w ∈ needs 88 e, w ∈ lw_tbl ∧ okW w = true := pl_in (ps := [[], [], [], [], [], [], [], [], [], []]) (by decide +kernel) (by decide +kernel)
set_option maxRecDepth 100000 in
theorem k89_ok : (kOf 89).all (eok 89) = true := by decide +kernel
set_option maxRecDepth 100000 in
theorem k89_in : ∀ e ∈ kOf 89, ∀ w ∈ needs 89 e, w ∈ lw_tbl ∧ okW w = true := pl_in (ps := [[], [], [], [], [], [], [], [], [], [], [], [], [], []]) (by decide +kernel) (by decide +kernel)
set_option maxRecDepth 100000 in
theorem k90_ok : (kOf 90).all (eok 90) = true := by decide +kernel
set_option maxRecDepth 100000 in
theorem k90_in : ∀ e ∈ kOf 90, ∀ w ∈ needs 90 e, w ∈ lw_tbl ∧ okW w = true := pl_in (ps := [[], [618], [], [], [], [617], [], [], [], [], [], [], [], [], [614], [], [], [614], [], [], [], [], [], [], [], [], [], [617], [], [], [617], [], [], [], [], [], [], [614], [], [], [617], [], [], [], [], [613], [], [], [], [], [], [], [], [617], [], [], [617], []]) (by decide +kernel) (by decide +kernel)
set_option maxRecDepth 100000 in
theorem k91_ok : (kOf 91).all (eok 91) = true := by decide +kernel
set_option maxRecDepth 100000 in
theorem k91_in : ∀ e ∈ kOf 91, ∀ w ∈ needs 91 e, w ∈ lw_tbl ∧ okW w = true := pl_in (ps := [[], [], [], [], [], [], [], []]) (by decide +kernel) (by decide +kernel)
set_option maxRecDepth 100000 in
theorem k92_ok : (kOf 92).all (eok 92) = true := by decide +kernel
set_option maxRecDepth 100000 in
theorem k92_in : ∀ e ∈ kOf 92, ∀ w ∈ needs 92 e, w ∈ lw_tbl ∧ okW w = true := pl_in (ps := [[], [], [], [], [], [], [], []]) (by decide +kernel) (by decide +kernel)
set_option maxRecDepth 100000 in
theorem k93_ok : (kOf 93).all (eok 93) = true := by decide +kernel
set_option maxRecDepth 100000 in
theorem k93_in : ∀ e ∈ kOf 93, ∀ w ∈ needs 93 e, w ∈ lw_tbl ∧ okW w = true := pl_in (ps := [[], [], [], [], [], [], [], []]) (by decide +kernel) (by decide +kernel)
set_option maxRecDepth 100000 in
theorem k94_ok : (kOf 94).all (eok 94) = true := by decide +kernel
set_option maxRecDepth 100000 in
theorem k94_in : ∀ e ∈ kOf 94, ∀ w ∈ needs 94 e, w ∈ lw_tbl ∧ okW w = true := pl_in (ps := [[], [], [], [667, 669, 51, 668], [], [], [613], [], [], [], [], [], [], [], [], [], [], []]) (by decide +kernel) (by decide +kernel)
set_option maxRecDepth 100000 in
theorem k95_ok : (kOf 95).all (eok 95) = true := by decide +kernel
set_option maxRecDepth 100000 in
theorem k95_in : ∀ e ∈ kOf 95, ∀ w ∈ needs 95 e, w ∈ lw_tbl ∧ okW w = true := pl_in (ps := [[], [], [], [], [613], [], [], [], [], [], [], []]) (by decide +kernel) (by decide +kernel)
set_option maxRecDepth 100000 in
theorem k96_ok : (kOf 96).all (eok 96) = true := by decide +kernel
set_option maxRecDepth 100000 in
theorem k96_in : ∀ e ∈ kOf 96, ∀ w ∈ needs 96 e, w ∈ lw_tbl ∧ okW w = true := pl_in (ps := [[], [613], [], [], [], [], [], [], [], [], []]) (by decide +kernel) (by decide +kernel)
set_option maxRecDepth 100000 in
theorem k97_ok : (kOf 97).all (eok 97) = true := by decide +kernel
set_option maxRecDepth 100000 in
theorem k97_in : ∀ e ∈ kOf 97, ∀ w ∈ needs 97 e, w ∈ lw_tbl ∧ okW w = true := pl_in (ps := [[], [], [], [694, 697, 51, 696, 17], [], [], [], [], []]) (by decide +kernel) (by decide +kernel)
set_option maxRecDepth 100000 in
theorem k98_ok : (kOf 98).all (eok 98) = true := by decide +kernel
set_option maxRecDepth 100000 in
theorem k98_in : ∀ e ∈ kOf 98, ∀ w ∈ needs 98 e, w ∈ lw_tbl ∧ okW w = true := pl_in (ps := [[], [], [], [], [], [], [], [], [], [679, 681, 51, 680], [], [], [], [613], [], [], [], [], [], [], [], [], [613], [], [], [], [], [], [613], [], [], [], [], [], [], [], [613], [], [], [], [], [], [], [], [], [], []]) (by decide +kernel) (by decide +kernel)
set_option maxRecDepth 100000 in
theorem k99_ok : (kOf 99).all (eok 99) = true := by decide +kernel
set_option maxRecDepth 100000 in
theorem k99_in : ∀ e ∈ kOf 99, ∀ w ∈ needs 99 e, w ∈ lw_tbl ∧ okW w = true := pl_in (ps := [[], [], [], [], [], [], [], [], [], [], [], [], [], [], [], []]) (by decide +kernel) (by decide +kernel)
set_option maxRecDepth 100000 in
theorem k100_ok : (kOf 100).all (eok 100) = true := by decide +kernel
set_option maxRecDepth 100000 in
theorem k100_in : ∀ e ∈ kOf 100, ∀ w ∈ needs 100 e, w ∈ lw_tbl ∧ okW w = true := pl_in (ps := [[], [], [], [], [], [], [], [], [], [], [663, 666, 51, 665, 13], [], [], [], [], [], [], [], [], [], [], [], []]) (by decide +kernel) (by decide +kernel)
set_option maxRecDepth 100000 in
theorem k101_ok : (kOf 101).all (eok 101) = true := by decide +kernel
set_option maxRecDepth 100000 in
theorem k101_in : ∀ e ∈ kOf 101, ∀ w ∈ needs 101 e, w ∈ lw_tbl ∧ okW w = true := pl_in (ps := [[], [], [], [], [], [], [613], [], [], [], [], [], [], [690, 693, 51, 692, 16], [], [], [], [], [], [], [], [], [], []]) (by decide +kernel) (by decide +kernel)
set_option maxRecDepth 100000 in
theorem k102_0_ok : (K102_0).all (eok 102) = true := by decide +kernel
set_option maxRecDepth 100000 in
theorem k102_0_in : ∀ e ∈ K102_0, ∀ w ∈ needs 102 e, w ∈ lw_tbl ∧ okW w = true := pl_in (ps := [[], [613], [], [], [], [613], [], [], [], [], [], [], [], [], [], [], [], [], [], [679, 681, 51, 680], [], [], [], [679, 681, 51, 680], [], [], [613], [], [], [], [], [613], [], [], [], [], [], [613], [], []]) (by decide +kernel) (by decide +kernel)
set_option maxRecDepth 100000 in
theorem k102_1_ok : (K102_1).all (eok 102) = true := by decide +kernel
set_option maxRecDepth 100000 in
theorem k102_1_in : ∀ e ∈ K102_1, ∀ w ∈ needs 102 e, w ∈ lw_tbl ∧ okW w = true := pl_in (ps := [[613], [], [], [], [], [613], [], [], [], [], [613], [], [], [], [], [], [], [613], [], [], [], [], [613], [], [], [], [], [], [], [], [], [], [], [], [], [], [], [719, 722, 51, 721, 21], [], []]) (by decide +kernel) (by decide +kernel)
set_option maxRecDepth 100000 in
theorem k102_2_ok : (K102_2).all (eok 102) = true := by decide +kernel
set_option maxRecDepth 100000 in
theorem k102_2_in : ∀ e ∈ K102_2, ∀ w ∈ needs 102 e, w ∈ lw_tbl ∧ okW w = true := pl_in (ps := [[613], [], [], [], [], [], [], [], [], [], [], [], [], [613], [], [], [], [], []]) (by decide +kernel) (by decide +kernel)
theorem k102_ok : (kOf 102).all (eok 102) = true := by
  show (K102_0 ++ (K102_1 ++ (K102_2))).all (eok 102) = true
  simp only [List.all_append, k102_0_ok, k102_1_ok, k102_2_ok, Bool.and_self]
theorem k102_in : ∀ e ∈ kOf 102, ∀ w ∈ needs 102 e, w ∈ lw_tbl ∧ okW w = true := by
  show ∀ e ∈ K102_0 ++ (K102_1 ++ (K102_2)), ∀ w ∈ needs 102 e, w ∈ lw_tbl ∧ okW w = true
  exact List.forall_mem_append.mpr ⟨k102_0_in, List.forall_mem_append.mpr ⟨k102_1_in, k102_2_in⟩⟩
set_option maxRecDepth 100000 in
theorem k103_ok : (kOf 103).all (eok 103) = true := by decide +kernel
set_option maxRecDepth 100000 in
theorem k103_in : ∀ e ∈ kOf 103, ∀ w ∈ needs 103 e, w ∈ lw_tbl ∧ okW w = true := pl_in (ps := [[], [613], [], [], [], [], [613], [], [], [], [], [], [], [613], [], [], [], [], [], []]) (by decide +kernel) (by decide +kernel)
set_option maxRecDepth 100000 in
theorem k104_ok : (kOf 104).all (eok 104) = true := by decide +kernel
set_option maxRecDepth 100000 in
theorem k104_in : ∀ e ∈ kOf 104, ∀ w ∈ needs 104 e, w ∈ lw_tbl ∧ okW w = true := pl_in (ps := [[], [613], [], [], [], [613], [], [], [], [], [], [], [], [], [], [], [], [], [], [], [], [613], [], [], [679, 681, 51, 680], [], [], [613], [], [], [679, 681, 51, 680], [], [], [], [], [], [], [], [], [], []]) (by decide +kernel) (by decide +kernel)
set_option maxRecDepth 100000 in
theorem k105_ok : (kOf 105).all (eok 105) = true := by decide +kernel
set_option maxRecDepth 100000 in
theorem k105_in : ∀ e ∈ kOf 105, ∀ w ∈ needs 105 e, w ∈ lw_tbl ∧ okW w = true := pl_in (ps := [[], [], [663, 666, 51, 665, 13], [], [670], [], [], [613], [], [], [], [], [], [], [671], [], [], [672, 675, 51, 674, 14], [], [613], [], [], [], [], [], [], [], [], [], [], [613], [], [], [], [], [], [], [], [], [], [], [613], [], [676, 678, 51, 677], [], [679, 681, 51, 680], [], [], [], [613], [], [], [], [], [], [], [], []]) (by decide +kernel) (by decide +kernel)
set_option maxRecDepth 100000 in
theorem k106_ok : (kOf 106).all (eok 106) = true := by decide +kernel
set_option maxRecDepth 100000 in
theorem k106_in : ∀ e ∈ kOf 106, ∀ w ∈ needs 106 e, w ∈ lw_tbl ∧ okW w = true := pl_in (ps := [[], [], [], [694, 697, 51, 696, 17], [676, 678, 51, 677], [], [679, 681, 51, 680], []]) (by decide +kernel) (by decide +kernel)
set_option maxRecDepth 100000 in
theorem k107_ok : (kOf 107).all (eok 107) = true := by decide +kernel
set_option maxRecDepth 100000 in
theorem k107_in : ∀ e ∈ kOf 107, ∀ w ∈ needs 107 e, w ∈ lw_tbl ∧ okW w = true := pl_in (ps := [[], [672, 675, 51, 674, 14], [], [], [703, 706, 51, 705, 19], [], [], [613], [], [], [], [], [], [], [], [613], [], [], [], [], [], [], [], [], [], [613], [], [], [], [], [], [], [], [], [], [], [], [], [694, 697, 51, 696, 17], [676, 678, 51, 677], [], [707, 710, 51, 709, 20], []]) (by decide +kernel) (by decide +kernel)
set_option maxRecDepth 100000 in
theorem k108_ok : (kOf 108).all (eok 108) = true := by decide +kernel
set_option maxRecDepth 100000 in
theorem k108_in : ∀ e ∈ kOf 108, ∀ w ∈ needs 108 e, w ∈ lw_tbl ∧ okW w = true := pl_in (ps := [[], [], [686, 689, 51, 688, 15], [], [], [], [], [667, 669, 51, 668], [], [670], [], [], [], [690, 693, 51, 692, 16], [], [698], [], [], [], [], [], [699, 702, 51, 701, 18], []]) (by decide +kernel) (by decide +kernel)
set_option maxRecDepth 100000 in
theorem k109_ok : (kOf 109).all (eok 109) = true := by decide +kernel
set_option maxRecDepth 100000 in
theorem k109_in : ∀ e ∈ kOf 109, ∀ w ∈ needs 109 e, w ∈ lw_tbl ∧ okW w = true := pl_in (ps := [[], [], [686, 689, 51, 688, 15], [], [], [], [], [667, 669, 51, 668], [], [670], [], [], [], [690, 693, 51, 692, 16], [], [], [], [], [], [694, 697, 51, 696, 17], [676, 678, 51, 677], [], [707, 710, 51, 709, 20], [], [], [698], [], [], [], [], [], [699, 702, 51, 701, 18], []]) (by decide +kernel) (by decide +kernel)
set_option maxRecDepth 100000 in
theorem k110_0_ok : (K110_0).all (eok 110) = true := by decide +kernel
set_option maxRecDepth 100000 in
theorem k110_0_in : ∀ e ∈ K110_0, ∀ w ∈ needs 110 e, w ∈ lw_tbl ∧ okW w = true := pl_in (ps := [[], [], [686, 689, 51, 688, 15], [], [], [], [686, 689, 51, 688, 15], [], [], [], [], [670], [], [], [], [690, 693, 51, 692, 16], [], [], [], [690, 693, 51, 692, 16], [], [], [], [], [694, 697, 51, 696, 17], [], [], [], [694, 697, 51, 696, 17], [], [698], [], [], [672, 675, 51, 674, 14], [], [], [703, 706, 51, 705, 19], [], [], []]) (by decide +kernel) (by decide +kernel)
set_option maxRecDepth 100000 in
theorem k110_1_ok : (K110_1).all (eok 110) = true := by decide +kernel
set_option maxRecDepth 100000 in
theorem k110_1_in : ∀ e ∈ K110_1, ∀ w ∈ needs 110 e, w ∈ lw_tbl ∧ okW w = true := pl_in (ps := [[703, 706, 51, 705, 19], [], [], [613], [], [], [], [], [], [], [], [613], [], [], [], [], [], [], [613], [], [], [], [], [], [], [], [613], [], [], [], [], [], [], [613], [], [], [], [], [], []]) (by decide +kernel) (by decide +kernel)
set_option maxRecDepth 100000 in
theorem k110_2_ok : (K110_2).all (eok 110) = true := by decide +kernel
set_option maxRecDepth 100000 in
theorem k110_2_in : ∀ e ∈ K110_2, ∀ w ∈ needs 110 e, w ∈ lw_tbl ∧ okW w = true := pl_in (ps := [[], [], [719, 722, 51, 721, 21], [], [613], [], [], [], [694, 697, 51, 696, 17], [676, 678, 51, 677], [], [], [], [], [], [], [], [], [613], [], [], [], [], [], [], [], [], [], [], [723, 726, 51, 725, 22], []]) (by decide +kernel) (by decide +kernel)
theorem k110_ok : (kOf 110).all (eok 110) = true := by
  show (K110_0 ++ (K110_1 ++ (K110_2))).all (eok 110) = true
  simp only [List.all_append, k110_0_ok, k110_1_ok, k110_2_ok, Bool.and_self]
theorem k110_in : ∀ e ∈ kOf 110, ∀ w ∈ needs 110 e, w ∈ lw_tbl ∧ okW w = true := by
  show ∀ e ∈ K110_0 ++ (K110_1 ++ (K110_2)), ∀ w ∈ needs 110 e, w ∈ lw_tbl ∧ okW w = true
  exact List.forall_mem_append.mpr ⟨k110_0_in, List.forall_mem_append.mpr ⟨k110_1_in, k110_2_in⟩⟩
set_option maxRecDepth 100000 in
theorem k111_ok : (kOf 111).all (eok 111) = true := by decide +kernel
set_option maxRecDepth 100000 in
theorem k111_in : ∀ e ∈ kOf 111, ∀ w ∈ needs 111 e, w ∈ lw_tbl ∧ okW w = true := pl_in (ps := [[], [], [686, 689, 51, 688, 15], [], [], [], [663, 666, 51, 665, 13], [], [670], [], [], [], [], [694, 697, 51, 696, 17], [], [], [], [690, 693, 51, 692, 16], [], [], [], [], [], [613], [], [676, 678, 51, 677], [], [679, 681, 51, 680], [], [], [613], [], [], [703, 706, 51, 705, 19], [], [], [698], [], [], [672, 675, 51, 674, 14], [], [613], [], [], [], [], [], [], [], [], [], [], []]) (by decide +kernel) (by decide +kernel)
