set_option maxRecDepth 100000 in
theorem k0_ok : (kOf 0).all (eok 0) = true := by decide +kernel
set_option maxRecDepth 100000 in
theorem k0_in : ∀ e ∈ kOf 0, ∀ w ∈ needs 0 e, w ∈ lw_tbl ∧ okW w = true := pl_in (ps := [[], [76, 60, 61], [], [], [97], [77], [], [], [97], [80], [], [], [97], [83], [], [], [86], []]) (by decide +kernel) (by decide +kernel)
set_option maxRecDepth 100000 in
theorem k1_ok : (kOf 1).all (eok 1) = true := by decide +kernel
set_option maxRecDepth 100000 in
theorem k1_in : ∀ e ∈ kOf 1, ∀ w ∈ needs 1 e, w ∈ lw_tbl ∧ okW w = true := pl_in (ps := [[], [77], [], [], [77], [], [], [253, 255, 254, 52], [], [80], [], [], [80], [], [], [253, 255, 254, 52], [], [83], [], [], [83], [], [], [253, 255, 254, 52], [], [], [86], [86], []]) (by decide +kernel) (by decide +kernel)
set_option maxRecDepth 100000 in
theorem k2_ok : (kOf 2).all (eok 2) = true := by decide +kernel
set_option maxRecDepth 100000 in
theorem k2_in : ∀ e ∈ kOf 2, ∀ w ∈ needs 2 e, w ∈ lw_tbl ∧ okW w = true := pl_in (ps := [[], [], [], [], [], [], [], [343, 346, 48, 344, 345], [], [], [], [], [86], []]) (by decide +kernel) (by decide +kernel)
set_option maxRecDepth 100000 in
theorem k3_ok : (kOf 3).all (eok 3) = true := by decide +kernel
set_option maxRecDepth 100000 in
theorem k3_in : ∀ e ∈ kOf 3, ∀ w ∈ needs 3 e, w ∈ lw_tbl ∧ okW w = true := pl_in (ps := [[], [77], [], [], [], [], [80], [], [], [], [], [83], [], [], [], []]) (by decide +kernel) (by decide +kernel)
set_option maxRecDepth 100000 in
theorem k4_ok : (kOf 4).all (eok 4) = true := by decide +kernel
set_option maxRecDepth 100000 in
theorem k4_in : ∀ e ∈ kOf 4, ∀ w ∈ needs 4 e, w ∈ lw_tbl ∧ okW w = true := pl_in (ps := [[], [77], [], [], [], [], [], [], []]) (by decide +kernel) (by decide +kernel)
set_option maxRecDepth 100000 in
theorem k5_ok : (kOf 5).all (eok 5) = true := by decide +kernel
set_option maxRecDepth 100000 in
theorem k5_in : ∀ e ∈ kOf 5, ∀ w ∈ needs 5 e, w ∈ lw_tbl ∧ okW w = true := pl_in (ps := [[], [86], [], [], [], [], [], [], [], [], []]) (by decide +kernel) (by decide +kernel)
set_option maxRecDepth 100000 in
theorem k6_ok : (kOf 6).all (eok 6) = true := by decide +kernel
set_option maxRecDepth 100000 in
theorem k6_in : ∀ e ∈ kOf 6, ∀ w ∈ needs 6 e, w ∈ lw_tbl ∧ okW w = true := pl_in (ps := [[], [77], [], [], [], [], [], [], [], [80], [], [], [], [], [], [], [], [83], [], [], [], [], [], [], []]) (by decide +kernel) (by decide +kernel)
set_option maxRecDepth 100000 in
theorem k7_ok : (kOf 7).all (eok 7) = true := by decide +kernel
set_option maxRecDepth 100000 in
theorem k7_in : ∀ e ∈ kOf 7, ∀ w ∈ needs 7 e, w ∈ lw_tbl ∧ okW w = true := pl_in (ps := [[], [], [], [80], [], [], [], [83], [], [], [342, 278, 48, 276, 277], [], [], [343, 346, 48, 344, 345], [], [], [86], [], [], [], [], [86], []]) (by decide +kernel) (by decide +kernel)
set_option maxRecDepth 100000 in
theorem k8_ok : (kOf 8).all (eok 8) = true := by decide +kernel
set_option maxRecDepth 100000 in
theorem k8_in : ∀ e ∈ kOf 8, ∀ w ∈ needs 8 e, w ∈ lw_tbl ∧ okW w = true := pl_in (ps := [[], [], [86], [], [86], [], [86], [], [], [], [], [], [], [], [], [77], [], [], [], [], [], [405, 408, 48, 406, 407], [], [], [], [343, 346, 48, 344, 345], [], [], [77], [], [], [], [], [], [77], [], [], [77], [], [], [], [], [80], [], [], [80], [], [], [], [], [83], [], [], [83], [], [], [], [], [77], [], [], [], [], [], [], [], [], []]) (by decide +kernel) (by decide +kernel)
set_option maxRecDepth 100000 in
theorem k9_ok : (kOf 9).all (eok 9) = true := by decide +kernel
set_option maxRecDepth 100000 in
theorem k9_in : ∀ e ∈ kOf 9, ∀ w ∈ needs 9 e, w ∈ lw_tbl ∧ okW w = true := pl_in (ps := [[], [], [], [], [], [], [77], [], [], [], [77], [], [], [], [], [], [], [], [], [86], [], [86], [], [], [], [], []]) (by decide +kernel) (by decide +kernel)
set_option maxRecDepth 100000 in
theorem k10_ok : (kOf 10).all (eok 10) = true := by decide +kernel
set_option maxRecDepth 100000 in
theorem k10_in : ∀ e ∈ kOf 10, ∀ w ∈ needs 10 e, w ∈ lw_tbl ∧ okW w = true := pl_in (ps := [[], [], [], [], [], [], [], [], [], [80], [], [], [], [], [], [], [], []]) (by decide +kernel) (by decide +kernel)
set_option maxRecDepth 100000 in
theorem k11_ok : (kOf 11).all (eok 11) = true := by decide +kernel
set_option maxRecDepth 100000 in
theorem k11_in : ∀ e ∈ kOf 11, ∀ w ∈ needs 11 e, w ∈ lw_tbl ∧ okW w = true := pl_in (ps := [[], [], [], [], [], [], [], [], [], [83], [], [], [], [], [], [], [], []]) (by decide +kernel) (by decide +kernel)
set_option maxRecDepth 100000 in
theorem k12_ok : (kOf 12).all (eok 12) = true := by decide +kernel
set_option maxRecDepth 100000 in
theorem k12_in : ∀ e ∈ kOf 12, ∀ w ∈ needs 12 e, w ∈ lw_tbl ∧ okW w = true := pl_in (ps := [[], [314, 317, 48, 315, 316], [], [318, 321, 48, 319, 320], [], []]) (by decide +kernel) (by decide +kernel)
set_option maxRecDepth 100000 in
theorem k13_ok : (kOf 13).all (eok 13) = true := by decide +kernel
set_option maxRecDepth 100000 in
theorem k13_in : ∀ e ∈ kOf 13, ∀ w ∈ needs 13 e, w ∈ lw_tbl ∧ okW w = true := pl_in (ps := [[], [], [], [], [], [], [], [], [], [449, 452, 48, 450, 451], [], [], [], [], [], [], [], [], [], [], []]) (by decide +kernel) (by decide +kernel)
set_option maxRecDepth 100000 in
theorem k14_ok : (kOf 14).all (eok 14) = true := by decide +kernel
set_option maxRecDepth 100000 in
theorem k14_in : ∀ e ∈ kOf 14, ∀ w ∈ needs 14 e, w ∈ lw_tbl ∧ okW w = true := pl_in (ps := [[], [102, 60, 61], [], [], [105], [], [], [108], [], [], [111], [], [], [114], [], [103, 72, 48], [], [104, 75, 48, 74], [117], []]) (by decide +kernel) (by decide +kernel)
set_option maxRecDepth 100000 in
theorem k15_ok : (kOf 15).all (eok 15) = true := by decide +kernel
set_option maxRecDepth 100000 in
theorem k15_in : ∀ e ∈ kOf 15, ∀ w ∈ needs 15 e, w ∈ lw_tbl ∧ okW w = true := pl_in (ps := [[], [], [105], [105], [], [], [108], [108], [], [], [111], [111], [], [], [114], [114], [], [117], [], [117], [260, 252, 48, 250, 251], []]) (by decide +kernel) (by decide +kernel)
set_option maxRecDepth 100000 in
theorem k16_ok : (kOf 16).all (eok 16) = true := by decide +kernel
set_option maxRecDepth 100000 in
theorem k16_in : ∀ e ∈ kOf 16, ∀ w ∈ needs 16 e, w ∈ lw_tbl ∧ okW w = true := pl_in (ps := [[], [184, 60, 61], [], [], [97], [185], [], [], [186], [], [], [188], [], [], [190], [], [], [192], [], [], [194], [], [], [196], [], [], [97], [197], [], [], [198], []]) (by decide +kernel) (by decide +kernel)
set_option maxRecDepth 100000 in
theorem k17_ok : (kOf 17).all (eok 17) = true := by decide +kernel
set_option maxRecDepth 100000 in
theorem k17_in : ∀ e ∈ kOf 17, ∀ w ∈ needs 17 e, w ∈ lw_tbl ∧ okW w = true := pl_in (ps := [[], [186], [], [], [559], [], [], [185], [], [186], [], [], [], [], [186], [], [], [186], [], [186], []]) (by decide +kernel) (by decide +kernel)
set_option maxRecDepth 100000 in
theorem k18_ok : (kOf 18).all (eok 18) = true := by decide +kernel
set_option maxRecDepth 100000 in
theorem k18_in : ∀ e ∈ kOf 18, ∀ w ∈ needs 18 e, w ∈ lw_tbl ∧ okW w = true := pl_in (ps := [[], [], [190], [], [], [], [], [188], [], [188], [], [], [], [], [186], [], [], [], [572, 575, 50, 574, 8], [], [], [], [], [], [198], [], [], [588, 591, 50, 590, 11], [], [], [], [592, 595, 50, 594, 12], [], [], [602, 285, 46, 284], [], [], [], [], [], [588, 591, 50, 590, 11], [], [], [198], [], [], [], [188], [], [], [188], [], []]) (by decide +kernel) (by decide +kernel)
set_option maxRecDepth 100000 in
theorem k19_ok : (kOf 19).all (eok 19) = true := by decide +kernel
set_option maxRecDepth 100000 in
theorem k19_in : ∀ e ∈ kOf 19, ∀ w ∈ needs 19 e, w ∈ lw_tbl ∧ okW w = true := pl_in (ps := [[], [], [190], [], [], [192], [], [], [194], []]) (by decide +kernel) (by decide +kernel)
set_option maxRecDepth 100000 in
theorem k20_ok : (kOf 20).all (eok 20) = true := by decide +kernel
set_option maxRecDepth 100000 in
theorem k20_in : ∀ e ∈ kOf 20, ∀ w ∈ needs 20 e, w ∈ lw_tbl ∧ okW w = true := pl_in (ps := [[], [], [198], [], [], [185], [], [], [196], [], [196], [576, 578, 50, 577], [], [], [], [], [], [], [], [198], [], [], [198], [], [], [], [], [], [], [], [579, 582, 50, 581, 9], [], [], [], [], [], [], [], [], [], [], [584, 587, 50, 586, 10], [], [], [], [], [], [], []]) (by decide +kernel) (by decide +kernel)
set_option maxRecDepth 100000 in
theorem k21_ok : (kOf 21).all (eok 21) = true := by decide +kernel
set_option maxRecDepth 100000 in
theorem k21_in : ∀ e ∈ kOf 21, ∀ w ∈ needs 21 e, w ∈ lw_tbl ∧ okW w = true := pl_in (ps := [[], [], [], [], [], [], [], [], [], []]) (by decide +kernel) (by decide +kernel)
set_option maxRecDepth 100000 in
theorem k22_ok : (kOf 22).all (eok 22) = true := by decide +kernel
set_option maxRecDepth 100000 in
theorem k22_in : ∀ e ∈ kOf 22, ∀ w ∈ needs 22 e, w ∈ lw_tbl ∧ okW w = true := pl_in (ps := [[], [], [], [], [], [], [], [], [198], [], [186], [], [], [185], [], [198], [], [], [], [583, 272, 46, 271], [], [], [], [], [], [185], [], [198], [], [], [], [], [], [], [], [], [198], [], [], [198], [], [], [197], [], [], [], [], [], [], [], [], []]) (by decide +kernel) (by decide +kernel)
set_option maxRecDepth 100000 in
theorem k23_ok : (kOf 23).all (eok 23) = true := by decide +kernel
set_option maxRecDepth 100000 in
theorem k23_in : ∀ e ∈ kOf 23, ∀ w ∈ needs 23 e, w ∈ lw_tbl ∧ okW w = true := pl_in (ps := [[], [198], [], [186], [], [], [185], [], [198], [], [], [], [], [], [], [], [198], [], [], [198], [], []]) (by decide +kernel) (by decide +kernel)
set_option maxRecDepth 100000 in
theorem k24_ok : (kOf 24).all (eok 24) = true := by decide +kernel
set_option maxRecDepth 100000 in
theorem k24_in : ∀ e ∈ kOf 24, ∀ w ∈ needs 24 e, w ∈ lw_tbl ∧ okW w = true := pl_in (ps := [[], [196], [], [], [], [197], [], [], [596, 265, 47, 263, 264], [], [], [], [197], [], [], [], [197], [], [], [597, 296, 47, 294, 295], [], [], [], [197], [], [], [], [197], [], [], [598, 329, 47, 327, 328], [], [], [], [197], [], [], [], [197], [], [], [599, 337, 47, 335, 336], [], [], [], [197], [], [], [], [197], [], [], [], [197], [], [], [600, 416, 47, 414, 415], [], [], [], [197], [], [], [601, 428, 47, 426, 427], []]) (by decide +kernel) (by decide +kernel)
set_option maxRecDepth 100000 in
theorem k25_ok : (kOf 25).all (eok 25) = true := by decide +kernel
set_option maxRecDepth 100000 in
theorem k25_in : ∀ e ∈ kOf 25, ∀ w ∈ needs 25 e, w ∈ lw_tbl ∧ okW w = true := pl_in (ps := [[], [67, 60, 61], [], [], [68, 69], [131], [], [], [133], [], [], [97], [135], [], [], [97], [137], [], [], [139], [], [], [70, 71], [141], [], [], [143], [], [], [145], [], [], [147], [], [], [149], [], [], [151], [], [], [], [], [], [], [131], [], [68, 72, 48], [], [73, 75, 48, 74], [], [], [], [], [], [], [], [], [], [141], [], [70, 98, 49], [], [99, 101, 49, 100], [], [], [], []]) (by decide +kernel) (by decide +kernel)
set_option maxRecDepth 100000 in
theorem k26_ok : (kOf 26).all (eok 26) = true := by decide +kernel
set_option maxRecDepth 100000 in
theorem k26_in : ∀ e ∈ kOf 26, ∀ w ∈ needs 26 e, w ∈ lw_tbl ∧ okW w = true := pl_in (ps := [[], [], [], [], [], [], [131], [], [], [], [131], [], [], [249, 252, 48, 250, 251], [], [], [], [], [], [], [], [], [141], [], [], [], [141], [], [], [256, 259, 49, 257, 258], [], [], [], [135], [], [], [135], [], [], [261, 255, 254, 52], [], [137], [], [], [137], [], [], [261, 255, 254, 52], [], [], [133], [133], [], [], [139], [139], [], [], [143], [143], [], [], [145], [145], [], [], [147], [147], [], [], [149], [149], [], [], [151], [151], []]) (by decide +kernel) (by decide +kernel)
set_option maxRecDepth 100000 in
theorem k27_ok : (kOf 27).all (eok 27) = true := by decide +kernel
set_option maxRecDepth 100000 in
theorem k27_in : ∀ e ∈ kOf 27, ∀ w ∈ needs 27 e, w ∈ lw_tbl ∧ okW w = true := pl_in (ps := [[], [], [], [270, 272, 46, 271], [], [], [133], [], [], [], [], [], [], [], [], []]) (by decide +kernel) (by decide +kernel)
set_option maxRecDepth 100000 in
theorem k28_ok : (kOf 28).all (eok 28) = true := by decide +kernel
set_option maxRecDepth 100000 in
theorem k28_in : ∀ e ∈ kOf 28, ∀ w ∈ needs 28 e, w ∈ lw_tbl ∧ okW w = true := pl_in (ps := [[], [], [], [139], [], [], [270, 272, 46, 271], []]) (by decide +kernel) (by decide +kernel)
set_option maxRecDepth 100000 in
theorem k29_ok : (kOf 29).all (eok 29) = true := by decide +kernel
set_option maxRecDepth 100000 in
theorem k29_in : ∀ e ∈ kOf 29, ∀ w ∈ needs 29 e, w ∈ lw_tbl ∧ okW w = true := pl_in (ps := [[], [137], [], [], [], [], [], [], [], []]) (by decide +kernel) (by decide +kernel)
set_option maxRecDepth 100000 in
theorem k30_ok : (kOf 30).all (eok 30) = true := by decide +kernel
set_option maxRecDepth 100000 in
theorem k30_in : ∀ e ∈ kOf 30, ∀ w ∈ needs 30 e, w ∈ lw_tbl ∧ okW w = true := pl_in (ps := [[], [133], [387, 389, 53, 388], []]) (by decide +kernel) (by decide +kernel)
set_option maxRecDepth 100000 in
theorem k31_ok : (kOf 31).all (eok 31) = true := by decide +kernel
set_option maxRecDepth 100000 in
theorem k31_in : ∀ e ∈ kOf 31, ∀ w ∈ needs 31 e, w ∈ lw_tbl ∧ okW w = true := pl_in (ps := [[], [], [], [], [], [], [139], [], [], [], [301, 304, 47, 302, 303], [], [], [], [], [], []]) (by decide +kernel) (by decide +kernel)
set_option maxRecDepth 100000 in
theorem k32_ok : (kOf 32).all (eok 32) = true := by decide +kernel
set_option maxRecDepth 100000 in
theorem k32_in : ∀ e ∈ kOf 32, ∀ w ∈ needs 32 e, w ∈ lw_tbl ∧ okW w = true := pl_in (ps := [[], [131], [], [135], [], [], [], []]) (by decide +kernel) (by decide +kernel)
set_option maxRecDepth 100000 in
theorem k33_ok : (kOf 33).all (eok 33) = true := by decide +kernel
set_option maxRecDepth 100000 in
theorem k33_in : ∀ e ∈ kOf 33, ∀ w ∈ needs 33 e, w ∈ lw_tbl ∧ okW w = true := pl_in (ps := [[], [], [306, 309, 47, 307, 308], [78], [], [], []]) (by decide +kernel) (by decide +kernel)
set_option maxRecDepth 100000 in
theorem k34_ok : (kOf 34).all (eok 34) = true := by decide +kernel
set_option maxRecDepth 100000 in
theorem k34_in : ∀ e ∈ kOf 34, ∀ w ∈ needs 34 e, w ∈ lw_tbl ∧ okW w = true := pl_in (ps := [[], [], [], [], [], [], [139], [], [], [135], [], [], [], [], [], [], [301, 304, 47, 302, 303], [], [], [], [], [], [], [], [], [], [], []]) (by decide +kernel) (by decide +kernel)
set_option maxRecDepth 100000 in
theorem k35_ok : (kOf 35).all (eok 35) = true := by decide +kernel
set_option maxRecDepth 100000 in
theorem k35_in : ∀ e ∈ kOf 35, ∀ w ∈ needs 35 e, w ∈ lw_tbl ∧ okW w = true := pl_in (ps := [[], [], [], [], [], [], [], [], [], [266, 269, 47, 267, 268], [], [], [131], [], [], [], [131], [], [], [459, 462, 48, 460, 461], [], [], [], [], [], [], [], [], [], [], []]) (by decide +kernel) (by decide +kernel)
set_option maxRecDepth 100000 in
theorem k36_ok : (kOf 36).all (eok 36) = true := by decide +kernel
set_option maxRecDepth 100000 in
theorem k36_in : ∀ e ∈ kOf 36, ∀ w ∈ needs 36 e, w ∈ lw_tbl ∧ okW w = true := pl_in (ps := [[], [], [], [], [], [], [], [], [], [266, 269, 47, 267, 268], [], [], [131], [], [], [78], [], [], [], [], [359, 362, 47, 360, 361], [], [], [], [], [], [], [], [], [], [], []]) (by decide +kernel) (by decide +kernel)
set_option maxRecDepth 100000 in
theorem k37_ok : (kOf 37).all (eok 37) = true := by decide +kernel
set_option maxRecDepth 100000 in
theorem k37_in : ∀ e ∈ kOf 37, ∀ w ∈ needs 37 e, w ∈ lw_tbl ∧ okW w = true := pl_in (ps := [[], [], [], [], [], [], [], [], [], [266, 269, 47, 267, 268], [], [], [131], [], [], [], [483, 408, 48, 406, 407], [], [], [], [], [], [], [], [], [], [], []]) (by decide +kernel) (by decide +kernel)
set_option maxRecDepth 100000 in
theorem k38_ok : (kOf 38).all (eok 38) = true := by decide +kernel
set_option maxRecDepth 100000 in
theorem k38_in : ∀ e ∈ kOf 38, ∀ w ∈ needs 38 e, w ∈ lw_tbl ∧ okW w = true := pl_in (ps := [[], [], [], [], [], [], [], [], [], [266, 269, 47, 267, 268], [], [], [], [], [131], [], [], [78], [], [], [], [78], [], [], [], [], [131], [], [], [], [], [], [], [], [], [], [], [82], [], [], [], [85], [], [], [], []]) (by decide +kernel) (by decide +kernel)
set_option maxRecDepth 100000 in
theorem k39_ok : (kOf 39).all (eok 39) = true := by decide +kernel
set_option maxRecDepth 100000 in
theorem k39_in : ∀ e ∈ kOf 39, ∀ w ∈ needs 39 e, w ∈ lw_tbl ∧ okW w = true := pl_in (ps := [[], [], [266, 269, 47, 267, 268], [], [273], [], [], [139], [], [], [274], [], [], [139], [], [], [], [139], [], [], [139], [], [135], [], [], [], [], [137], [], [], [], [], [131], [], [], [], [], [], [275, 278, 48, 276, 277], [], []]) (by decide +kernel) (by decide +kernel)
set_option maxRecDepth 100000 in
theorem k40_ok : (kOf 40).all (eok 40) = true := by decide +kernel
set_option maxRecDepth 100000 in
theorem k40_in : ∀ e ∈ kOf 40, ∀ w ∈ needs 40 e, w ∈ lw_tbl ∧ okW w = true := pl_in (ps := [[], [], [297, 300, 47, 298, 299], [], [], [], [], [270, 272, 46, 271], [], [273], [], [], [], [301, 304, 47, 302, 303], [], [305], [], [], [], [306, 309, 47, 307, 308], [], [], [], [275, 278, 48, 276, 277], [], [], [306, 309, 47, 307, 308], [310, 313, 48, 311, 312], []]) (by decide +kernel) (by decide +kernel)
set_option maxRecDepth 100000 in
theorem k41_ok : (kOf 41).all (eok 41) = true := by decide +kernel
set_option maxRecDepth 100000 in
theorem k41_in : ∀ e ∈ kOf 41, ∀ w ∈ needs 41 e, w ∈ lw_tbl ∧ okW w = true := pl_in (ps := [[], [], [297, 300, 47, 298, 299], [], [], [], [], [270, 272, 46, 271], [], [273], [], [], [], [301, 304, 47, 302, 303], [], [], [], [306, 309, 47, 307, 308], [310, 313, 48, 311, 312], [], [], [305], [], [], [], [306, 309, 47, 307, 308], [], [], [], [275, 278, 48, 276, 277], [], [], [306, 309, 47, 307, 308], [310, 313, 48, 311, 312], []]) (by decide +kernel) (by decide +kernel)
set_option maxRecDepth 100000 in
theorem k42_ok : (kOf 42).all (eok 42) = true := by decide +kernel
set_option maxRecDepth 100000 in
theorem k42_in : ∀ e ∈ kOf 42, ∀ w ∈ needs 42 e, w ∈ lw_tbl ∧ okW w = true := pl_in (ps := [[], [], [297, 300, 47, 298, 299], [], [], [], [297, 300, 47, 298, 299], [], [], [], [], [273], [], [], [], [301, 304, 47, 302, 303], [], [], [], [301, 304, 47, 302, 303], [], [], [135], [], [], [], [135], [], [], [], [305], [], [], [], [306, 309, 47, 307, 308], [], [], [338, 341, 48, 339, 340], [], [137], [], [], [], [], [347, 350, 47, 348, 349], []]) (by decide +kernel) (by decide +kernel)
set_option maxRecDepth 100000 in
theorem k43_ok : (kOf 43).all (eok 43) = true := by decide +kernel
set_option maxRecDepth 100000 in
theorem k43_in : ∀ e ∈ kOf 43, ∀ w ∈ needs 43 e, w ∈ lw_tbl ∧ okW w = true := pl_in (ps := [[], [], [297, 300, 47, 298, 299], [], [], [], [266, 269, 47, 267, 268], [], [273], [], [], [], [301, 304, 47, 302, 303], [], [], [135], [], [], [], [], [], [131], [], [], [78], [], [], [], [], [359, 362, 47, 360, 361], [], [305], [], [], [135], [], [], [], [], [135], [], [], [], [], []]) (by decide +kernel) (by decide +kernel)
set_option maxRecDepth 100000 in
theorem k44_ok : (kOf 44).all (eok 44) = true := by decide +kernel
set_option maxRecDepth 100000 in
theorem k44_in : ∀ e ∈ kOf 44, ∀ w ∈ needs 44 e, w ∈ lw_tbl ∧ okW w = true := pl_in (ps := [[], [], [266, 269, 47, 267, 268], [], [273], [], [], [], [], [], [], [], [], [266, 269, 47, 267, 268], [], [], [], [133], [], [], [], [], [133], [], [131], [], [], [], [131], [], [], [249, 252, 48, 250, 251], [], [], [], [], [274], []]) (by decide +kernel) (by decide +kernel)
set_option maxRecDepth 100000 in
theorem k45_ok : (kOf 45).all (eok 45) = true := by decide +kernel
set_option maxRecDepth 100000 in
theorem k45_in : ∀ e ∈ kOf 45, ∀ w ∈ needs 45 e, w ∈ lw_tbl ∧ okW w = true := pl_in (ps := [[], [], [266, 269, 47, 267, 268], [], [273], [], [], [], [379, 382, 47, 380, 381], [], [], [383, 386, 47, 384, 385], [], [], [305], [], [], [], [133], [], [], [], [], [], [], [133], [], [], [], [], [143], [], [], [141], [], [], [110], [], [], [], [141], [], [], [], [116], [], [], [], [383, 386, 47, 384, 385], []]) (by decide +kernel) (by decide +kernel)
set_option maxRecDepth 100000 in
theorem k46_ok : (kOf 46).all (eok 46) = true := by decide +kernel
set_option maxRecDepth 100000 in
theorem k46_in : ∀ e ∈ kOf 46, ∀ w ∈ needs 46 e, w ∈ lw_tbl ∧ okW w = true := pl_in (ps := [[], [], [266, 269, 47, 267, 268], [], [], [], [266, 269, 47, 267, 268], [], [], [], [], [273], [], [], [131], [], [], [], [131], [], [], [401, 404, 48, 402, 403], [], [], [], [151], [], [], [151], [], []]) (by decide +kernel) (by decide +kernel)
set_option maxRecDepth 100000 in
theorem k47_ok : (kOf 47).all (eok 47) = true := by decide +kernel
set_option maxRecDepth 100000 in
theorem k47_in : ∀ e ∈ kOf 47, ∀ w ∈ needs 47 e, w ∈ lw_tbl ∧ okW w = true := pl_in (ps := [[], [], [266, 269, 47, 267, 268], [], [], [], [266, 269, 47, 267, 268], [], [], [], [], [], [], [], [270, 272, 46, 271], [], [273], [], [], [143], [], [], [274], [], [], [], [145], [], [], [417, 420, 47, 419, 2], [], [], [], [107], [], [], [110], [], [], [116], [], [119], [], [131], [], [], [249, 252, 48, 250, 251], [], [113], []]) (by decide +kernel) (by decide +kernel)
set_option maxRecDepth 100000 in
theorem k48_ok : (kOf 48).all (eok 48) = true := by decide +kernel
set_option maxRecDepth 100000 in
theorem k48_in : ∀ e ∈ kOf 48, ∀ w ∈ needs 48 e, w ∈ lw_tbl ∧ okW w = true := pl_in (ps := [[], [141], [], [143], [], [], [], [], [113], [], [143], [], [], [], [], [141], [], [], [], [], [113], [], [], [], [141], [], [], [141], [], [], [], [], [], [], [], [], [141], [], [], [], [], [], [143], [], [], [143], [], []]) (by decide +kernel) (by decide +kernel)
set_option maxRecDepth 100000 in
theorem k49_ok : (kOf 49).all (eok 49) = true := by decide +kernel
set_option maxRecDepth 100000 in
theorem k49_in : ∀ e ∈ kOf 49, ∀ w ∈ needs 49 e, w ∈ lw_tbl ∧ okW w = true := pl_in (ps := [[], [], [], [270, 272, 46, 271], [], [273], [], [], [145], [], [], [], [], [274], [], [], [], [145], [], [], [145], [], [147], [], [], [], [], [], [143], [], [], [141], [], [], [113], [], [145], [], [], [], [141], [], [], [429, 432, 47, 431, 3], [], [], [], [], [433, 436, 47, 435, 4], [], [147], [], [], []]) (by decide +kernel) (by decide +kernel)
set_option maxRecDepth 100000 in
theorem k50_ok : (kOf 50).all (eok 50) = true := by decide +kernel
set_option maxRecDepth 100000 in
theorem k50_in : ∀ e ∈ kOf 50, ∀ w ∈ needs 50 e, w ∈ lw_tbl ∧ okW w = true := pl_in (ps := [[], [116], [], [], [], [149], [], [], [149], [], [], [], [151], [], [131], [], [110], [], [], [119], [401, 404, 48, 402, 403], [], [151], [], [], [147], [], [], [147], []]) (by decide +kernel) (by decide +kernel)
set_option maxRecDepth 100000 in
theorem k51_ok : (kOf 51).all (eok 51) = true := by decide +kernel
set_option maxRecDepth 100000 in
theorem k51_in : ∀ e ∈ kOf 51, ∀ w ∈ needs 51 e, w ∈ lw_tbl ∧ okW w = true := pl_in (ps := [[], [], [], [], [143], [], [], [141], [], [], [], [], [], [], [141], [], [], [], [], [141], [], [], [], [], [141], [], [], [], [], [], [], [], [143], [], [], [143], []]) (by decide +kernel) (by decide +kernel)
set_option maxRecDepth 100000 in
theorem k52_ok : (kOf 52).all (eok 52) = true := by decide +kernel
set_option maxRecDepth 100000 in
theorem k52_in : ∀ e ∈ kOf 52, ∀ w ∈ needs 52 e, w ∈ lw_tbl ∧ okW w = true := pl_in (ps := [[], [], [], [], [523, 526, 47, 525, 6], [], [], [], [], [], [], [527, 458, 47, 456, 457], [], [133], [], [], [], [523, 526, 47, 525, 6], [], [], [131], [], [], [], [131], [], [], [401, 404, 48, 402, 403], [], [], [], [], [], [], []]) (by decide +kernel) (by decide +kernel)
set_option maxRecDepth 100000 in
theorem k53_ok : (kOf 53).all (eok 53) = true := by decide +kernel
set_option maxRecDepth 100000 in
theorem k53_in : ∀ e ∈ kOf 53, ∀ w ∈ needs 53 e, w ∈ lw_tbl ∧ okW w = true := pl_in (ps := [[], [], [], [], [], [], [], [], [], [], [], [], [], [266, 269, 47, 267, 268], [], [], [], [], [], [], []]) (by decide +kernel) (by decide +kernel)
set_option maxRecDepth 100000 in
theorem k54_ok : (kOf 54).all (eok 54) = true := by decide +kernel
set_option maxRecDepth 100000 in
theorem k54_in : ∀ e ∈ kOf 54, ∀ w ∈ needs 54 e, w ∈ lw_tbl ∧ okW w = true := pl_in (ps := [[], [59, 60, 61], [], [62, 63, 47], [], [64, 66, 47, 65], [218], [], [62, 63, 47], [], [64, 66, 47, 65], [219], [], [], [62, 176], [220], [], [], [221], [], [177, 72, 48], [], [178, 75, 48, 74], [222], [], [179, 180, 50], [], [181, 183, 50, 182], [223], [], [], [], [], [], [], [220], [], [62, 63, 47], [], [64, 66, 47, 65], [], [], [], []]) (by decide +kernel) (by decide +kernel)
set_option maxRecDepth 100000 in
theorem k55_ok : (kOf 55).all (eok 55) = true := by decide +kernel
set_option maxRecDepth 100000 in
theorem k55_in : ∀ e ∈ kOf 55, ∀ w ∈ needs 55 e, w ∈ lw_tbl ∧ okW w = true := pl_in (ps := [[], [], [241, 244, 46, 243, 0], [], [262, 265, 47, 263, 264], [279, 282, 46, 281, 1], []]) (by decide +kernel) (by decide +kernel)
set_option maxRecDepth 100000 in
theorem k56_ok : (kOf 56).all (eok 56) = true := by decide +kernel
set_option maxRecDepth 100000 in
theorem k56_in : ∀ e ∈ kOf 56, ∀ w ∈ needs 56 e, w ∈ lw_tbl ∧ okW w = true := pl_in (ps := [[], [], [241, 244, 46, 243, 0], [], [], [293, 296, 47, 294, 295], [279, 282, 46, 281, 1], []]) (by decide +kernel) (by decide +kernel)
set_option maxRecDepth 100000 in
theorem k57_ok : (kOf 57).all (eok 57) = true := by decide +kernel
set_option maxRecDepth 100000 in
theorem k57_in : ∀ e ∈ kOf 57, ∀ w ∈ needs 57 e, w ∈ lw_tbl ∧ okW w = true := pl_in (ps := [[], [], [241, 244, 46, 243, 0], [], [], [326, 329, 47, 327, 328], [279, 282, 46, 281, 1], []]) (by decide +kernel) (by decide +kernel)
set_option maxRecDepth 100000 in
theorem k58_ok : (kOf 58).all (eok 58) = true := by decide +kernel
set_option maxRecDepth 100000 in
theorem k58_in : ∀ e ∈ kOf 58, ∀ w ∈ needs 58 e, w ∈ lw_tbl ∧ okW w = true := pl_in (ps := [[], [], [241, 244, 46, 243, 0], [], [], [334, 337, 47, 335, 336], [279, 282, 46, 281, 1], []]) (by decide +kernel) (by decide +kernel)
set_option maxRecDepth 100000 in
theorem k59_ok : (kOf 59).all (eok 59) = true := by decide +kernel
set_option maxRecDepth 100000 in
theorem k59_in : ∀ e ∈ kOf 59, ∀ w ∈ needs 59 e, w ∈ lw_tbl ∧ okW w = true := pl_in (ps := [[], [], [241, 244, 46, 243, 0], [], [], [355, 358, 47, 356, 357], [279, 282, 46, 281, 1], []]) (by decide +kernel) (by decide +kernel)
set_option maxRecDepth 100000 in
theorem k60_ok : (kOf 60).all (eok 60) = true := by decide +kernel
set_option maxRecDepth 100000 in
theorem k60_in : ∀ e ∈ kOf 60, ∀ w ∈ needs 60 e, w ∈ lw_tbl ∧ okW w = true := pl_in (ps := [[], [], [241, 244, 46, 243, 0], [], [367, 370, 47, 368, 369], [279, 282, 46, 281, 1], []]) (by decide +kernel) (by decide +kernel)
set_option maxRecDepth 100000 in
theorem k61_ok : (kOf 61).all (eok 61) = true := by decide +kernel
set_option maxRecDepth 100000 in
theorem k61_in : ∀ e ∈ kOf 61, ∀ w ∈ needs 61 e, w ∈ lw_tbl ∧ okW w = true := pl_in (ps := [[], [], [241, 244, 46, 243, 0], [], [375, 378, 47, 376, 377], [279, 282, 46, 281, 1], []]) (by decide +kernel) (by decide +kernel)
set_option maxRecDepth 100000 in
theorem k62_ok : (kOf 62).all (eok 62) = true := by decide +kernel
set_option maxRecDepth 100000 in
theorem k62_in : ∀ e ∈ kOf 62, ∀ w ∈ needs 62 e, w ∈ lw_tbl ∧ okW w = true := pl_in (ps := [[], [], [241, 244, 46, 243, 0], [], [], [397, 400, 47, 398, 399], [279, 282, 46, 281, 1], []]) (by decide +kernel) (by decide +kernel)
set_option maxRecDepth 100000 in
theorem k63_ok : (kOf 63).all (eok 63) = true := by decide +kernel
set_option maxRecDepth 100000 in
theorem k63_in : ∀ e ∈ kOf 63, ∀ w ∈ needs 63 e, w ∈ lw_tbl ∧ okW w = true := pl_in (ps := [[], [], [241, 244, 46, 243, 0], [], [], [], [413, 416, 47, 414, 415], [279, 282, 46, 281, 1], []]) (by decide +kernel) (by decide +kernel)
set_option maxRecDepth 100000 in
theorem k64_ok : (kOf 64).all (eok 64) = true := by decide +kernel
set_option maxRecDepth 100000 in
theorem k64_in : ∀ e ∈ kOf 64, ∀ w ∈ needs 64 e, w ∈ lw_tbl ∧ okW w = true := pl_in (ps := [[], [], [241, 244, 46, 243, 0], [], [425, 428, 47, 426, 427], [279, 282, 46, 281, 1], []]) (by decide +kernel) (by decide +kernel)
set_option maxRecDepth 100000 in
theorem k65_ok : (kOf 65).all (eok 65) = true := by decide +kernel
set_option maxRecDepth 100000 in
theorem k65_in : ∀ e ∈ kOf 65, ∀ w ∈ needs 65 e, w ∈ lw_tbl ∧ okW w = true := pl_in (ps := [[], [218], [], [441, 269, 47, 267, 268], [], [287], [], [], [218], [132], [], [], [], [], [], [], [442, 313, 48, 311, 312], [], [], [443, 317, 48, 315, 316], [], [], [444, 321, 48, 319, 320], [], [], [445, 448, 48, 446, 447], [453, 389, 53, 388], [], [], [87], [453, 389, 53, 388], [], [], [218], [], [454, 382, 47, 380, 381], [], [], [445, 448, 48, 446, 447], [], [], [218], [], [455, 458, 47, 456, 457], [], [287], []]) (by decide +kernel) (by decide +kernel)
set_option maxRecDepth 100000 in
theorem k66_ok : (kOf 66).all (eok 66) = true := by decide +kernel
set_option maxRecDepth 100000 in
theorem k66_in : ∀ e ∈ kOf 66, ∀ w ∈ needs 66 e, w ∈ lw_tbl ∧ okW w = true := pl_in (ps := [[], [218], [], [441, 269, 47, 267, 268], [], [], [218], [], [467, 300, 47, 298, 299], [], [], [], [], [288, 272, 46, 271], [], [287], [], [], [218], [132], [], [], [], [], [], [468, 452, 48, 450, 451], [], [286], [], [], [], [], [79], [], [], [], [], [81], [], [], [], [], [84], [], [], []]) (by decide +kernel) (by decide +kernel)
set_option maxRecDepth 100000 in
theorem k67_ok : (kOf 67).all (eok 67) = true := by decide +kernel
set_option maxRecDepth 100000 in
theorem k67_in : ∀ e ∈ kOf 67, ∀ w ∈ needs 67 e, w ∈ lw_tbl ∧ okW w = true := pl_in (ps := [[], [218], [], [467, 300, 47, 298, 299], [], [287], [], [], [218], [], [473, 304, 47, 302, 303], [], [], [], [], [], [286], [], [], [218], [136], [], [], [], [], [], [286], [], [], [218], [], [474, 362, 47, 360, 361], [], [], [], [], [218], [138], [], [], [], [286], [], [], [], [286], [], [], [218], [], [475, 478, 47, 476, 477], [], [], [218], [], [479, 482, 47, 480, 481], [], [287], []]) (by decide +kernel) (by decide +kernel)
set_option maxRecDepth 100000 in
theorem k68_ok : (kOf 68).all (eok 68) = true := by decide +kernel
set_option maxRecDepth 100000 in
theorem k68_in : ∀ e ∈ kOf 68, ∀ w ∈ needs 68 e, w ∈ lw_tbl ∧ okW w = true := pl_in (ps := [[], [], [], [], [], [288, 272, 46, 271], [], [287], [], [], [], [218], [144], [], [286], [], [], [218], [142], [], [], [], [], [], [], [106], [], [], [109], [], [], [112], [], [218], [146], [], [], [], [118], [442, 313, 48, 311, 312], [], [], [115], [], [], [], [], []]) (by decide +kernel) (by decide +kernel)
set_option maxRecDepth 100000 in
theorem k69_ok : (kOf 69).all (eok 69) = true := by decide +kernel
set_option maxRecDepth 100000 in
theorem k69_in : ∀ e ∈ kOf 69, ∀ w ∈ needs 69 e, w ∈ lw_tbl ∧ okW w = true := pl_in (ps := [[], [218], [], [441, 269, 47, 267, 268], [], [], [218], [], [441, 269, 47, 267, 268], [], [], [], [], [287], [], [], [], [], [492, 495, 46, 494, 5], [], [], [], [], [], [], [222], [442, 313, 48, 311, 312], [], [218], [132], [], [], [442, 313, 48, 311, 312], [], [], [], [222], [], [218], [132], [], [], [498, 462, 48, 460, 461], [], [], [], [], [], [287], []]) (by decide +kernel) (by decide +kernel)
