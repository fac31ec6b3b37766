set_option maxRecDepth 100000 in
theorem k0_ok : (kOf 0).all (eok 0) = true := by decide +kernel
set_option maxRecDepth 100000 in
theorem k0_in : ∀ e ∈ kOf 0, ∀ w ∈ needs 0 e, w ∈ lw_tbl ∧ okW w = true := pl_in (ps := [[], [35, 19, 20], [], [], [54], [36], [], [], [54], [39], [], [], [54], [41], [], [], [43], []]) (by decide +kernel) (by decide +kernel)
set_option maxRecDepth 100000 in
theorem k1_ok : (kOf 1).all (eok 1) = true := by decide +kernel
set_option maxRecDepth 100000 in
theorem k1_in : ∀ e ∈ kOf 1, ∀ w ∈ needs 1 e, w ∈ lw_tbl ∧ okW w = true := pl_in (ps := [[], [36], [], [], [36], [], [], [241, 243, 242, 12], [], [39], [], [], [39], [], [], [241, 243, 242, 12], [], [41], [], [], [41], [], [], [241, 243, 242, 12], [], [], [43], [43], []]) (by decide +kernel) (by decide +kernel)
set_option maxRecDepth 100000 in
theorem k2_ok : (kOf 2).all (eok 2) = true := by decide +kernel
set_option maxRecDepth 100000 in
theorem k2_in : ∀ e ∈ kOf 2, ∀ w ∈ needs 2 e, w ∈ lw_tbl ∧ okW w = true := pl_in (ps := [[], [36], [], [], [], [], [39], [], [], [], [], [41], [], [], [], []]) (by decide +kernel) (by decide +kernel)
set_option maxRecDepth 100000 in
theorem k3_ok : (kOf 3).all (eok 3) = true := by decide +kernel
set_option maxRecDepth 100000 in
theorem k3_in : ∀ e ∈ kOf 3, ∀ w ∈ needs 3 e, w ∈ lw_tbl ∧ okW w = true := pl_in (ps := [[], [36], [], [], [], [], [], [], []]) (by decide +kernel) (by decide +kernel)
set_option maxRecDepth 100000 in
theorem k4_ok : (kOf 4).all (eok 4) = true := by decide +kernel
set_option maxRecDepth 100000 in
theorem k4_in : ∀ e ∈ kOf 4, ∀ w ∈ needs 4 e, w ∈ lw_tbl ∧ okW w = true := pl_in (ps := [[], [43], [], [], [], [], [], [], [], [], []]) (by decide +kernel) (by decide +kernel)
set_option maxRecDepth 100000 in
theorem k5_ok : (kOf 5).all (eok 5) = true := by decide +kernel
set_option maxRecDepth 100000 in
theorem k5_in : ∀ e ∈ kOf 5, ∀ w ∈ needs 5 e, w ∈ lw_tbl ∧ okW w = true := pl_in (ps := [[], [36], [], [], [], [], [], [], [], [39], [], [], [], [], [], [], [], [41], [], [], [], [], [], [], []]) (by decide +kernel) (by decide +kernel)
set_option maxRecDepth 100000 in
theorem k6_ok : (kOf 6).all (eok 6) = true := by decide +kernel
set_option maxRecDepth 100000 in
theorem k6_in : ∀ e ∈ kOf 6, ∀ w ∈ needs 6 e, w ∈ lw_tbl ∧ okW w = true := pl_in (ps := [[], [], [], [39], [], [], [], [41], [], [], [334, 266, 8, 264, 265], [], [], [335, 338, 8, 336, 337], [], [], [43], [], [], [], [], [43], []]) (by decide +kernel) (by decide +kernel)
set_option maxRecDepth 100000 in
theorem k7_ok : (kOf 7).all (eok 7) = true := by decide +kernel
set_option maxRecDepth 100000 in
theorem k7_in : ∀ e ∈ kOf 7, ∀ w ∈ needs 7 e, w ∈ lw_tbl ∧ okW w = true := pl_in (ps := [[], [], [43], [], [43], [], [43], [], [], [], [], [], [], [], [], [36], [], [], [], [], [], [367, 370, 8, 368, 369], [], [], [], [335, 338, 8, 336, 337], [], [], [36], [], [], [], [], [], [36], [], [], [36], [], [], [], [], [39], [], [], [39], [], [], [], [], [41], [], [], [41], [], [], [], [], [36], [], [], [], [], [], [], [], [], []]) (by decide +kernel) (by decide +kernel)
set_option maxRecDepth 100000 in
theorem k8_ok : (kOf 8).all (eok 8) = true := by decide +kernel
set_option maxRecDepth 100000 in
theorem k8_in : ∀ e ∈ kOf 8, ∀ w ∈ needs 8 e, w ∈ lw_tbl ∧ okW w = true := pl_in (ps := [[], [], [], [], [], [], [36], [], [], [], [36], [], [], [], [], [], [], [], [], [43], [], [43], [], [], [], [], []]) (by decide +kernel) (by decide +kernel)
set_option maxRecDepth 100000 in
theorem k9_ok : (kOf 9).all (eok 9) = true := by decide +kernel
set_option maxRecDepth 100000 in
theorem k9_in : ∀ e ∈ kOf 9, ∀ w ∈ needs 9 e, w ∈ lw_tbl ∧ okW w = true := pl_in (ps := [[], [], [], [], [], [], [], [], [], [39], [], [], [], [], [], [], [], []]) (by decide +kernel) (by decide +kernel)
set_option maxRecDepth 100000 in
theorem k10_ok : (kOf 10).all (eok 10) = true := by decide +kernel
set_option maxRecDepth 100000 in
theorem k10_in : ∀ e ∈ kOf 10, ∀ w ∈ needs 10 e, w ∈ lw_tbl ∧ okW w = true := pl_in (ps := [[], [], [], [], [], [], [], [], [], [41], [], [], [], [], [], [], [], []]) (by decide +kernel) (by decide +kernel)
set_option maxRecDepth 100000 in
theorem k11_ok : (kOf 11).all (eok 11) = true := by decide +kernel
set_option maxRecDepth 100000 in
theorem k11_in : ∀ e ∈ kOf 11, ∀ w ∈ needs 11 e, w ∈ lw_tbl ∧ okW w = true := pl_in (ps := [[], [305, 308, 8, 306, 307], [], [309, 312, 8, 310, 311], [], []]) (by decide +kernel) (by decide +kernel)
set_option maxRecDepth 100000 in
theorem k12_ok : (kOf 12).all (eok 12) = true := by decide +kernel
set_option maxRecDepth 100000 in
theorem k12_in : ∀ e ∈ kOf 12, ∀ w ∈ needs 12 e, w ∈ lw_tbl ∧ okW w = true := pl_in (ps := [[], [], [], [], [], [], [], [], [], [462, 465, 8, 463, 464], [], [], [], [], [], [], [], [], [], [], []]) (by decide +kernel) (by decide +kernel)
set_option maxRecDepth 100000 in
theorem k13_ok : (kOf 13).all (eok 13) = true := by decide +kernel
set_option maxRecDepth 100000 in
theorem k13_in : ∀ e ∈ kOf 13, ∀ w ∈ needs 13 e, w ∈ lw_tbl ∧ okW w = true := pl_in (ps := [[], [59, 19, 20], [], [], [62], [], [], [65], [], [], [68], [], [], [71], [], [60, 31, 8], [], [61, 34, 8, 33], [74], []]) (by decide +kernel) (by decide +kernel)
set_option maxRecDepth 100000 in
theorem k14_ok : (kOf 14).all (eok 14) = true := by decide +kernel
set_option maxRecDepth 100000 in
theorem k14_in : ∀ e ∈ kOf 14, ∀ w ∈ needs 14 e, w ∈ lw_tbl ∧ okW w = true := pl_in (ps := [[], [], [62], [62], [], [], [65], [65], [], [], [68], [68], [], [], [71], [71], [], [74], [], [74], [248, 240, 8, 238, 239], []]) (by decide +kernel) (by decide +kernel)
set_option maxRecDepth 100000 in
theorem k15_ok : (kOf 15).all (eok 15) = true := by decide +kernel
set_option maxRecDepth 100000 in
theorem k15_in : ∀ e ∈ kOf 15, ∀ w ∈ needs 15 e, w ∈ lw_tbl ∧ okW w = true := pl_in (ps := [[], [141, 19, 20], [], [], [54], [142], [], [], [143], [], [], [145], [], [], [146], [], [], [147], [], [], [148], [], [], [149], [], [], [54], [150], [], [], [151], []]) (by decide +kernel) (by decide +kernel)
set_option maxRecDepth 100000 in
theorem k16_ok : (kOf 16).all (eok 16) = true := by decide +kernel
set_option maxRecDepth 100000 in
theorem k16_in : ∀ e ∈ kOf 16, ∀ w ∈ needs 16 e, w ∈ lw_tbl ∧ okW w = true := pl_in (ps := [[], [26, 19, 20], [], [], [27, 28], [88], [], [], [90], [], [], [54], [92], [], [], [54], [94], [], [], [96], [], [], [29, 30], [98], [], [], [100], [], [], [102], [], [], [104], [], [], [106], [], [], [108], [], [], [], [], [], [], [88], [], [27, 31, 8], [], [32, 34, 8, 33], [], [], [], [], [], [], [], [], [], [98], [], [29, 55, 9], [], [56, 58, 9, 57], [], [], [], []]) (by decide +kernel) (by decide +kernel)
set_option maxRecDepth 100000 in
theorem k17_ok : (kOf 17).all (eok 17) = true := by decide +kernel
set_option maxRecDepth 100000 in
theorem k17_in : ∀ e ∈ kOf 17, ∀ w ∈ needs 17 e, w ∈ lw_tbl ∧ okW w = true := pl_in (ps := [[], [], [], [], [], [], [88], [], [], [], [88], [], [], [237, 240, 8, 238, 239], [], [], [], [], [], [], [], [], [98], [], [], [], [98], [], [], [244, 247, 9, 245, 246], [], [], [], [92], [], [], [92], [], [], [249, 243, 242, 12], [], [94], [], [], [94], [], [], [249, 243, 242, 12], [], [], [90], [90], [], [], [96], [96], [], [], [100], [100], [], [], [102], [102], [], [], [104], [104], [], [], [106], [106], [], [], [108], [108], []]) (by decide +kernel) (by decide +kernel)
set_option maxRecDepth 100000 in
theorem k18_ok : (kOf 18).all (eok 18) = true := by decide +kernel
set_option maxRecDepth 100000 in
theorem k18_in : ∀ e ∈ kOf 18, ∀ w ∈ needs 18 e, w ∈ lw_tbl ∧ okW w = true := pl_in (ps := [[], [], [], [258, 260, 6, 259], [], [], [90], [], [], [], [], [], [], [], [], []]) (by decide +kernel) (by decide +kernel)
set_option maxRecDepth 100000 in
theorem k19_ok : (kOf 19).all (eok 19) = true := by decide +kernel
set_option maxRecDepth 100000 in
theorem k19_in : ∀ e ∈ kOf 19, ∀ w ∈ needs 19 e, w ∈ lw_tbl ∧ okW w = true := pl_in (ps := [[], [], [], [96], [], [], [258, 260, 6, 259], []]) (by decide +kernel) (by decide +kernel)
set_option maxRecDepth 100000 in
theorem k20_ok : (kOf 20).all (eok 20) = true := by decide +kernel
set_option maxRecDepth 100000 in
theorem k20_in : ∀ e ∈ kOf 20, ∀ w ∈ needs 20 e, w ∈ lw_tbl ∧ okW w = true := pl_in (ps := [[], [94], [], [], [], [], [], [], [], []]) (by decide +kernel) (by decide +kernel)
set_option maxRecDepth 100000 in
theorem k21_ok : (kOf 21).all (eok 21) = true := by decide +kernel
set_option maxRecDepth 100000 in
theorem k21_in : ∀ e ∈ kOf 21, ∀ w ∈ needs 21 e, w ∈ lw_tbl ∧ okW w = true := pl_in (ps := [[], [90], [198, 200, 11, 199], []]) (by decide +kernel) (by decide +kernel)
set_option maxRecDepth 100000 in
theorem k22_ok : (kOf 22).all (eok 22) = true := by decide +kernel
set_option maxRecDepth 100000 in
theorem k22_in : ∀ e ∈ kOf 22, ∀ w ∈ needs 22 e, w ∈ lw_tbl ∧ okW w = true := pl_in (ps := [[], [], [], [], [], [], [96], [], [], [], [208, 211, 7, 209, 210], [], [], [], [], [], []]) (by decide +kernel) (by decide +kernel)
set_option maxRecDepth 100000 in
theorem k23_ok : (kOf 23).all (eok 23) = true := by decide +kernel
set_option maxRecDepth 100000 in
theorem k23_in : ∀ e ∈ kOf 23, ∀ w ∈ needs 23 e, w ∈ lw_tbl ∧ okW w = true := pl_in (ps := [[], [88], [], [92], [], [], [], []]) (by decide +kernel) (by decide +kernel)
set_option maxRecDepth 100000 in
theorem k24_ok : (kOf 24).all (eok 24) = true := by decide +kernel
set_option maxRecDepth 100000 in
theorem k24_in : ∀ e ∈ kOf 24, ∀ w ∈ needs 24 e, w ∈ lw_tbl ∧ okW w = true := pl_in (ps := [[], [], [297, 300, 7, 298, 299], [37], [], [], []]) (by decide +kernel) (by decide +kernel)
set_option maxRecDepth 100000 in
theorem k25_ok : (kOf 25).all (eok 25) = true := by decide +kernel
set_option maxRecDepth 100000 in
theorem k25_in : ∀ e ∈ kOf 25, ∀ w ∈ needs 25 e, w ∈ lw_tbl ∧ okW w = true := pl_in (ps := [[], [], [], [], [], [], [96], [], [], [92], [], [], [], [], [], [], [208, 211, 7, 209, 210], [], [], [], [], [], [], [], [], [], [], []]) (by decide +kernel) (by decide +kernel)
set_option maxRecDepth 100000 in
theorem k26_ok : (kOf 26).all (eok 26) = true := by decide +kernel
set_option maxRecDepth 100000 in
theorem k26_in : ∀ e ∈ kOf 26, ∀ w ∈ needs 26 e, w ∈ lw_tbl ∧ okW w = true := pl_in (ps := [[], [], [], [], [], [], [], [], [], [254, 257, 7, 255, 256], [], [], [88], [], [], [], [88], [], [], [472, 475, 8, 473, 474], [], [], [], [], [], [], [], [], [], [], []]) (by decide +kernel) (by decide +kernel)
set_option maxRecDepth 100000 in
theorem k27_ok : (kOf 27).all (eok 27) = true := by decide +kernel
set_option maxRecDepth 100000 in
theorem k27_in : ∀ e ∈ kOf 27, ∀ w ∈ needs 27 e, w ∈ lw_tbl ∧ okW w = true := pl_in (ps := [[], [], [], [], [], [], [], [], [], [254, 257, 7, 255, 256], [], [], [88], [], [], [37], [], [], [], [], [348, 351, 7, 349, 350], [], [], [], [], [], [], [], [], [], [], []]) (by decide +kernel) (by decide +kernel)
set_option maxRecDepth 100000 in
theorem k28_ok : (kOf 28).all (eok 28) = true := by decide +kernel
set_option maxRecDepth 100000 in
theorem k28_in : ∀ e ∈ kOf 28, ∀ w ∈ needs 28 e, w ∈ lw_tbl ∧ okW w = true := pl_in (ps := [[], [], [], [], [], [], [], [], [], [254, 257, 7, 255, 256], [], [], [88], [], [], [], [503, 370, 8, 368, 369], [], [], [], [], [], [], [], [], [], [], []]) (by decide +kernel) (by decide +kernel)
set_option maxRecDepth 100000 in
theorem k29_ok : (kOf 29).all (eok 29) = true := by decide +kernel
set_option maxRecDepth 100000 in
theorem k29_in : ∀ e ∈ kOf 29, ∀ w ∈ needs 29 e, w ∈ lw_tbl ∧ okW w = true := pl_in (ps := [[], [], [254, 257, 7, 255, 256], [], [261], [], [], [96], [], [], [262], [], [], [96], [], [], [], [96], [], [], [96], [], [92], [], [], [], [], [94], [], [], [], [], [88], [], [], [], [], [], [263, 266, 8, 264, 265], [], []]) (by decide +kernel) (by decide +kernel)
