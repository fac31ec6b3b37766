set_option maxRecDepth 100000 in
theorem k30_ok : (kOf 30).all (eok 30) = true := by decide +kernel
set_option maxRecDepth 100000 in
theorem k30_in : ∀ e ∈ kOf 30, ∀ w ∈ needs 30 e, w ∈ lw_tbl ∧ okW w = true := pl_in (ps := [[], [], [292, 295, 7, 293, 294], [], [], [], [], [258, 260, 6, 259], [], [261], [], [], [], [208, 211, 7, 209, 210], [], [296], [], [], [], [297, 300, 7, 298, 299], [], [], [], [263, 266, 8, 264, 265], [], [], [297, 300, 7, 298, 299], [301, 304, 8, 302, 303], []]) (by decide +kernel) (by decide +kernel)
set_option maxRecDepth 100000 in
theorem k31_ok : (kOf 31).all (eok 31) = true := by decide +kernel
set_option maxRecDepth 100000 in
theorem k31_in : ∀ e ∈ kOf 31, ∀ w ∈ needs 31 e, w ∈ lw_tbl ∧ okW w = true := pl_in (ps := [[], [], [292, 295, 7, 293, 294], [], [], [], [], [258, 260, 6, 259], [], [261], [], [], [], [208, 211, 7, 209, 210], [], [], [], [297, 300, 7, 298, 299], [301, 304, 8, 302, 303], [], [], [296], [], [], [], [297, 300, 7, 298, 299], [], [], [], [263, 266, 8, 264, 265], [], [], [297, 300, 7, 298, 299], [301, 304, 8, 302, 303], []]) (by decide +kernel) (by decide +kernel)
set_option maxRecDepth 100000 in
theorem k32_ok : (kOf 32).all (eok 32) = true := by decide +kernel
set_option maxRecDepth 100000 in
theorem k32_in : ∀ e ∈ kOf 32, ∀ w ∈ needs 32 e, w ∈ lw_tbl ∧ okW w = true := pl_in (ps := [[], [], [292, 295, 7, 293, 294], [], [], [], [292, 295, 7, 293, 294], [], [], [], [], [261], [], [], [], [208, 211, 7, 209, 210], [], [], [], [208, 211, 7, 209, 210], [], [], [92], [], [], [], [92], [], [], [], [296], [], [], [], [297, 300, 7, 298, 299], [], [], [330, 333, 8, 331, 332], [], [94], [], [], [], [], [339, 207, 7, 205, 206], []]) (by decide +kernel) (by decide +kernel)
set_option maxRecDepth 100000 in
theorem k33_ok : (kOf 33).all (eok 33) = true := by decide +kernel
set_option maxRecDepth 100000 in
theorem k33_in : ∀ e ∈ kOf 33, ∀ w ∈ needs 33 e, w ∈ lw_tbl ∧ okW w = true := pl_in (ps := [[], [], [292, 295, 7, 293, 294], [], [], [], [254, 257, 7, 255, 256], [], [261], [], [], [], [208, 211, 7, 209, 210], [], [], [92], [], [], [], [], [], [88], [], [], [37], [], [], [], [], [348, 351, 7, 349, 350], [], [296], [], [], [92], [], [], [], [], [92], [], [], [], [], []]) (by decide +kernel) (by decide +kernel)
set_option maxRecDepth 100000 in
theorem k34_ok : (kOf 34).all (eok 34) = true := by decide +kernel
set_option maxRecDepth 100000 in
theorem k34_in : ∀ e ∈ kOf 34, ∀ w ∈ needs 34 e, w ∈ lw_tbl ∧ okW w = true := pl_in (ps := [[], [], [254, 257, 7, 255, 256], [], [261], [], [], [], [], [], [], [], [], [254, 257, 7, 255, 256], [], [], [], [90], [], [], [], [], [90], [], [88], [], [], [], [88], [], [], [237, 240, 8, 238, 239], [], [], [], [], [262], []]) (by decide +kernel) (by decide +kernel)
set_option maxRecDepth 100000 in
theorem k35_ok : (kOf 35).all (eok 35) = true := by decide +kernel
set_option maxRecDepth 100000 in
theorem k35_in : ∀ e ∈ kOf 35, ∀ w ∈ needs 35 e, w ∈ lw_tbl ∧ okW w = true := pl_in (ps := [[], [], [254, 257, 7, 255, 256], [], [261], [], [], [], [387, 390, 7, 388, 389], [], [], [391, 197, 7, 195, 196], [], [], [296], [], [], [], [90], [], [], [], [], [], [], [90], [], [], [], [], [100], [], [], [98], [], [], [67], [], [], [], [98], [], [], [], [73], [], [], [], [391, 197, 7, 195, 196], []]) (by decide +kernel) (by decide +kernel)
set_option maxRecDepth 100000 in
theorem k36_ok : (kOf 36).all (eok 36) = true := by decide +kernel
set_option maxRecDepth 100000 in
theorem k36_in : ∀ e ∈ kOf 36, ∀ w ∈ needs 36 e, w ∈ lw_tbl ∧ okW w = true := pl_in (ps := [[], [], [254, 257, 7, 255, 256], [], [], [], [254, 257, 7, 255, 256], [], [], [], [], [261], [], [], [88], [], [], [], [88], [], [], [363, 366, 8, 364, 365], [], [], [], [108], [], [], [108], [], []]) (by decide +kernel) (by decide +kernel)
set_option maxRecDepth 100000 in
theorem k37_ok : (kOf 37).all (eok 37) = true := by decide +kernel
set_option maxRecDepth 100000 in
theorem k37_in : ∀ e ∈ kOf 37, ∀ w ∈ needs 37 e, w ∈ lw_tbl ∧ okW w = true := pl_in (ps := [[], [], [254, 257, 7, 255, 256], [], [], [], [254, 257, 7, 255, 256], [], [], [], [], [], [], [], [258, 260, 6, 259], [], [261], [], [], [100], [], [], [262], [], [], [], [102], [], [], [415, 418, 7, 417, 2], [], [], [], [64], [], [], [67], [], [], [73], [], [76], [], [88], [], [], [237, 240, 8, 238, 239], [], [70], []]) (by decide +kernel) (by decide +kernel)
set_option maxRecDepth 100000 in
theorem k38_ok : (kOf 38).all (eok 38) = true := by decide +kernel
set_option maxRecDepth 100000 in
theorem k38_in : ∀ e ∈ kOf 38, ∀ w ∈ needs 38 e, w ∈ lw_tbl ∧ okW w = true := pl_in (ps := [[], [98], [], [100], [], [], [], [], [70], [], [100], [], [], [], [], [98], [], [], [], [], [70], [], [], [], [98], [], [], [98], [], [], [], [], [], [], [], [], [98], [], [], [], [], [], [100], [], [], [100], [], []]) (by decide +kernel) (by decide +kernel)
set_option maxRecDepth 100000 in
theorem k39_ok : (kOf 39).all (eok 39) = true := by decide +kernel
set_option maxRecDepth 100000 in
theorem k39_in : ∀ e ∈ kOf 39, ∀ w ∈ needs 39 e, w ∈ lw_tbl ∧ okW w = true := pl_in (ps := [[], [], [], [258, 260, 6, 259], [], [261], [], [], [102], [], [], [], [], [262], [], [], [], [102], [], [], [102], [], [104], [], [], [], [], [], [100], [], [], [98], [], [], [70], [], [102], [], [], [], [98], [], [], [427, 430, 7, 429, 3], [], [], [], [], [431, 434, 7, 433, 4], [], [104], [], [], []]) (by decide +kernel) (by decide +kernel)
set_option maxRecDepth 100000 in
theorem k40_ok : (kOf 40).all (eok 40) = true := by decide +kernel
set_option maxRecDepth 100000 in
theorem k40_in : ∀ e ∈ kOf 40, ∀ w ∈ needs 40 e, w ∈ lw_tbl ∧ okW w = true := pl_in (ps := [[], [73], [], [], [], [106], [], [], [106], [], [], [], [108], [], [88], [], [67], [], [], [76], [363, 366, 8, 364, 365], [], [108], [], [], [104], [], [], [104], []]) (by decide +kernel) (by decide +kernel)
set_option maxRecDepth 100000 in
theorem k41_ok : (kOf 41).all (eok 41) = true := by decide +kernel
set_option maxRecDepth 100000 in
theorem k41_in : ∀ e ∈ kOf 41, ∀ w ∈ needs 41 e, w ∈ lw_tbl ∧ okW w = true := pl_in (ps := [[], [], [], [], [100], [], [], [98], [], [], [], [], [], [], [98], [], [], [], [], [98], [], [], [], [], [98], [], [], [], [], [], [], [], [100], [], [], [100], []]) (by decide +kernel) (by decide +kernel)
set_option maxRecDepth 100000 in
theorem k42_ok : (kOf 42).all (eok 42) = true := by decide +kernel
set_option maxRecDepth 100000 in
theorem k42_in : ∀ e ∈ kOf 42, ∀ w ∈ needs 42 e, w ∈ lw_tbl ∧ okW w = true := pl_in (ps := [[], [18, 19, 20], [], [21, 22, 7], [], [23, 25, 7, 24], [171], [], [21, 22, 7], [], [23, 25, 7, 24], [172], [], [], [21, 133], [173], [], [], [174], [], [134, 31, 8], [], [135, 34, 8, 33], [175], [], [136, 137, 10], [], [138, 140, 10, 139], [176], [], [], [], [], [], [], [173], [], [21, 22, 7], [], [23, 25, 7, 24], [], [], [], []]) (by decide +kernel) (by decide +kernel)
set_option maxRecDepth 100000 in
theorem k43_ok : (kOf 43).all (eok 43) = true := by decide +kernel
set_option maxRecDepth 100000 in
theorem k43_in : ∀ e ∈ kOf 43, ∀ w ∈ needs 43 e, w ∈ lw_tbl ∧ okW w = true := pl_in (ps := [[], [], [229, 232, 6, 231, 0], [], [250, 253, 7, 251, 252], [267, 270, 6, 269, 1], []]) (by decide +kernel) (by decide +kernel)
set_option maxRecDepth 100000 in
theorem k44_ok : (kOf 44).all (eok 44) = true := by decide +kernel
set_option maxRecDepth 100000 in
theorem k44_in : ∀ e ∈ kOf 44, ∀ w ∈ needs 44 e, w ∈ lw_tbl ∧ okW w = true := pl_in (ps := [[], [], [229, 232, 6, 231, 0], [], [], [288, 291, 7, 289, 290], [267, 270, 6, 269, 1], []]) (by decide +kernel) (by decide +kernel)
set_option maxRecDepth 100000 in
theorem k45_ok : (kOf 45).all (eok 45) = true := by decide +kernel
set_option maxRecDepth 100000 in
theorem k45_in : ∀ e ∈ kOf 45, ∀ w ∈ needs 45 e, w ∈ lw_tbl ∧ okW w = true := pl_in (ps := [[], [], [229, 232, 6, 231, 0], [], [], [317, 320, 7, 318, 319], [267, 270, 6, 269, 1], []]) (by decide +kernel) (by decide +kernel)
set_option maxRecDepth 100000 in
theorem k46_ok : (kOf 46).all (eok 46) = true := by decide +kernel
set_option maxRecDepth 100000 in
theorem k46_in : ∀ e ∈ kOf 46, ∀ w ∈ needs 46 e, w ∈ lw_tbl ∧ okW w = true := pl_in (ps := [[], [], [229, 232, 6, 231, 0], [], [], [326, 329, 7, 327, 328], [267, 270, 6, 269, 1], []]) (by decide +kernel) (by decide +kernel)
set_option maxRecDepth 100000 in
theorem k47_ok : (kOf 47).all (eok 47) = true := by decide +kernel
set_option maxRecDepth 100000 in
theorem k47_in : ∀ e ∈ kOf 47, ∀ w ∈ needs 47 e, w ∈ lw_tbl ∧ okW w = true := pl_in (ps := [[], [], [229, 232, 6, 231, 0], [], [], [344, 347, 7, 345, 346], [267, 270, 6, 269, 1], []]) (by decide +kernel) (by decide +kernel)
set_option maxRecDepth 100000 in
theorem k48_ok : (kOf 48).all (eok 48) = true := by decide +kernel
set_option maxRecDepth 100000 in
theorem k48_in : ∀ e ∈ kOf 48, ∀ w ∈ needs 48 e, w ∈ lw_tbl ∧ okW w = true := pl_in (ps := [[], [], [229, 232, 6, 231, 0], [], [375, 378, 7, 376, 377], [267, 270, 6, 269, 1], []]) (by decide +kernel) (by decide +kernel)
set_option maxRecDepth 100000 in
theorem k49_ok : (kOf 49).all (eok 49) = true := by decide +kernel
set_option maxRecDepth 100000 in
theorem k49_in : ∀ e ∈ kOf 49, ∀ w ∈ needs 49 e, w ∈ lw_tbl ∧ okW w = true := pl_in (ps := [[], [], [229, 232, 6, 231, 0], [], [383, 386, 7, 384, 385], [267, 270, 6, 269, 1], []]) (by decide +kernel) (by decide +kernel)
set_option maxRecDepth 100000 in
theorem k50_ok : (kOf 50).all (eok 50) = true := by decide +kernel
set_option maxRecDepth 100000 in
theorem k50_in : ∀ e ∈ kOf 50, ∀ w ∈ needs 50 e, w ∈ lw_tbl ∧ okW w = true := pl_in (ps := [[], [], [229, 232, 6, 231, 0], [], [], [359, 362, 7, 360, 361], [267, 270, 6, 269, 1], []]) (by decide +kernel) (by decide +kernel)
set_option maxRecDepth 100000 in
theorem k51_ok : (kOf 51).all (eok 51) = true := by decide +kernel
set_option maxRecDepth 100000 in
theorem k51_in : ∀ e ∈ kOf 51, ∀ w ∈ needs 51 e, w ∈ lw_tbl ∧ okW w = true := pl_in (ps := [[], [], [229, 232, 6, 231, 0], [], [], [], [411, 414, 7, 412, 413], [267, 270, 6, 269, 1], []]) (by decide +kernel) (by decide +kernel)
set_option maxRecDepth 100000 in
theorem k52_ok : (kOf 52).all (eok 52) = true := by decide +kernel
set_option maxRecDepth 100000 in
theorem k52_in : ∀ e ∈ kOf 52, ∀ w ∈ needs 52 e, w ∈ lw_tbl ∧ okW w = true := pl_in (ps := [[], [], [229, 232, 6, 231, 0], [], [423, 426, 7, 424, 425], [267, 270, 6, 269, 1], []]) (by decide +kernel) (by decide +kernel)
set_option maxRecDepth 100000 in
theorem k53_ok : (kOf 53).all (eok 53) = true := by decide +kernel
set_option maxRecDepth 100000 in
theorem k53_in : ∀ e ∈ kOf 53, ∀ w ∈ needs 53 e, w ∈ lw_tbl ∧ okW w = true := pl_in (ps := [[], [171], [], [454, 257, 7, 255, 256], [], [212], [], [], [171], [89], [], [], [], [], [], [], [455, 304, 8, 302, 303], [], [], [456, 308, 8, 306, 307], [], [], [457, 312, 8, 310, 311], [], [], [458, 461, 8, 459, 460], [466, 200, 11, 199], [], [], [44], [466, 200, 11, 199], [], [], [171], [], [467, 390, 7, 388, 389], [], [], [458, 461, 8, 459, 460], [], [], [171], [], [468, 471, 7, 469, 470], [], [212], []]) (by decide +kernel) (by decide +kernel)
set_option maxRecDepth 100000 in
theorem k54_ok : (kOf 54).all (eok 54) = true := by decide +kernel
set_option maxRecDepth 100000 in
theorem k54_in : ∀ e ∈ kOf 54, ∀ w ∈ needs 54 e, w ∈ lw_tbl ∧ okW w = true := pl_in (ps := [[], [171], [], [454, 257, 7, 255, 256], [], [], [171], [], [480, 295, 7, 293, 294], [], [], [], [], [275, 260, 6, 259], [], [212], [], [], [171], [89], [], [], [], [], [], [481, 465, 8, 463, 464], [], [274], [], [], [], [], [38], [], [], [], [], [40], [], [], [], [], [42], [], [], []]) (by decide +kernel) (by decide +kernel)
set_option maxRecDepth 100000 in
theorem k55_ok : (kOf 55).all (eok 55) = true := by decide +kernel
set_option maxRecDepth 100000 in
theorem k55_in : ∀ e ∈ kOf 55, ∀ w ∈ needs 55 e, w ∈ lw_tbl ∧ okW w = true := pl_in (ps := [[], [171], [], [480, 295, 7, 293, 294], [], [212], [], [], [171], [], [493, 211, 7, 209, 210], [], [], [], [], [], [274], [], [], [171], [93], [], [], [], [], [], [274], [], [], [171], [], [494, 351, 7, 349, 350], [], [], [], [], [171], [95], [], [], [], [274], [], [], [], [274], [], [], [171], [], [495, 498, 7, 496, 497], [], [], [171], [], [499, 502, 7, 500, 501], [], [212], []]) (by decide +kernel) (by decide +kernel)
set_option maxRecDepth 100000 in
theorem k56_ok : (kOf 56).all (eok 56) = true := by decide +kernel
set_option maxRecDepth 100000 in
theorem k56_in : ∀ e ∈ kOf 56, ∀ w ∈ needs 56 e, w ∈ lw_tbl ∧ okW w = true := pl_in (ps := [[], [], [], [], [], [275, 260, 6, 259], [], [212], [], [], [], [171], [101], [], [274], [], [], [171], [99], [], [], [], [], [], [], [63], [], [], [66], [], [], [69], [], [171], [103], [], [], [], [75], [455, 304, 8, 302, 303], [], [], [72], [], [], [], [], []]) (by decide +kernel) (by decide +kernel)
set_option maxRecDepth 100000 in
theorem k57_ok : (kOf 57).all (eok 57) = true := by decide +kernel
set_option maxRecDepth 100000 in
theorem k57_in : ∀ e ∈ kOf 57, ∀ w ∈ needs 57 e, w ∈ lw_tbl ∧ okW w = true := pl_in (ps := [[], [], [], [171], [194, 197, 7, 195, 196], [], [], [171], [97], [], [], [171], [204, 207, 7, 205, 206], [], [], [171], [101], [], [], [171], [103], [], [], [171], [105], [], [], [171], [107], [], [], [171], [109], [], [], [174], [], [], [176], [144], [], [], [171], [91], [], [212], []]) (by decide +kernel) (by decide +kernel)
set_option maxRecDepth 100000 in
theorem k58_ok : (kOf 58).all (eok 58) = true := by decide +kernel
set_option maxRecDepth 100000 in
theorem k58_in : ∀ e ∈ kOf 58, ∀ w ∈ needs 58 e, w ∈ lw_tbl ∧ okW w = true := pl_in (ps := [[], [172], [], [171], [233, 236, 7, 234, 235], [], [172], []]) (by decide +kernel) (by decide +kernel)
set_option maxRecDepth 100000 in
theorem k59_ok : (kOf 59).all (eok 59) = true := by decide +kernel
set_option maxRecDepth 100000 in
theorem k59_in : ∀ e ∈ kOf 59, ∀ w ∈ needs 59 e, w ∈ lw_tbl ∧ okW w = true := pl_in (ps := [[], [271, 273, 6, 272], [], [], [], [], [174], [], [], [], [173], [], [174], [], [], [], [], [174], [], [], [174], [], [], [173], [], [], [], [], [], [], [], [], [], [173], [], [], [], [], [173], [], [], [], [], [], [], [173], [], [174], [], [], [], [171], [], [], [], [172], [171], [], [], [172], [], []]) (by decide +kernel) (by decide +kernel)
