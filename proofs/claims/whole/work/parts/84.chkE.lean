theorem lay_of {ws : List Cond} {ps : List Nat} (h : ws = ps.filterMap (fun p => lw_tbl[p]?)) (hg : ws.all goodWord = true) : ∀ w ∈ ws, w ∈ GW := by
  intro w hw
  refine List.mem_filter.mpr ⟨?_, List.all_eq_true.mp hg w hw⟩
  rw [h] at hw
  obtain ⟨p, -, hp⟩ := List.mem_filterMap.mp hw
  exact List.mem_of_getElem? hp
theorem kk_ok_0 (y : Nat) (h1 : 0 ≤ y) (h2 : y < 20) : (kOf y).all (eok y) = true := by
  rcases (show y = 0 ∨ y = 1 ∨ y = 2 ∨ y = 3 ∨ y = 4 ∨ y = 5 ∨ y = 6 ∨ y = 7 ∨ y = 8 ∨ y = 9 ∨ y = 10 ∨ y = 11 ∨ y = 12 ∨ y = 13 ∨ y = 14 ∨ y = 15 ∨ y = 16 ∨ y = 17 ∨ y = 18 ∨ y = 19 by omega) with rfl | rfl | rfl | rfl | rfl | rfl | rfl | rfl | rfl | rfl | rfl | rfl | rfl | rfl | rfl | rfl | rfl | rfl | rfl | rfl
  · exact k0_ok
  · exact k1_ok
  · exact k2_ok
  · exact k3_ok
  · exact k4_ok
  · exact k5_ok
  · exact k6_ok
  · exact k7_ok
  · exact k8_ok
  · exact k9_ok
  · exact k10_ok
  · exact k11_ok
  · exact k12_ok
  · exact k13_ok
  · exact k14_ok
  · exact k15_ok
  · exact k16_ok
  · exact k17_ok
  · exact k18_ok
  · exact k19_ok
theorem kk_ok_1 (y : Nat) (h1 : 20 ≤ y) (h2 : y < 40) : (kOf y).all (eok y) = true := by
  rcases (show y = 20 ∨ y = 21 ∨ y = 22 ∨ y = 23 ∨ y = 24 ∨ y = 25 ∨ y = 26 ∨ y = 27 ∨ y = 28 ∨ y = 29 ∨ y = 30 ∨ y = 31 ∨ y = 32 ∨ y = 33 ∨ y = 34 ∨ y = 35 ∨ y = 36 ∨ y = 37 ∨ y = 38 ∨ y = 39 by omega) with rfl | rfl | rfl | rfl | rfl | rfl | rfl | rfl | rfl | rfl | rfl | rfl | rfl | rfl | rfl | rfl | rfl | rfl | rfl | rfl
  · exact k20_ok
  · exact k21_ok
  · exact k22_ok
  · exact k23_ok
  · exact k24_ok
  · exact k25_ok
  · exact k26_ok
  · exact k27_ok
  · exact k28_ok
  · exact k29_ok
  · exact k30_ok
  · exact k31_ok
  · exact k32_ok
  · exact k33_ok
  · exact k34_ok
  · exact k35_ok
  · exact k36_ok
  · exact k37_ok
  · exact k38_ok
  · exact k39_ok
theorem kk_ok_2 (y : Nat) (h1 : 40 ≤ y) (h2 : y < 60) : (kOf y).all (eok y) = true := by
  rcases (show y = 40 ∨ y = 41 ∨ y = 42 ∨ y = 43 ∨ y = 44 ∨ y = 45 ∨ y = 46 ∨ y = 47 ∨ y = 48 ∨ y = 49 ∨ y = 50 ∨ y = 51 ∨ y = 52 ∨ y = 53 ∨ y = 54 ∨ y = 55 ∨ y = 56 ∨ y = 57 ∨ y = 58 ∨ y = 59 by omega) with rfl | rfl | rfl | rfl | rfl | rfl | rfl | rfl | rfl | rfl | rfl | rfl | rfl | rfl | rfl | rfl | rfl | rfl | rfl | rfl
  · exact k40_ok
  · exact k41_ok
  · exact k42_ok
  · exact k43_ok
  · exact k44_ok
  · exact k45_ok
  · exact k46_ok
  · exact k47_ok
  · exact k48_ok
  · exact k49_ok
  · exact k50_ok
  · exact k51_ok
  · exact k52_ok
  · exact k53_ok
  · exact k54_ok
  · exact k55_ok
  · exact k56_ok
  · exact k57_ok
  · exact k58_ok
  · exact k59_ok
theorem kk_ok_3 (y : Nat) (h1 : 60 ≤ y) (h2 : y < 80) : (kOf y).all (eok y) = true := by
  rcases (show y = 60 ∨ y = 61 ∨ y = 62 ∨ y = 63 ∨ y = 64 ∨ y = 65 ∨ y = 66 ∨ y = 67 ∨ y = 68 ∨ y = 69 ∨ y = 70 ∨ y = 71 ∨ y = 72 ∨ y = 73 ∨ y = 74 ∨ y = 75 ∨ y = 76 ∨ y = 77 ∨ y = 78 ∨ y = 79 by omega) with rfl | rfl | rfl | rfl | rfl | rfl | rfl | rfl | rfl | rfl | rfl | rfl | rfl | rfl | rfl | rfl | rfl | rfl | rfl | rfl
  · exact k60_ok
  · exact k61_ok
  · exact k62_ok
  · exact k63_ok
  · exact k64_ok
  · exact k65_ok
  · exact k66_ok
  · exact k67_ok
  · exact k68_ok
  · exact k69_ok
  · exact k70_ok
  · exact k71_ok
  · exact k72_ok
  · exact k73_ok
  · exact k74_ok
  · exact k75_ok
  · exact k76_ok
  · exact k77_ok
  · exact k78_ok
  · exact k79_ok
theorem kk_ok_4 (y : Nat) (h1 : 80 ≤ y) (h2 : y < 100) : (kOf y).all (eok y) = true := by
  rcases (show y = 80 ∨ y = 81 ∨ y = 82 ∨ y = 83 ∨ y = 84 ∨ y = 85 ∨ y = 86 ∨ y = 87 ∨ y = 88 ∨ y = 89 ∨ y = 90 ∨ y = 91 ∨ y = 92 ∨ y = 93 ∨ y = 94 ∨ y = 95 ∨ y = 96 ∨ y = 97 ∨ y = 98 ∨ y = 99 by omega) with rfl | rfl | rfl | rfl | rfl | rfl | rfl | rfl | rfl | rfl | rfl | rfl | rfl | rfl | rfl | rfl | rfl | rfl | rfl | rfl
  · exact k80_ok
  · exact k81_ok
  · exact k82_ok
  · exact k83_ok
  · exact k84_ok
  · exact k85_ok
  · exact k86_ok
  · exact k87_ok
  · exact k88_ok
  · exact k89_ok
  · exact k90_ok
  · exact k91_ok
  · exact k92_ok
  · exact k93_ok
  · exact k94_ok
  · exact k95_ok
  · exact k96_ok
  · exact k97_ok
  · exact k98_ok
  · exact k99_ok
theorem kk_ok_5 (y : Nat) (h1 : 100 ≤ y) (h2 : y < 120) : (kOf y).all (eok y) = true := by
  rcases (show y = 100 ∨ y = 101 ∨ y = 102 ∨ y = 103 ∨ y = 104 ∨ y = 105 ∨ y = 106 ∨ y = 107 ∨ y = 108 ∨ y = 109 ∨ y = 110 ∨ y = 111 ∨ y = 112 ∨ y = 113 ∨ y = 114 ∨ y = 115 ∨ y = 116 ∨ y = 117 ∨ y = 118 ∨ y = 119 by omega) with rfl | rfl | rfl | rfl | rfl | rfl | rfl | rfl | rfl | rfl | rfl | rfl | rfl | rfl | rfl | rfl | rfl | rfl | rfl | rfl
  · exact k100_ok
  · exact k101_ok
  · exact k102_ok
  · exact k103_ok
  · exact k104_ok
  · exact k105_ok
  · exact k106_ok
  · exact k107_ok
  · exact k108_ok
  · exact k109_ok
  · exact k110_ok
  · exact k111_ok
  · exact k112_ok
  · exact k113_ok
  · exact k114_ok
  · exact k115_ok
  · exact k116_ok
  · exact k117_ok
  · exact k118_ok
  · exact k119_ok
theorem kk_ok_6 (y : Nat) (h1 : 120 ≤ y) (h2 : y < 140) : (kOf y).all (eok y) = true := by
  rcases (show y = 120 ∨ y = 121 ∨ y = 122 ∨ y = 123 ∨ y = 124 ∨ y = 125 ∨ y = 126 ∨ y = 127 ∨ y = 128 ∨ y = 129 ∨ y = 130 ∨ y = 131 ∨ y = 132 ∨ y = 133 ∨ y = 134 ∨ y = 135 ∨ y = 136 ∨ y = 137 ∨ y = 138 ∨ y = 139 by omega) with rfl | rfl | rfl | rfl | rfl | rfl | rfl | rfl | rfl | rfl | rfl | rfl | rfl | rfl | rfl | rfl | rfl | rfl | rfl | rfl
  · exact k120_ok
  · exact k121_ok
  · exact k122_ok
  · exact k123_ok
  · exact k124_ok
  · exact k125_ok
  · exact k126_ok
  · exact k127_ok
  · exact k128_ok
  · exact k129_ok
  · exact k130_ok
  · exact k131_ok
  · exact k132_ok
  · exact k133_ok
  · exact k134_ok
  · exact k135_ok
  · exact k136_ok
  · exact k137_ok
  · exact k138_ok
  · exact k139_ok
theorem kk_ok_7 (y : Nat) (h1 : 140 ≤ y) (h2 : y < 155) : (kOf y).all (eok y) = true := by
  rcases (show y = 140 ∨ y = 141 ∨ y = 142 ∨ y = 143 ∨ y = 144 ∨ y = 145 ∨ y = 146 ∨ y = 147 ∨ y = 148 ∨ y = 149 ∨ y = 150 ∨ y = 151 ∨ y = 152 ∨ y = 153 ∨ y = 154 by omega) with rfl | rfl | rfl | rfl | rfl | rfl | rfl | rfl | rfl | rfl | rfl | rfl | rfl | rfl | rfl
  · exact k140_ok
  · exact k141_ok
  · exact k142_ok
  · exact k143_ok
  · exact k144_ok
  · exact k145_ok
  · exact k146_ok
  · exact k147_ok
  · exact k148_ok
  · exact k149_ok
  · exact k150_ok
  · exact k151_ok
  · exact k152_ok
  · exact k153_ok
  · exact k154_ok
theorem kk_ok {y : Nat} (h : y < NM) : (kOf y).all (eok y) = true := by
  have h : y < 155 := h
  rcases Nat.lt_or_ge y 20 with q0 | q0
  · exact kk_ok_0 y (by omega) q0
  rcases Nat.lt_or_ge y 40 with q1 | q1
  · exact kk_ok_1 y (by omega) q1
  rcases Nat.lt_or_ge y 60 with q2 | q2
  · exact kk_ok_2 y (by omega) q2
  rcases Nat.lt_or_ge y 80 with q3 | q3
  · exact kk_ok_3 y (by omega) q3
  rcases Nat.lt_or_ge y 100 with q4 | q4
  · exact kk_ok_4 y (by omega) q4
  rcases Nat.lt_or_ge y 120 with q5 | q5
  · exact kk_ok_5 y (by omega) q5
  rcases Nat.lt_or_ge y 140 with q6 | q6
  · exact kk_ok_6 y (by omega) q6
  exact kk_ok_7 y (by omega) (by omega)
theorem kk_in_0 (y : Nat) (h1 : 0 ≤ y) (h2 : y < 20) : ∀ e ∈ kOf y, ∀ w ∈ needs y e, w ∈ lw_tbl ∧ okW w = true := by
  rcases (show y = 0 ∨ y = 1 ∨ y = 2 ∨ y = 3 ∨ y = 4 ∨ y = 5 ∨ y = 6 ∨ y = 7 ∨ y = 8 ∨ y = 9 ∨ y = 10 ∨ y = 11 ∨ y = 12 ∨ y = 13 ∨ y = 14 ∨ y = 15 ∨ y = 16 ∨ y = 17 ∨ y = 18 ∨ y = 19 by omega) with rfl | rfl | rfl | rfl | rfl | rfl | rfl | rfl | rfl | rfl | rfl | rfl | rfl | rfl | rfl | rfl | rfl | rfl | rfl | rfl
  · exact k0_in
  · exact k1_in
  · exact k2_in
  · exact k3_in
  · exact k4_in
  · exact k5_in
  · exact k6_in
  · exact k7_in
  · exact k8_in
  · exact k9_in
  · exact k10_in
  · exact k11_in
  · exact k12_in
  · exact k13_in
  · exact k14_in
  · exact k15_in
  · exact k16_in
  · exact k17_in
  · exact k18_in
  · exact k19_in
theorem kk_in_1 (y : Nat) (h1 : 20 ≤ y) (h2 : y < 40) : ∀ e ∈ kOf y, ∀ w ∈ needs y e, w ∈ lw_tbl ∧ okW w = true := by
  rcases (show y = 20 ∨ y = 21 ∨ y = 22 ∨ y = 23 ∨ y = 24 ∨ y = 25 ∨ y = 26 ∨ y = 27 ∨ y = 28 ∨ y = 29 ∨ y = 30 ∨ y = 31 ∨ y = 32 ∨ y = 33 ∨ y = 34 ∨ y = 35 ∨ y = 36 ∨ y = 37 ∨ y = 38 ∨ y = 39 by omega) with rfl | rfl | rfl | rfl | rfl | rfl | rfl | rfl | rfl | rfl | rfl | rfl | rfl | rfl | rfl | rfl | rfl | rfl | rfl | rfl
  · exact k20_in
  · exact k21_in
  · exact k22_in
  · exact k23_in
  · exact k24_in
  · exact k25_in
  · exact k26_in
  · exact k27_in
  · exact k28_in
  · exact k29_in
  · exact k30_in
  · exact k31_in
  · exact k32_in
  · exact k33_in
  · exact k34_in
  · exact k35_in
  · exact k36_in
  · exact k37_in
  · exact k38_in
  · exact k39_in
theorem kk_in_2 (y : Nat) (h1 : 40 ≤ y) (h2 : y < 60) : ∀ e ∈ kOf y, ∀ w ∈ needs y e, w ∈ lw_tbl ∧ okW w = true := by
  rcases (show y = 40 ∨ y = 41 ∨ y = 42 ∨ y = 43 ∨ y = 44 ∨ y = 45 ∨ y = 46 ∨ y = 47 ∨ y = 48 ∨ y = 49 ∨ y = 50 ∨ y = 51 ∨ y = 52 ∨ y = 53 ∨ y = 54 ∨ y = 55 ∨ y = 56 ∨ y = 57 ∨ y = 58 ∨ y = 59 by omega) with rfl | rfl | rfl | rfl | rfl | rfl | rfl | rfl | rfl | rfl | rfl | rfl | rfl | rfl | rfl | rfl | rfl | rfl | rfl | rfl
  · exact k40_in
  · exact k41_in
  · exact k42_in
  · exact k43_in
  · exact k44_in
  · exact k45_in
  · exact k46_in
  · exact k47_in
  · exact k48_in
  · exact k49_in
  · exact k50_in
  · exact k51_in
  · exact k52_in
  · exact k53_in
  · exact k54_in
  · exact k55_in
  · exact k56_in
  · exact k57_in
  · exact k58_in
  · exact k59_in
theorem kk_in_3 (y : Nat) (h1 : 60 ≤ y) (h2 : y < 80) : ∀ e ∈ kOf y, ∀ w ∈ needs y e, w ∈ lw_tbl ∧ okW w = true := by
  rcases (show y = 60 ∨ y = 61 ∨ y = 62 ∨ y = 63 ∨ y = 64 ∨ y = 65 ∨ y = 66 ∨ y = 67 ∨ y = 68 ∨ y = 69 ∨ y = 70 ∨ y = 71 ∨ y = 72 ∨ y = 73 ∨ y = 74 ∨ y = 75 ∨ y = 76 ∨ y = 77 ∨ y = 78 ∨ y = 79 by omega) with rfl | rfl | rfl | rfl | rfl | rfl | rfl | rfl | rfl | rfl | rfl | rfl | rfl | rfl | rfl | rfl | rfl | rfl | rfl | rfl
  · exact k60_in
  · exact k61_in
  · exact k62_in
  · exact k63_in
  · exact k64_in
  · exact k65_in
  · exact k66_in
  · exact k67_in
  · exact k68_in
  · exact k69_in
  · exact k70_in
  · exact k71_in
  · exact k72_in
  · exact k73_in
  · exact k74_in
  · exact k75_in
  · exact k76_in
  · exact k77_in
  · exact k78_in
  · exact k79_in
theorem kk_in_4 (y : Nat) (h1 : 80 ≤ y) (h2 : y < 100) : ∀ e ∈ kOf y, ∀ w ∈ needs y e, w ∈ lw_tbl ∧ okW w = true := by
  rcases (show y = 80 ∨ y = 81 ∨ y = 82 ∨ y = 83 ∨ y = 84 ∨ y = 85 ∨ y = 86 ∨ y = 87 ∨ y = 88 ∨ y = 89 ∨ y = 90 ∨ y = 91 ∨ y = 92 ∨ y = 93 ∨ y = 94 ∨ y = 95 ∨ y = 96 ∨ y = 97 ∨ y = 98 ∨ y = 99 by omega) with rfl | rfl | rfl | rfl | rfl | rfl | rfl | rfl | rfl | rfl | rfl | rfl | rfl | rfl | rfl | rfl | rfl | rfl | rfl | rfl
  · exact k80_in
  · exact k81_in
  · exact k82_in
  · exact k83_in
  · exact k84_in
  · exact k85_in
  · exact k86_in
  · exact k87_in
  · exact k88_in
  · exact k89_in
  · exact k90_in
  · exact k91_in
  · exact k92_in
  · exact k93_in
  · exact k94_in
  · exact k95_in
  · exact k96_in
  · exact k97_in
  · exact k98_in
  · exact k99_in
theorem kk_in_5 (y : Nat) (h1 : 100 ≤ y) (h2 : y < 120) : ∀ e ∈ kOf y, ∀ w ∈ needs y e, w ∈ lw_tbl ∧ okW w = true := by
  rcases (show y = 100 ∨ y = 101 ∨ y = 102 ∨ y = 103 ∨ y = 104 ∨ y = 105 ∨ y = 106 ∨ y = 107 ∨ y = 108 ∨ y = 109 ∨ y = 110 ∨ y = 111 ∨ y = 112 ∨ y = 113 ∨ y = 114 ∨ y = 115 ∨ y = 116 ∨ y = 117 ∨ y = 118 ∨ y = 119 by omega) with rfl | rfl | rfl | rfl | rfl | rfl | rfl | rfl | rfl | rfl | rfl | rfl | rfl | rfl | rfl | rfl | rfl | rfl | rfl | rfl
  · exact k100_in
  · exact k101_in
  · exact k102_in
  · exact k103_in
  · exact k104_in
  · exact k105_in
  · exact k106_in
  · exact k107_in
  · exact k108_in
  · exact k109_in
  · exact k110_in
  · exact k111_in
  · exact k112_in
  · exact k113_in
  · exact k114_in
  · exact k115_in
  · exact k116_in
  · exact k117_in
  · exact k118_in
  · exact k119_in
theorem kk_in_6 (y : Nat) (h1 : 120 ≤ y) (h2 : y < 140) : ∀ e ∈ kOf y, ∀ w ∈ needs y e, w ∈ lw_tbl ∧ okW w = true := by
  rcases (show y = 120 ∨ y = 121 ∨ y = 122 ∨ y = 123 ∨ y = 124 ∨ y = 125 ∨ y = 126 ∨ y = 127 ∨ y = 128 ∨ y = 129 ∨ y = 130 ∨ y = 131 ∨ y = 132 ∨ y = 133 ∨ y = 134 ∨ y = 135 ∨ y = 136 ∨ y = 137 ∨ y = 138 ∨ y = 139 by omega) with rfl | rfl | rfl | rfl | rfl | rfl | rfl | rfl | rfl | rfl | rfl | rfl | rfl | rfl | rfl | rfl | rfl | rfl | rfl | rfl
  · exact k120_in
  · exact k121_in
  · exact k122_in
  · exact k123_in
  · exact k124_in
  · exact k125_in
  · exact k126_in
  · exact k127_in
  · exact k128_in
  · exact k129_in
  · exact k130_in
  · exact k131_in
  · exact k132_in
  · exact k133_in
  · exact k134_in
  · exact k135_in
  · exact k136_in
  · exact k137_in
  · exact k138_in
  · exact k139_in
theorem kk_in_7 (y : Nat) (h1 : 140 ≤ y) (h2 : y < 155) : ∀ e ∈ kOf y, ∀ w ∈ needs y e, w ∈ lw_tbl ∧ okW w = true := by
  rcases (show y = 140 ∨ y = 141 ∨ y = 142 ∨ y = 143 ∨ y = 144 ∨ y = 145 ∨ y = 146 ∨ y = 147 ∨ y = 148 ∨ y = 149 ∨ y = 150 ∨ y = 151 ∨ y = 152 ∨ y = 153 ∨ y = 154 by omega) with rfl | rfl | rfl | rfl | rfl | rfl | rfl | rfl | rfl | rfl | rfl | rfl | rfl | rfl | rfl
  · exact k140_in
  · exact k141_in
  · exact k142_in
  · exact k143_in
  · exact k144_in
  · exact k145_in
  · exact k146_in
  · exact k147_in
  · exact k148_in
  · exact k149_in
  · exact k150_in
  · exact k151_in
  · exact k152_in
  · exact k153_in
  · exact k154_in
theorem kk_in {y : Nat} (h : y < NM) : ∀ e ∈ kOf y, ∀ w ∈ needs y e, w ∈ lw_tbl ∧ okW w = true := by
  have h : y < 155 := h
  rcases Nat.lt_or_ge y 20 with q0 | q0
  · exact kk_in_0 y (by omega) q0
  rcases Nat.lt_or_ge y 40 with q1 | q1
  · exact kk_in_1 y (by omega) q1
  rcases Nat.lt_or_ge y 60 with q2 | q2
  · exact kk_in_2 y (by omega) q2
  rcases Nat.lt_or_ge y 80 with q3 | q3
  · exact kk_in_3 y (by omega) q3
  rcases Nat.lt_or_ge y 100 with q4 | q4
  · exact kk_in_4 y (by omega) q4
  rcases Nat.lt_or_ge y 120 with q5 | q5
  · exact kk_in_5 y (by omega) q5
  rcases Nat.lt_or_ge y 140 with q6 | q6
  · exact kk_in_6 y (by omega) q6
  exact kk_in_7 y (by omega) (by omega)
set_option maxRecDepth 100000 in
theorem lay_0 : ∀ w ∈ u_ws RX0 TX0 4, w ∈ GW := lay_of (ps := [88, 90, 92, 94]) (by decide +kernel) (by decide +kernel)
set_option maxRecDepth 100000 in
theorem lay_1 : ∀ w ∈ u_ws RX1 TX1 5, w ∈ GW := lay_of (ps := [120, 122, 124, 126, 128]) (by decide +kernel) (by decide +kernel)
set_option maxRecDepth 100000 in
theorem lay_2 : ∀ w ∈ u_ws RX2 TX2 9, w ∈ GW := lay_of (ps := [199, 201, 203, 205, 207, 209, 211, 213, 215]) (by decide +kernel) (by decide +kernel)
set_option maxRecDepth 100000 in
theorem lay_3 : ∀ w ∈ u_ws RX3 TX3 11, w ∈ GW := lay_of (ps := [153, 155, 157, 159, 161, 163, 165, 167, 169, 171, 173]) (by decide +kernel) (by decide +kernel)
set_option maxRecDepth 100000 in
theorem lay_4 : ∀ w ∈ u_ws RX4 TX4 6, w ∈ GW := lay_of (ps := [224, 226, 228, 230, 232, 234]) (by decide +kernel) (by decide +kernel)
set_option maxRecDepth 100000 in
theorem lay_5 : ∀ w ∈ u_ws RX5 TX5 15, w ∈ GW := lay_of (ps := [628, 630, 632, 634, 636, 638, 640, 642, 644, 646, 648, 650, 652, 654, 656]) (by decide +kernel) (by decide +kernel)
theorem lay_all {c : Nat} (h : c < 6) : ∀ w ∈ u_ws (vAt c).1 (vAt c).2.1 (vAt c).2.2, w ∈ GW := by
  rcases (show c = 0 ∨ c = 1 ∨ c = 2 ∨ c = 3 ∨ c = 4 ∨ c = 5 by omega) with rfl | rfl | rfl | rfl | rfl | rfl
  · exact lay_0
  · exact lay_1
  · exact lay_2
  · exact lay_3
  · exact lay_4
  · exact lay_5
theorem own_all : ∀ y, y < NM → mOwn y = (mName y).cls ∧ (mIni y = true → (mName y).name = "<init>") := by
  have h : (List.range NM).all (fun y => decide (mOwn y = (mName y).cls) && (!mIni y || decide ((mName y).name = "<init>"))) = true := by decide +kernel
  intro y hy
  have h1 := List.all_eq_true.mp h y (List.mem_range.mpr hy)
  rw [Bool.and_eq_true, decide_eq_true_eq] at h1
  refine ⟨h1.1, fun q => ?_⟩
  have h2 := h1.2
  rw [q] at h2
  simpa using h2
theorem kok : KOK := ⟨fun _ h => kk_ok h, fun _ h => kk_in h, fun _ h => lay_all h, own_all⟩
theorem inst_in (k : Nat) (h : k < 6) : Cond.instantiable (vAt k).1 (vAt k).2.2 ∈ lw_tbl := by
  rcases (show k = 0 ∨ k = 1 ∨ k = 2 ∨ k = 3 ∨ k = 4 ∨ k = 5 by omega) with rfl | rfl | rfl | rfl | rfl | rfl
  · exact List.mem_of_getElem? (i := 72) (by decide +kernel)
  · exact List.mem_of_getElem? (i := 98) (by decide +kernel)
  · exact List.mem_of_getElem? (i := 180) (by decide +kernel)
  · exact List.mem_of_getElem? (i := 63) (by decide +kernel)
  · exact List.mem_of_getElem? (i := 55) (by decide +kernel)
  · exact List.mem_of_getElem? (i := 608) (by decide +kernel)
theorem arrI_in : Cond.arrayClass .int ∈ lw_tbl := List.mem_of_getElem? (i := 97) (by decide +kernel)
theorem arrQ_in (k : Nat) (h : k = 1 ∨ k = 2 ∨ k = 3) : Cond.arrayOver (.object (aKind k)) ∈ lw_tbl := by
  rcases h with rfl | rfl | rfl
  · exact List.mem_of_getElem? (i := 69) (by decide +kernel)
  · exact List.mem_of_getElem? (i := 71) (by decide +kernel)
  · exact List.mem_of_getElem? (i := 176) (by decide +kernel)
