theorem lay_of {ws : List Cond} {ps : List Nat} (h : ws = ps.filterMap (fun p => lw_tbl[p]?)) (hg : ws.all goodWord = true) : ∀ w ∈ ws, w ∈ GW := by
  intro w hw
  refine List.mem_filter.mpr ⟨?_, List.all_eq_true.mp hg w hw⟩
  rw [h] at hw
  obtain ⟨p, -, hp⟩ := List.mem_filterMap.mp hw
  exact List.mem_of_getElem? hp
theorem kk_ok_0 (y : Nat) (h1 : 0 ≤ y) (h2 : y < 20) : (kOf y).all (eok y) = true := by
  rcases (show y = 0 ∨ y = 1 ∨ y = 2 ∨ y = 3 ∨ y = 4 ∨ y = 5 ∨ y = 6 ∨ y = 7 ∨ y = 8 ∨ y = 9 ∨ y = 10 ∨ y = 11 ∨ y = 12 ∨ y = 13 ∨ y = 14 ∨ y = 15 ∨ y = 16 ∨ y = 17 ∨ y = 18 ∨ y = 19 by omega) with rfl | rfl | rfl | rfl | rfl | rfl | rfl | rfl | rfl | rfl | rfl | rfl | rfl | rfl | rfl | rfl | rfl | rfl | rfl | rfl
  · exact k0_ok
  · exact k1_ok
  · exact k2_ok
  · exact k3_ok
  · exact k4_ok
  · exact k5_ok
  · exact k6_ok
  · exact k7_ok
  · exact k8_ok
  · exact k9_ok
  · exact k10_ok
  · exact k11_ok
  · exact k12_ok
  · exact k13_ok
  · exact k14_ok
  · exact k15_ok
  · exact k16_ok
  · exact k17_ok
  · exact k18_ok
  · exact k19_ok
theorem kk_ok_1 (y : Nat) (h1 : 20 ≤ y) (h2 : y < 40) : (kOf y).all (eok y) = true := by
  rcases (show y = 20 ∨ y = 21 ∨ y = 22 ∨ y = 23 ∨ y = 24 ∨ y = 25 ∨ y = 26 ∨ y = 27 ∨ y = 28 ∨ y = 29 ∨ y = 30 ∨ y = 31 ∨ y = 32 ∨ y = 33 ∨ y = 34 ∨ y = 35 ∨ y = 36 ∨ y = 37 ∨ y = 38 ∨ y = 39 by omega) with rfl | rfl | rfl | rfl | rfl | rfl | rfl | rfl | rfl | rfl | rfl | rfl | rfl | rfl | rfl | rfl | rfl | rfl | rfl | rfl
  · exact k20_ok
  · exact k21_ok
  · exact k22_ok
  · exact k23_ok
  · exact k24_ok
  · exact k25_ok
  · exact k26_ok
  · exact k27_ok
  · exact k28_ok
  · exact k29_ok
  · exact k30_ok
  · exact k31_ok
  · exact k32_ok
  · exact k33_ok
  · exact k34_ok
  · exact k35_ok
  · exact k36_ok
  · exact k37_ok
  · exact k38_ok
  · exact k39_ok
theorem kk_ok_2 (y : Nat) (h1 : 40 ≤ y) (h2 : y < 60) : (kOf y).all (eok y) = true := by
  rcases (show y = 40 ∨ y = 41 ∨ y = 42 ∨ y = 43 ∨ y = 44 ∨ y = 45 ∨ y = 46 ∨ y = 47 ∨ y = 48 ∨ y = 49 ∨ y = 50 ∨ y = 51 ∨ y = 52 ∨ y = 53 ∨ y = 54 ∨ y = 55 ∨ y = 56 ∨ y = 57 ∨ y = 58 ∨ y = 59 by omega) with rfl | rfl | rfl | rfl | rfl | rfl | rfl | rfl | rfl | rfl | rfl | rfl | rfl | rfl | rfl | rfl | rfl | rfl | rfl | rfl
  · exact k40_ok
  · exact k41_ok
  · exact k42_ok
  · exact k43_ok
  · exact k44_ok
  · exact k45_ok
  · exact k46_ok
  · exact k47_ok
  · exact k48_ok
  · exact k49_ok
  · exact k50_ok
  · exact k51_ok
  · exact k52_ok
  · exact k53_ok
  · exact k54_ok
  · exact k55_ok
  · exact k56_ok
  · exact k57_ok
  · exact k58_ok
  · exact k59_ok
theorem kk_ok_3 (y : Nat) (h1 : 60 ≤ y) (h2 : y < 80) : (kOf y).all (eok y) = true := by
  rcases (show y = 60 ∨ y = 61 ∨ y = 62 ∨ y = 63 ∨ y = 64 ∨ y = 65 ∨ y = 66 ∨ y = 67 ∨ y = 68 ∨ y = 69 ∨ y = 70 ∨ y = 71 ∨ y = 72 ∨ y = 73 ∨ y = 74 ∨ y = 75 ∨ y = 76 ∨ y = 77 ∨ y = 78 ∨ y = 79 by omega) with rfl | rfl | rfl | rfl | rfl | rfl | rfl | rfl | rfl | rfl | rfl | rfl | rfl | rfl | rfl | rfl | rfl | rfl | rfl | rfl
  · exact k60_ok
  · exact k61_ok
  · exact k62_ok
  · exact k63_ok
  · exact k64_ok
  · exact k65_ok
  · exact k66_ok
  · exact k67_ok
  · exact k68_ok
  · exact k69_ok
  · exact k70_ok
  · exact k71_ok
  · exact k72_ok
  · exact k73_ok
  · exact k74_ok
  · exact k75_ok
  · exact k76_ok
  · exact k77_ok
  · exact k78_ok
  · exact k79_ok
theorem kk_ok_4 (y : Nat) (h1 : 80 ≤ y) (h2 : y < 83) : (kOf y).all (eok y) = true := by
  rcases (show y = 80 ∨ y = 81 ∨ y = 82 by omega) with rfl | rfl | rfl
  · exact k80_ok
  · exact k81_ok
  · exact k82_ok
theorem kk_ok {y : Nat} (h : y < NM) : (kOf y).all (eok y) = true := by
  have h : y < 83 := h
  rcases Nat.lt_or_ge y 20 with q0 | q0
  · exact kk_ok_0 y (by omega) q0
  rcases Nat.lt_or_ge y 40 with q1 | q1
  · exact kk_ok_1 y (by omega) q1
  rcases Nat.lt_or_ge y 60 with q2 | q2
  · exact kk_ok_2 y (by omega) q2
  rcases Nat.lt_or_ge y 80 with q3 | q3
  · exact kk_ok_3 y (by omega) q3
  exact kk_ok_4 y (by omega) (by omega)
theorem kk_in_0 (y : Nat) (h1 : 0 ≤ y) (h2 : y < 20) : ∀ e ∈ kOf y, ∀ w ∈ needs y e, w ∈ lw_tbl ∧ okW w = true := by
  rcases (show y = 0 ∨ y = 1 ∨ y = 2 ∨ y = 3 ∨ y = 4 ∨ y = 5 ∨ y = 6 ∨ y = 7 ∨ y = 8 ∨ y = 9 ∨ y = 10 ∨ y = 11 ∨ y = 12 ∨ y = 13 ∨ y = 14 ∨ y = 15 ∨ y = 16 ∨ y = 17 ∨ y = 18 ∨ y = 19 by omega) with rfl | rfl | rfl | rfl | rfl | rfl | rfl | rfl | rfl | rfl | rfl | rfl | rfl | rfl | rfl | rfl | rfl | rfl | rfl | rfl
  · exact k0_in
  · exact k1_in
  · exact k2_in
  · exact k3_in
  · exact k4_in
  · exact k5_in
  · exact k6_in
  · exact k7_in
  · exact k8_in
  · exact k9_in
  · exact k10_in
  · exact k11_in
  · exact k12_in
  · exact k13_in
  · exact k14_in
  · exact k15_in
  · exact k16_in
  · exact k17_in
  · exact k18_in
  · exact k19_in
theorem kk_in_1 (y : Nat) (h1 : 20 ≤ y) (h2 : y < 40) : ∀ e ∈ kOf y, ∀ w ∈ needs y e, w ∈ lw_tbl ∧ okW w = true := by
  rcases (show y = 20 ∨ y = 21 ∨ y = 22 ∨ y = 23 ∨ y = 24 ∨ y = 25 ∨ y = 26 ∨ y = 27 ∨ y = 28 ∨ y = 29 ∨ y = 30 ∨ y = 31 ∨ y = 32 ∨ y = 33 ∨ y = 34 ∨ y = 35 ∨ y = 36 ∨ y = 37 ∨ y = 38 ∨ y = 39 by omega) with rfl | rfl | rfl | rfl | rfl | rfl | rfl | rfl | rfl | rfl | rfl | rfl | rfl | rfl | rfl | rfl | rfl | rfl | rfl | rfl
  · exact k20_in
  · exact k21_in
  · exact k22_in
  · exact k23_in
  · exact k24_in
  · exact k25_in
  · exact k26_in
  · exact k27_in
  · exact k28_in
  · exact k29_in
  · exact k30_in
  · exact k31_in
  · exact k32_in
  · exact k33_in
  · exact k34_in
  · exact k35_in
  · exact k36_in
  · exact k37_in
  · exact k38_in
  · exact k39_in
theorem kk_in_2 (y : Nat) (h1 : 40 ≤ y) (h2 : y < 60) : ∀ e ∈ kOf y, ∀ w ∈ needs y e, w ∈ lw_tbl ∧ okW w = true := by
  rcases (show y = 40 ∨ y = 41 ∨ y = 42 ∨ y = 43 ∨ y = 44 ∨ y = 45 ∨ y = 46 ∨ y = 47 ∨ y = 48 ∨ y = 49 ∨ y = 50 ∨ y = 51 ∨ y = 52 ∨ y = 53 ∨ y = 54 ∨ y = 55 ∨ y = 56 ∨ y = 57 ∨ y = 58 ∨ y = 59 by omega) with rfl | rfl | rfl | rfl | rfl | rfl | rfl | rfl | rfl | rfl | rfl | rfl | rfl | rfl | rfl | rfl | rfl | rfl | rfl | rfl
  · exact k40_in
  · exact k41_in
  · exact k42_in
  · exact k43_in
  · exact k44_in
  · exact k45_in
  · exact k46_in
  · exact k47_in
  · exact k48_in
  · exact k49_in
  · exact k50_in
  · exact k51_in
  · exact k52_in
  · exact k53_in
  · exact k54_in
  · exact k55_in
  · exact k56_in
  · exact k57_in
  · exact k58_in
  · exact k59_in
theorem kk_in_3 (y : Nat) (h1 : 60 ≤ y) (h2 : y < 80) : ∀ e ∈ kOf y, ∀ w ∈ needs y e, w ∈ lw_tbl ∧ okW w = true := by
  rcases (show y = 60 ∨ y = 61 ∨ y = 62 ∨ y = 63 ∨ y = 64 ∨ y = 65 ∨ y = 66 ∨ y = 67 ∨ y = 68 ∨ y = 69 ∨ y = 70 ∨ y = 71 ∨ y = 72 ∨ y = 73 ∨ y = 74 ∨ y = 75 ∨ y = 76 ∨ y = 77 ∨ y = 78 ∨ y = 79 by omega) with rfl | rfl | rfl | rfl | rfl | rfl | rfl | rfl | rfl | rfl | rfl | rfl | rfl | rfl | rfl | rfl | rfl | rfl | rfl | rfl
  · exact k60_in
  · exact k61_in
  · exact k62_in
  · exact k63_in
  · exact k64_in
  · exact k65_in
  · exact k66_in
  · exact k67_in
  · exact k68_in
  · exact k69_in
  · exact k70_in
  · exact k71_in
  · exact k72_in
  · exact k73_in
  · exact k74_in
  · exact k75_in
  · exact k76_in
  · exact k77_in
  · exact k78_in
  · exact k79_in
theorem kk_in_4 (y : Nat) (h1 : 80 ≤ y) (h2 : y < 83) : ∀ e ∈ kOf y, ∀ w ∈ needs y e, w ∈ lw_tbl ∧ okW w = true := by
  rcases (show y = 80 ∨ y = 81 ∨ y = 82 by omega) with rfl | rfl | rfl
  · exact k80_in
  · exact k81_in
  · exact k82_in
theorem kk_in {y : Nat} (h : y < NM) : ∀ e ∈ kOf y, ∀ w ∈ needs y e, w ∈ lw_tbl ∧ okW w = true := by
  have h : y < 83 := h
  rcases Nat.lt_or_ge y 20 with q0 | q0
  · exact kk_in_0 y (by omega) q0
  rcases Nat.lt_or_ge y 40 with q1 | q1
  · exact kk_in_1 y (by omega) q1
  rcases Nat.lt_or_ge y 60 with q2 | q2
  · exact kk_in_2 y (by omega) q2
  rcases Nat.lt_or_ge y 80 with q3 | q3
  · exact kk_in_3 y (by omega) q3
  exact kk_in_4 y (by omega) (by omega)
set_option maxRecDepth 100000 in
theorem lay_0 : ∀ w ∈ u_ws RX0 TX0 4, w ∈ GW := lay_of (ps := [45, 47, 49, 51]) (by decide +kernel) (by decide +kernel)
set_option maxRecDepth 100000 in
theorem lay_1 : ∀ w ∈ u_ws RX1 TX1 5, w ∈ GW := lay_of (ps := [77, 79, 81, 83, 85]) (by decide +kernel) (by decide +kernel)
set_option maxRecDepth 100000 in
theorem lay_2 : ∀ w ∈ u_ws RX2 TX2 9, w ∈ GW := lay_of (ps := [152, 154, 156, 158, 160, 162, 164, 166, 168]) (by decide +kernel) (by decide +kernel)
set_option maxRecDepth 100000 in
theorem lay_3 : ∀ w ∈ u_ws RX3 TX3 11, w ∈ GW := lay_of (ps := [110, 112, 114, 116, 118, 120, 122, 124, 126, 128, 130]) (by decide +kernel) (by decide +kernel)
set_option maxRecDepth 100000 in
theorem lay_4 : ∀ w ∈ u_ws RX4 TX4 6, w ∈ GW := lay_of (ps := [177, 179, 181, 183, 185, 187]) (by decide +kernel) (by decide +kernel)
theorem lay_all {c : Nat} (h : c < 5) : ∀ w ∈ u_ws (vAt c).1 (vAt c).2.1 (vAt c).2.2, w ∈ GW := by
  rcases (show c = 0 ∨ c = 1 ∨ c = 2 ∨ c = 3 ∨ c = 4 by omega) with rfl | rfl | rfl | rfl | rfl
  · exact lay_0
  · exact lay_1
  · exact lay_2
  · exact lay_3
  · exact lay_4
theorem own_all : ∀ y, y < NM → mOwn y = (mName y).cls ∧ (mIni y = true → (mName y).name = "<init>") := by
  have h : (List.range NM).all (fun y => decide (mOwn y = (mName y).cls) && (!mIni y || decide ((mName y).name = "<init>"))) = true := by decide +kernel
  intro y hy
  have h1 := List.all_eq_true.mp h y (List.mem_range.mpr hy)
  rw [Bool.and_eq_true, decide_eq_true_eq] at h1
  refine ⟨h1.1, fun q => ?_⟩
  have h2 := h1.2
  rw [q] at h2
  simpa using h2
theorem kok : KOK := ⟨fun _ h => kk_ok h, fun _ h => kk_in h, fun _ h => lay_all h, own_all⟩
theorem inst_in (k : Nat) (h : k < 5) : Cond.instantiable (vAt k).1 (vAt k).2.2 ∈ lw_tbl := by
  rcases (show k = 0 ∨ k = 1 ∨ k = 2 ∨ k = 3 ∨ k = 4 by omega) with rfl | rfl | rfl | rfl | rfl
  · exact List.mem_of_getElem? (i := 31) (by decide +kernel)
  · exact List.mem_of_getElem? (i := 55) (by decide +kernel)
  · exact List.mem_of_getElem? (i := 137) (by decide +kernel)
  · exact List.mem_of_getElem? (i := 22) (by decide +kernel)
  · exact List.mem_of_getElem? (i := 14) (by decide +kernel)
theorem arrI_in : Cond.arrayClass .int ∈ lw_tbl := List.mem_of_getElem? (i := 54) (by decide +kernel)
theorem arrQ_in (k : Nat) (h : k = 1 ∨ k = 2 ∨ k = 3) : Cond.arrayOver (.object (aKind k)) ∈ lw_tbl := by
  rcases h with rfl | rfl | rfl
  · exact List.mem_of_getElem? (i := 28) (by decide +kernel)
  · exact List.mem_of_getElem? (i := 30) (by decide +kernel)
  · exact List.mem_of_getElem? (i := 133) (by decide +kernel)
