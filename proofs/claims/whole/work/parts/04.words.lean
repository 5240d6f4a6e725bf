set_option maxRecDepth 100000 in
theorem tG_list {ws : List Cond} (ps : List Nat) (hp : ws = ps.filterMap (fun i => lw_tbl[i]?)) (hg : ws.all goodWord = true) : ∀ w ∈ ws, w ∈ tblG := by
  intro w hw
  have h1 := List.all_eq_true.mp hg w hw
  rw [hp] at hw
  obtain ⟨i, -, hi⟩ := List.mem_filterMap.mp hw
  exact tG hi h1
set_option maxRecDepth 100000 in
theorem inG0 : ∀ w ∈ u_ws RX0 TX0 2, w ∈ tblG := tG_list [260, 262] (by decide +kernel) (by decide +kernel)
set_option maxRecDepth 100000 in
theorem inG1 : ∀ w ∈ u_ws RX1 TX1 11, w ∈ tblG := tG_list [155, 157, 159, 161, 163, 165, 167, 169, 171, 173, 175] (by decide +kernel) (by decide +kernel)
set_option maxRecDepth 100000 in
theorem inG2 : ∀ w ∈ u_ws RX2 TX2 1, w ∈ tblG := tG_list [272] (by decide +kernel) (by decide +kernel)
set_option maxRecDepth 100000 in
theorem inG3 : ∀ w ∈ u_ws RX3 TX3 5, w ∈ tblG := tG_list [217, 219, 221, 223, 225] (by decide +kernel) (by decide +kernel)
set_option maxRecDepth 100000 in
theorem inG4 : ∀ w ∈ u_ws RX4 TX4 3, w ∈ tblG := tG_list [308, 310, 312] (by decide +kernel) (by decide +kernel)
set_option maxRecDepth 100000 in
theorem inG5 : ∀ w ∈ u_ws RX5 TX5 9, w ∈ tblG := tG_list [109, 111, 113, 115, 117, 119, 121, 123, 125] (by decide +kernel) (by decide +kernel)
set_option maxRecDepth 100000 in
theorem inG6 : ∀ w ∈ u_ws RX6 TX6 4, w ∈ tblG := tG_list [192, 194, 196, 198] (by decide +kernel) (by decide +kernel)
set_option maxRecDepth 100000 in
theorem inG7 : ∀ w ∈ u_ws RX7 TX7 4, w ∈ tblG := tG_list [285, 287, 289, 291] (by decide +kernel) (by decide +kernel)
set_option maxRecDepth 100000 in
theorem inG8 : ∀ w ∈ u_ws RX8 TX8 4, w ∈ tblG := tG_list [240, 242, 244, 246] (by decide +kernel) (by decide +kernel)
set_option maxRecDepth 100000 in
theorem inG9 : ∀ w ∈ u_ws RX9 TX9 11, w ∈ tblG := tG_list [326, 328, 330, 332, 334, 336, 338, 340, 342, 344, 346] (by decide +kernel) (by decide +kernel)
set_option maxRecDepth 100000 in
theorem inG10 : ∀ w ∈ u_ws RX10 TX10 20, w ∈ tblG := tG_list [834, 836, 838, 840, 842, 844, 846, 848, 850, 852, 854, 856, 858, 860, 862, 864, 866, 868, 870, 872] (by decide +kernel) (by decide +kernel)
set_option maxRecDepth 100000 in
theorem fl_X5_18 : FL RX5 18 5 0 := ⟨_, _, _, rfl, by decide, inG5, rfl, tG (i := 88) rfl rfl⟩
set_option maxRecDepth 100000 in
theorem fp_X5_18 : FP RX5 18 5 0 .int := ⟨_, _, _, tyX5, rfl, by decide, inG5, rfl, tG (i := 88) rfl rfl, tyX5_ok, nmX5, rfl, rfl⟩
set_option maxRecDepth 100000 in
theorem fl_X1_84 : FL RX1 84 5 0 := ⟨_, _, _, rfl, by decide, inG5, rfl, tG (i := 89) rfl rfl⟩
set_option maxRecDepth 100000 in
theorem fp_X1_84 : FP RX1 84 5 0 .int := ⟨_, _, _, tyX5, rfl, by decide, inG5, rfl, tG (i := 89) rfl rfl, tyX5_ok, nmX5, rfl, rfl⟩
set_option maxRecDepth 100000 in
theorem fl_X9_246 : FL RX9 246 5 0 := ⟨_, _, _, rfl, by decide, inG5, rfl, tG (i := 90) rfl rfl⟩
set_option maxRecDepth 100000 in
theorem fp_X9_246 : FP RX9 246 5 0 .int := ⟨_, _, _, tyX5, rfl, by decide, inG5, rfl, tG (i := 90) rfl rfl, tyX5_ok, nmX5, rfl, rfl⟩
set_option maxRecDepth 100000 in
theorem fl_X5_21 : FL RX5 21 5 1 := ⟨_, _, _, rfl, by decide, inG5, rfl, tG (i := 91) rfl rfl⟩
set_option maxRecDepth 100000 in
theorem fp_X5_21 : FP RX5 21 5 1 .int := ⟨_, _, _, tyX5, rfl, by decide, inG5, rfl, tG (i := 91) rfl rfl, tyX5_ok, nmX5, rfl, rfl⟩
set_option maxRecDepth 100000 in
theorem fl_X1_120 : FL RX1 120 5 1 := ⟨_, _, _, rfl, by decide, inG5, rfl, tG (i := 92) rfl rfl⟩
set_option maxRecDepth 100000 in
theorem fp_X1_120 : FP RX1 120 5 1 .int := ⟨_, _, _, tyX5, rfl, by decide, inG5, rfl, tG (i := 92) rfl rfl, tyX5_ok, nmX5, rfl, rfl⟩
set_option maxRecDepth 100000 in
theorem fl_X5_24 : FL RX5 24 5 2 := ⟨_, _, _, rfl, by decide, inG5, rfl, tG (i := 93) rfl rfl⟩
set_option maxRecDepth 100000 in
theorem fp_X5_24 : FP RX5 24 5 2 .int := ⟨_, _, _, tyX5, rfl, by decide, inG5, rfl, tG (i := 93) rfl rfl, tyX5_ok, nmX5, rfl, rfl⟩
set_option maxRecDepth 100000 in
theorem fl_X1_112 : FL RX1 112 5 2 := ⟨_, _, _, rfl, by decide, inG5, rfl, tG (i := 94) rfl rfl⟩
set_option maxRecDepth 100000 in
theorem fp_X1_112 : FP RX1 112 5 2 .int := ⟨_, _, _, tyX5, rfl, by decide, inG5, rfl, tG (i := 94) rfl rfl, tyX5_ok, nmX5, rfl, rfl⟩
set_option maxRecDepth 100000 in
theorem fl_X5_27 : FL RX5 27 5 3 := ⟨_, _, _, rfl, by decide, inG5, rfl, tG (i := 95) rfl rfl⟩
set_option maxRecDepth 100000 in
theorem fp_X5_27 : FP RX5 27 5 3 .int := ⟨_, _, _, tyX5, rfl, by decide, inG5, rfl, tG (i := 95) rfl rfl, tyX5_ok, nmX5, rfl, rfl⟩
set_option maxRecDepth 100000 in
theorem fl_X1_109 : FL RX1 109 5 3 := ⟨_, _, _, rfl, by decide, inG5, rfl, tG (i := 96) rfl rfl⟩
set_option maxRecDepth 100000 in
theorem fp_X1_109 : FP RX1 109 5 3 .int := ⟨_, _, _, tyX5, rfl, by decide, inG5, rfl, tG (i := 96) rfl rfl, tyX5_ok, nmX5, rfl, rfl⟩
set_option maxRecDepth 100000 in
theorem fl_X5_36 : FL RX5 36 5 4 := ⟨_, _, _, rfl, by decide, inG5, rfl, tG (i := 97) rfl rfl⟩
set_option maxRecDepth 100000 in
theorem fp_X5_36 : FP RX5 36 5 4 .int := ⟨_, _, _, tyX5, rfl, by decide, inG5, rfl, tG (i := 97) rfl rfl, tyX5_ok, nmX5, rfl, rfl⟩
set_option maxRecDepth 100000 in
theorem fl_X1_71 : FL RX1 71 5 4 := ⟨_, _, _, rfl, by decide, inG5, rfl, tG (i := 98) rfl rfl⟩
set_option maxRecDepth 100000 in
theorem fp_X1_71 : FP RX1 71 5 4 .int := ⟨_, _, _, tyX5, rfl, by decide, inG5, rfl, tG (i := 98) rfl rfl, tyX5_ok, nmX5, rfl, rfl⟩
set_option maxRecDepth 100000 in
theorem fl_X9_140 : FL RX9 140 5 4 := ⟨_, _, _, rfl, by decide, inG5, rfl, tG (i := 99) rfl rfl⟩
set_option maxRecDepth 100000 in
theorem fp_X9_140 : FP RX9 140 5 4 .int := ⟨_, _, _, tyX5, rfl, by decide, inG5, rfl, tG (i := 99) rfl rfl, tyX5_ok, nmX5, rfl, rfl⟩
set_option maxRecDepth 100000 in
theorem fl_X5_9 : FL RX5 9 5 5 := ⟨_, _, _, rfl, by decide, inG5, rfl, tG (i := 100) rfl rfl⟩
set_option maxRecDepth 100000 in
theorem fp_X5_9 : FP RX5 9 5 5 .int := ⟨_, _, _, tyX5, rfl, by decide, inG5, rfl, tG (i := 100) rfl rfl, tyX5_ok, nmX5, rfl, rfl⟩
set_option maxRecDepth 100000 in
theorem fl_X1_74 : FL RX1 74 5 5 := ⟨_, _, _, rfl, by decide, inG5, rfl, tG (i := 101) rfl rfl⟩
set_option maxRecDepth 100000 in
theorem fp_X1_74 : FP RX1 74 5 5 .int := ⟨_, _, _, tyX5, rfl, by decide, inG5, rfl, tG (i := 101) rfl rfl, tyX5_ok, nmX5, rfl, rfl⟩
set_option maxRecDepth 100000 in
theorem fl_X5_15 : FL RX5 15 5 6 := ⟨_, _, _, rfl, by decide, inG5, rfl, tG (i := 102) rfl rfl⟩
set_option maxRecDepth 100000 in
theorem fp_X5_15 : FP RX5 15 5 6 .int := ⟨_, _, _, tyX5, rfl, by decide, inG5, rfl, tG (i := 102) rfl rfl, tyX5_ok, nmX5, rfl, rfl⟩
set_option maxRecDepth 100000 in
theorem fl_X9_143 : FL RX9 143 5 6 := ⟨_, _, _, rfl, by decide, inG5, rfl, tG (i := 103) rfl rfl⟩
set_option maxRecDepth 100000 in
theorem fp_X9_143 : FP RX9 143 5 6 .int := ⟨_, _, _, tyX5, rfl, by decide, inG5, rfl, tG (i := 103) rfl rfl, tyX5_ok, nmX5, rfl, rfl⟩
set_option maxRecDepth 100000 in
theorem fl_X5_30 : FL RX5 30 5 7 := ⟨_, _, _, rfl, by decide, inG5, rfl, tG (i := 104) rfl rfl⟩
set_option maxRecDepth 100000 in
theorem fp_X5_30 : FP RX5 30 5 7 .int := ⟨_, _, _, tyX5, rfl, by decide, inG5, rfl, tG (i := 104) rfl rfl, tyX5_ok, nmX5, rfl, rfl⟩
set_option maxRecDepth 100000 in
theorem fl_X2_55 : FL RX2 55 5 7 := ⟨_, _, _, rfl, by decide, inG5, rfl, tG (i := 105) rfl rfl⟩
set_option maxRecDepth 100000 in
theorem fp_X2_55 : FP RX2 55 5 7 .int := ⟨_, _, _, tyX5, rfl, by decide, inG5, rfl, tG (i := 105) rfl rfl, tyX5_ok, nmX5, rfl, rfl⟩
set_option maxRecDepth 100000 in
theorem fl_X9_243 : FL RX9 243 5 7 := ⟨_, _, _, rfl, by decide, inG5, rfl, tG (i := 106) rfl rfl⟩
set_option maxRecDepth 100000 in
theorem fp_X9_243 : FP RX9 243 5 7 .int := ⟨_, _, _, tyX5, rfl, by decide, inG5, rfl, tG (i := 106) rfl rfl, tyX5_ok, nmX5, rfl, rfl⟩
set_option maxRecDepth 100000 in
theorem fl_X1_60 : FL RX1 60 5 8 := ⟨_, _, _, rfl, by decide, inG5, rfl, tG (i := 107) rfl rfl⟩
set_option maxRecDepth 100000 in
theorem fp_X1_60 : FP RX1 60 5 8 .int := ⟨_, _, _, tyX5, rfl, by decide, inG5, rfl, tG (i := 107) rfl rfl, tyX5_ok, nmX5, rfl, rfl⟩
set_option maxRecDepth 100000 in
theorem fl_X5_45 : FL RX5 45 5 8 := ⟨_, _, _, rfl, by decide, inG5, rfl, tG (i := 108) rfl rfl⟩
set_option maxRecDepth 100000 in
theorem fp_X5_45 : FP RX5 45 5 8 .int := ⟨_, _, _, tyX5, rfl, by decide, inG5, rfl, tG (i := 108) rfl rfl, tyX5_ok, nmX5, rfl, rfl⟩
set_option maxRecDepth 100000 in
theorem fl_X1_11 : FL RX1 11 1 0 := ⟨_, _, _, rfl, by decide, inG1, rfl, tG (i := 129) rfl rfl⟩
set_option maxRecDepth 100000 in
theorem fl_X2_51 : FL RX2 51 1 0 := ⟨_, _, _, rfl, by decide, inG1, rfl, tG (i := 130) rfl rfl⟩
set_option maxRecDepth 100000 in
theorem fl_X9_114 : FL RX9 114 1 0 := ⟨_, _, _, rfl, by decide, inG1, rfl, tG (i := 131) rfl rfl⟩
set_option maxRecDepth 100000 in
theorem fl_X1_41 : FL RX1 41 1 1 := ⟨_, _, _, rfl, by decide, inG1, rfl, tG (i := 132) rfl rfl⟩
set_option maxRecDepth 100000 in
theorem fp_X1_41 : FP RX1 41 1 1 .int := ⟨_, _, _, tyX1, rfl, by decide, inG1, rfl, tG (i := 132) rfl rfl, tyX1_ok, nmX1, rfl, rfl⟩
set_option maxRecDepth 100000 in
theorem fl_X3_31 : FL RX3 31 1 1 := ⟨_, _, _, rfl, by decide, inG1, rfl, tG (i := 133) rfl rfl⟩
set_option maxRecDepth 100000 in
theorem fp_X3_31 : FP RX3 31 1 1 .int := ⟨_, _, _, tyX1, rfl, by decide, inG1, rfl, tG (i := 133) rfl rfl, tyX1_ok, nmX1, rfl, rfl⟩
set_option maxRecDepth 100000 in
theorem fl_X2_31 : FL RX2 31 1 1 := ⟨_, _, _, rfl, by decide, inG1, rfl, tG (i := 134) rfl rfl⟩
set_option maxRecDepth 100000 in
theorem fp_X2_31 : FP RX2 31 1 1 .int := ⟨_, _, _, tyX1, rfl, by decide, inG1, rfl, tG (i := 134) rfl rfl, tyX1_ok, nmX1, rfl, rfl⟩
set_option maxRecDepth 100000 in
theorem fl_X9_99 : FL RX9 99 1 1 := ⟨_, _, _, rfl, by decide, inG1, rfl, tG (i := 135) rfl rfl⟩
set_option maxRecDepth 100000 in
theorem fp_X9_99 : FP RX9 99 1 1 .int := ⟨_, _, _, tyX1, rfl, by decide, inG1, rfl, tG (i := 135) rfl rfl, tyX1_ok, nmX1, rfl, rfl⟩
set_option maxRecDepth 100000 in
theorem fl_X1_17 : FL RX1 17 1 2 := ⟨_, _, _, rfl, by decide, inG1, rfl, tG (i := 136) rfl rfl⟩
set_option maxRecDepth 100000 in
theorem fl_X1_21 : FL RX1 21 1 3 := ⟨_, _, _, rfl, by decide, inG1, rfl, tG (i := 137) rfl rfl⟩
set_option maxRecDepth 100000 in
theorem fl_X1_44 : FL RX1 44 1 4 := ⟨_, _, _, rfl, by decide, inG1, rfl, tG (i := 138) rfl rfl⟩
set_option maxRecDepth 100000 in
theorem fp_X1_44 : FP RX1 44 1 4 .int := ⟨_, _, _, tyX1, rfl, by decide, inG1, rfl, tG (i := 138) rfl rfl, tyX1_ok, nmX1, rfl, rfl⟩
set_option maxRecDepth 100000 in
theorem fl_X9_166 : FL RX9 166 1 4 := ⟨_, _, _, rfl, by decide, inG1, rfl, tG (i := 139) rfl rfl⟩
set_option maxRecDepth 100000 in
theorem fp_X9_166 : FP RX9 166 1 4 .int := ⟨_, _, _, tyX1, rfl, by decide, inG1, rfl, tG (i := 139) rfl rfl, tyX1_ok, nmX1, rfl, rfl⟩
set_option maxRecDepth 100000 in
theorem fl_X1_24 : FL RX1 24 1 5 := ⟨_, _, _, rfl, by decide, inG1, rfl, tG (i := 140) rfl rfl⟩
set_option maxRecDepth 100000 in
theorem fl_X9_120 : FL RX9 120 1 5 := ⟨_, _, _, rfl, by decide, inG1, rfl, tG (i := 141) rfl rfl⟩
set_option maxRecDepth 100000 in
theorem fl_X1_27 : FL RX1 27 1 6 := ⟨_, _, _, rfl, by decide, inG1, rfl, tG (i := 142) rfl rfl⟩
set_option maxRecDepth 100000 in
theorem fp_X1_27 : FP RX1 27 1 6 .int := ⟨_, _, _, tyX1, rfl, by decide, inG1, rfl, tG (i := 142) rfl rfl, tyX1_ok, nmX1, rfl, rfl⟩
set_option maxRecDepth 100000 in
theorem fl_X9_124 : FL RX9 124 1 6 := ⟨_, _, _, rfl, by decide, inG1, rfl, tG (i := 143) rfl rfl⟩
set_option maxRecDepth 100000 in
theorem fp_X9_124 : FP RX9 124 1 6 .int := ⟨_, _, _, tyX1, rfl, by decide, inG1, rfl, tG (i := 143) rfl rfl, tyX1_ok, nmX1, rfl, rfl⟩
set_option maxRecDepth 100000 in
theorem fl_X1_47 : FL RX1 47 1 7 := ⟨_, _, _, rfl, by decide, inG1, rfl, tG (i := 144) rfl rfl⟩
set_option maxRecDepth 100000 in
theorem fp_X1_47 : FP RX1 47 1 7 .int := ⟨_, _, _, tyX1, rfl, by decide, inG1, rfl, tG (i := 144) rfl rfl, tyX1_ok, nmX1, rfl, rfl⟩
set_option maxRecDepth 100000 in
theorem fl_X0_36 : FL RX0 36 1 7 := ⟨_, _, _, rfl, by decide, inG1, rfl, tG (i := 145) rfl rfl⟩
set_option maxRecDepth 100000 in
theorem fp_X0_36 : FP RX0 36 1 7 .int := ⟨_, _, _, tyX1, rfl, by decide, inG1, rfl, tG (i := 145) rfl rfl, tyX1_ok, nmX1, rfl, rfl⟩
set_option maxRecDepth 100000 in
theorem fl_X9_127 : FL RX9 127 1 7 := ⟨_, _, _, rfl, by decide, inG1, rfl, tG (i := 146) rfl rfl⟩
set_option maxRecDepth 100000 in
theorem fp_X9_127 : FP RX9 127 1 7 .int := ⟨_, _, _, tyX1, rfl, by decide, inG1, rfl, tG (i := 146) rfl rfl, tyX1_ok, nmX1, rfl, rfl⟩
set_option maxRecDepth 100000 in
theorem fl_X1_31 : FL RX1 31 1 8 := ⟨_, _, _, rfl, by decide, inG1, rfl, tG (i := 147) rfl rfl⟩
set_option maxRecDepth 100000 in
theorem fl_X2_62 : FL RX2 62 1 8 := ⟨_, _, _, rfl, by decide, inG1, rfl, tG (i := 148) rfl rfl⟩
set_option maxRecDepth 100000 in
theorem fl_X9_237 : FL RX9 237 1 8 := ⟨_, _, _, rfl, by decide, inG1, rfl, tG (i := 149) rfl rfl⟩
set_option maxRecDepth 100000 in
theorem fl_X1_34 : FL RX1 34 1 9 := ⟨_, _, _, rfl, by decide, inG1, rfl, tG (i := 150) rfl rfl⟩
set_option maxRecDepth 100000 in
theorem fl_X2_66 : FL RX2 66 1 9 := ⟨_, _, _, rfl, by decide, inG1, rfl, tG (i := 151) rfl rfl⟩
set_option maxRecDepth 100000 in
theorem fl_X9_240 : FL RX9 240 1 9 := ⟨_, _, _, rfl, by decide, inG1, rfl, tG (i := 152) rfl rfl⟩
set_option maxRecDepth 100000 in
theorem fl_X1_37 : FL RX1 37 1 10 := ⟨_, _, _, rfl, by decide, inG1, rfl, tG (i := 153) rfl rfl⟩
set_option maxRecDepth 100000 in
theorem fl_X9_256 : FL RX9 256 1 10 := ⟨_, _, _, rfl, by decide, inG1, rfl, tG (i := 154) rfl rfl⟩
set_option maxRecDepth 100000 in
theorem fl_X6_11 : FL RX6 11 6 0 := ⟨_, _, _, rfl, by decide, inG6, rfl, tG (i := 186) rfl rfl⟩
set_option maxRecDepth 100000 in
theorem fl_X6_26 : FL RX6 26 6 1 := ⟨_, _, _, rfl, by decide, inG6, rfl, tG (i := 187) rfl rfl⟩
set_option maxRecDepth 100000 in
theorem fp_X6_26 : FP RX6 26 6 1 .int := ⟨_, _, _, tyX6, rfl, by decide, inG6, rfl, tG (i := 187) rfl rfl, tyX6_ok, nmX6, rfl, rfl⟩
set_option maxRecDepth 100000 in
theorem fl_X9_95 : FL RX9 95 6 1 := ⟨_, _, _, rfl, by decide, inG6, rfl, tG (i := 188) rfl rfl⟩
set_option maxRecDepth 100000 in
theorem fp_X9_95 : FP RX9 95 6 1 .int := ⟨_, _, _, tyX6, rfl, by decide, inG6, rfl, tG (i := 188) rfl rfl, tyX6_ok, nmX6, rfl, rfl⟩
set_option maxRecDepth 100000 in
theorem fl_X6_32 : FL RX6 32 6 2 := ⟨_, _, _, rfl, by decide, inG6, rfl, tG (i := 189) rfl rfl⟩
set_option maxRecDepth 100000 in
theorem fp_X6_32 : FP RX6 32 6 2 .int := ⟨_, _, _, tyX6, rfl, by decide, inG6, rfl, tG (i := 189) rfl rfl, tyX6_ok, nmX6, rfl, rfl⟩
set_option maxRecDepth 100000 in
theorem fl_X6_17 : FL RX6 17 6 3 := ⟨_, _, _, rfl, by decide, inG6, rfl, tG (i := 190) rfl rfl⟩
set_option maxRecDepth 100000 in
theorem fl_X9_102 : FL RX9 102 6 3 := ⟨_, _, _, rfl, by decide, inG6, rfl, tG (i := 191) rfl rfl⟩
set_option maxRecDepth 100000 in
theorem fl_X3_9 : FL RX3 9 3 0 := ⟨_, _, _, rfl, by decide, inG3, rfl, tG (i := 209) rfl rfl⟩
set_option maxRecDepth 100000 in
theorem fl_X3_15 : FL RX3 15 3 1 := ⟨_, _, _, rfl, by decide, inG3, rfl, tG (i := 210) rfl rfl⟩
set_option maxRecDepth 100000 in
theorem fl_X3_18 : FL RX3 18 3 2 := ⟨_, _, _, rfl, by decide, inG3, rfl, tG (i := 211) rfl rfl⟩
set_option maxRecDepth 100000 in
theorem fl_X9_182 : FL RX9 182 3 2 := ⟨_, _, _, rfl, by decide, inG3, rfl, tG (i := 212) rfl rfl⟩
set_option maxRecDepth 100000 in
theorem fl_X3_54 : FL RX3 54 3 3 := ⟨_, _, _, rfl, by decide, inG3, rfl, tG (i := 213) rfl rfl⟩
set_option maxRecDepth 100000 in
theorem fp_X3_54 : FP RX3 54 3 3 .int := ⟨_, _, _, tyX3, rfl, by decide, inG3, rfl, tG (i := 213) rfl rfl, tyX3_ok, nmX3, rfl, rfl⟩
set_option maxRecDepth 100000 in
theorem fl_X9_176 : FL RX9 176 3 3 := ⟨_, _, _, rfl, by decide, inG3, rfl, tG (i := 214) rfl rfl⟩
set_option maxRecDepth 100000 in
theorem fp_X9_176 : FP RX9 176 3 3 .int := ⟨_, _, _, tyX3, rfl, by decide, inG3, rfl, tG (i := 214) rfl rfl, tyX3_ok, nmX3, rfl, rfl⟩
set_option maxRecDepth 100000 in
theorem fl_X3_57 : FL RX3 57 3 4 := ⟨_, _, _, rfl, by decide, inG3, rfl, tG (i := 215) rfl rfl⟩
set_option maxRecDepth 100000 in
theorem fp_X3_57 : FP RX3 57 3 4 .int := ⟨_, _, _, tyX3, rfl, by decide, inG3, rfl, tG (i := 215) rfl rfl, tyX3_ok, nmX3, rfl, rfl⟩
set_option maxRecDepth 100000 in
theorem fl_X9_179 : FL RX9 179 3 4 := ⟨_, _, _, rfl, by decide, inG3, rfl, tG (i := 216) rfl rfl⟩
set_option maxRecDepth 100000 in
theorem fp_X9_179 : FP RX9 179 3 4 .int := ⟨_, _, _, tyX3, rfl, by decide, inG3, rfl, tG (i := 216) rfl rfl, tyX3_ok, nmX3, rfl, rfl⟩
set_option maxRecDepth 100000 in
theorem fl_X8_9 : FL RX8 9 8 0 := ⟨_, _, _, rfl, by decide, inG8, rfl, tG (i := 234) rfl rfl⟩
set_option maxRecDepth 100000 in
theorem fl_X8_15 : FL RX8 15 8 1 := ⟨_, _, _, rfl, by decide, inG8, rfl, tG (i := 235) rfl rfl⟩
set_option maxRecDepth 100000 in
theorem fl_X9_209 : FL RX9 209 8 1 := ⟨_, _, _, rfl, by decide, inG8, rfl, tG (i := 236) rfl rfl⟩
set_option maxRecDepth 100000 in
theorem fl_X8_19 : FL RX8 19 8 2 := ⟨_, _, _, rfl, by decide, inG8, rfl, tG (i := 237) rfl rfl⟩
set_option maxRecDepth 100000 in
theorem fp_X8_19 : FP RX8 19 8 2 .long := ⟨_, _, _, tyX8, rfl, by decide, inG8, rfl, tG (i := 237) rfl rfl, tyX8_ok, nmX8, rfl, rfl⟩
set_option maxRecDepth 100000 in
theorem fl_X9_213 : FL RX9 213 8 2 := ⟨_, _, _, rfl, by decide, inG8, rfl, tG (i := 238) rfl rfl⟩
set_option maxRecDepth 100000 in
theorem fp_X9_213 : FP RX9 213 8 2 .long := ⟨_, _, _, tyX8, rfl, by decide, inG8, rfl, tG (i := 238) rfl rfl, tyX8_ok, nmX8, rfl, rfl⟩
set_option maxRecDepth 100000 in
theorem fl_X8_23 : FL RX8 23 8 3 := ⟨_, _, _, rfl, by decide, inG8, rfl, tG (i := 239) rfl rfl⟩
set_option maxRecDepth 100000 in
theorem fp_X8_23 : FP RX8 23 8 3 .int := ⟨_, _, _, tyX8, rfl, by decide, inG8, rfl, tG (i := 239) rfl rfl, tyX8_ok, nmX8, rfl, rfl⟩
set_option maxRecDepth 100000 in
theorem fl_X0_9 : FL RX0 9 0 0 := ⟨_, _, _, rfl, by decide, inG0, rfl, tG (i := 256) rfl rfl⟩
set_option maxRecDepth 100000 in
theorem fl_X9_234 : FL RX9 234 0 0 := ⟨_, _, _, rfl, by decide, inG0, rfl, tG (i := 257) rfl rfl⟩
set_option maxRecDepth 100000 in
theorem fl_X0_32 : FL RX0 32 0 1 := ⟨_, _, _, rfl, by decide, inG0, rfl, tG (i := 258) rfl rfl⟩
set_option maxRecDepth 100000 in
theorem fp_X0_32 : FP RX0 32 0 1 .int := ⟨_, _, _, tyX0, rfl, by decide, inG0, rfl, tG (i := 258) rfl rfl, tyX0_ok, nmX0, rfl, rfl⟩
set_option maxRecDepth 100000 in
theorem fl_X9_227 : FL RX9 227 0 1 := ⟨_, _, _, rfl, by decide, inG0, rfl, tG (i := 259) rfl rfl⟩
set_option maxRecDepth 100000 in
theorem fp_X9_227 : FP RX9 227 0 1 .int := ⟨_, _, _, tyX0, rfl, by decide, inG0, rfl, tG (i := 259) rfl rfl, tyX0_ok, nmX0, rfl, rfl⟩
set_option maxRecDepth 100000 in
theorem fl_X2_11 : FL RX2 11 2 0 := ⟨_, _, _, rfl, by decide, inG2, rfl, tG (i := 271) rfl rfl⟩
set_option maxRecDepth 100000 in
theorem fl_X7_11 : FL RX7 11 7 0 := ⟨_, _, _, rfl, by decide, inG7, rfl, tG (i := 281) rfl rfl⟩
set_option maxRecDepth 100000 in
theorem fl_X7_15 : FL RX7 15 7 1 := ⟨_, _, _, rfl, by decide, inG7, rfl, tG (i := 282) rfl rfl⟩
set_option maxRecDepth 100000 in
theorem fl_X7_18 : FL RX7 18 7 2 := ⟨_, _, _, rfl, by decide, inG7, rfl, tG (i := 283) rfl rfl⟩
set_option maxRecDepth 100000 in
theorem fl_X7_21 : FL RX7 21 7 3 := ⟨_, _, _, rfl, by decide, inG7, rfl, tG (i := 284) rfl rfl⟩
set_option maxRecDepth 100000 in
theorem fl_X4_9 : FL RX4 9 4 0 := ⟨_, _, _, rfl, by decide, inG4, rfl, tG (i := 301) rfl rfl⟩
set_option maxRecDepth 100000 in
theorem fl_X8_27 : FL RX8 27 4 0 := ⟨_, _, _, rfl, by decide, inG4, rfl, tG (i := 302) rfl rfl⟩
set_option maxRecDepth 100000 in
theorem fl_X9_290 : FL RX9 290 4 0 := ⟨_, _, _, rfl, by decide, inG4, rfl, tG (i := 303) rfl rfl⟩
set_option maxRecDepth 100000 in
theorem fl_X4_15 : FL RX4 15 4 1 := ⟨_, _, _, rfl, by decide, inG4, rfl, tG (i := 304) rfl rfl⟩
set_option maxRecDepth 100000 in
theorem fp_X4_15 : FP RX4 15 4 1 .int := ⟨_, _, _, tyX4, rfl, by decide, inG4, rfl, tG (i := 304) rfl rfl, tyX4_ok, nmX4, rfl, rfl⟩
set_option maxRecDepth 100000 in
theorem fl_X9_283 : FL RX9 283 4 1 := ⟨_, _, _, rfl, by decide, inG4, rfl, tG (i := 305) rfl rfl⟩
set_option maxRecDepth 100000 in
theorem fp_X9_283 : FP RX9 283 4 1 .int := ⟨_, _, _, tyX4, rfl, by decide, inG4, rfl, tG (i := 305) rfl rfl, tyX4_ok, nmX4, rfl, rfl⟩
set_option maxRecDepth 100000 in
theorem fl_X4_19 : FL RX4 19 4 2 := ⟨_, _, _, rfl, by decide, inG4, rfl, tG (i := 306) rfl rfl⟩
set_option maxRecDepth 100000 in
theorem fp_X4_19 : FP RX4 19 4 2 .int := ⟨_, _, _, tyX4, rfl, by decide, inG4, rfl, tG (i := 306) rfl rfl, tyX4_ok, nmX4, rfl, rfl⟩
set_option maxRecDepth 100000 in
theorem fl_X9_286 : FL RX9 286 4 2 := ⟨_, _, _, rfl, by decide, inG4, rfl, tG (i := 307) rfl rfl⟩
set_option maxRecDepth 100000 in
theorem fp_X9_286 : FP RX9 286 4 2 .int := ⟨_, _, _, tyX4, rfl, by decide, inG4, rfl, tG (i := 307) rfl rfl, tyX4_ok, nmX4, rfl, rfl⟩
set_option maxRecDepth 100000 in
theorem fl_X9_10 : FL RX9 10 9 0 := ⟨_, _, _, rfl, by decide, inG9, rfl, tG (i := 315) rfl rfl⟩
set_option maxRecDepth 100000 in
theorem fl_X9_16 : FL RX9 16 9 1 := ⟨_, _, _, rfl, by decide, inG9, rfl, tG (i := 316) rfl rfl⟩
set_option maxRecDepth 100000 in
theorem fl_X9_271 : FL RX9 271 9 2 := ⟨_, _, _, rfl, by decide, inG9, rfl, tG (i := 317) rfl rfl⟩
set_option maxRecDepth 100000 in
theorem fp_X9_271 : FP RX9 271 9 2 .boolean := ⟨_, _, _, tyX9, rfl, by decide, inG9, rfl, tG (i := 317) rfl rfl, tyX9_ok, nmX9, rfl, rfl⟩
set_option maxRecDepth 100000 in
theorem fl_X9_22 : FL RX9 22 9 3 := ⟨_, _, _, rfl, by decide, inG9, rfl, tG (i := 318) rfl rfl⟩
set_option maxRecDepth 100000 in
theorem fl_X9_29 : FL RX9 29 9 4 := ⟨_, _, _, rfl, by decide, inG9, rfl, tG (i := 319) rfl rfl⟩
set_option maxRecDepth 100000 in
theorem fl_X9_36 : FL RX9 36 9 5 := ⟨_, _, _, rfl, by decide, inG9, rfl, tG (i := 320) rfl rfl⟩
set_option maxRecDepth 100000 in
theorem fl_X9_43 : FL RX9 43 9 6 := ⟨_, _, _, rfl, by decide, inG9, rfl, tG (i := 321) rfl rfl⟩
set_option maxRecDepth 100000 in
theorem fl_X9_50 : FL RX9 50 9 7 := ⟨_, _, _, rfl, by decide, inG9, rfl, tG (i := 322) rfl rfl⟩
set_option maxRecDepth 100000 in
theorem fl_X9_57 : FL RX9 57 9 8 := ⟨_, _, _, rfl, by decide, inG9, rfl, tG (i := 323) rfl rfl⟩
set_option maxRecDepth 100000 in
theorem fl_X9_64 : FL RX9 64 9 9 := ⟨_, _, _, rfl, by decide, inG9, rfl, tG (i := 324) rfl rfl⟩
set_option maxRecDepth 100000 in
theorem fl_X9_70 : FL RX9 70 9 10 := ⟨_, _, _, rfl, by decide, inG9, rfl, tG (i := 325) rfl rfl⟩
set_option maxRecDepth 100000 in
theorem fl_X10_7 : FL RX10 7 10 0 := ⟨_, _, _, rfl, by decide, inG10, rfl, tG (i := 814) rfl rfl⟩
set_option maxRecDepth 100000 in
theorem fl_X10_13 : FL RX10 13 10 1 := ⟨_, _, _, rfl, by decide, inG10, rfl, tG (i := 815) rfl rfl⟩
set_option maxRecDepth 100000 in
theorem fl_X10_91 : FL RX10 91 10 2 := ⟨_, _, _, rfl, by decide, inG10, rfl, tG (i := 816) rfl rfl⟩
set_option maxRecDepth 100000 in
theorem fp_X10_91 : FP RX10 91 10 2 .int := ⟨_, _, _, tyX10, rfl, by decide, inG10, rfl, tG (i := 816) rfl rfl, tyX10_ok, nmX10, rfl, rfl⟩
set_option maxRecDepth 100000 in
theorem fl_X10_95 : FL RX10 95 10 3 := ⟨_, _, _, rfl, by decide, inG10, rfl, tG (i := 817) rfl rfl⟩
set_option maxRecDepth 100000 in
theorem fp_X10_95 : FP RX10 95 10 3 .int := ⟨_, _, _, tyX10, rfl, by decide, inG10, rfl, tG (i := 817) rfl rfl, tyX10_ok, nmX10, rfl, rfl⟩
set_option maxRecDepth 100000 in
theorem fl_X10_120 : FL RX10 120 10 4 := ⟨_, _, _, rfl, by decide, inG10, rfl, tG (i := 818) rfl rfl⟩
set_option maxRecDepth 100000 in
theorem fp_X10_120 : FP RX10 120 10 4 .int := ⟨_, _, _, tyX10, rfl, by decide, inG10, rfl, tG (i := 818) rfl rfl, tyX10_ok, nmX10, rfl, rfl⟩
set_option maxRecDepth 100000 in
theorem fl_X10_16 : FL RX10 16 10 5 := ⟨_, _, _, rfl, by decide, inG10, rfl, tG (i := 819) rfl rfl⟩
set_option maxRecDepth 100000 in
theorem fl_X10_19 : FL RX10 19 10 6 := ⟨_, _, _, rfl, by decide, inG10, rfl, tG (i := 820) rfl rfl⟩
set_option maxRecDepth 100000 in
theorem fl_X10_22 : FL RX10 22 10 7 := ⟨_, _, _, rfl, by decide, inG10, rfl, tG (i := 821) rfl rfl⟩
set_option maxRecDepth 100000 in
theorem fl_X10_25 : FL RX10 25 10 8 := ⟨_, _, _, rfl, by decide, inG10, rfl, tG (i := 822) rfl rfl⟩
set_option maxRecDepth 100000 in
theorem fl_X10_29 : FL RX10 29 10 9 := ⟨_, _, _, rfl, by decide, inG10, rfl, tG (i := 823) rfl rfl⟩
set_option maxRecDepth 100000 in
theorem fl_X10_32 : FL RX10 32 10 10 := ⟨_, _, _, rfl, by decide, inG10, rfl, tG (i := 824) rfl rfl⟩
set_option maxRecDepth 100000 in
theorem fl_X10_35 : FL RX10 35 10 11 := ⟨_, _, _, rfl, by decide, inG10, rfl, tG (i := 825) rfl rfl⟩
set_option maxRecDepth 100000 in
theorem fl_X10_38 : FL RX10 38 10 12 := ⟨_, _, _, rfl, by decide, inG10, rfl, tG (i := 826) rfl rfl⟩
set_option maxRecDepth 100000 in
theorem fl_X10_41 : FL RX10 41 10 13 := ⟨_, _, _, rfl, by decide, inG10, rfl, tG (i := 827) rfl rfl⟩
set_option maxRecDepth 100000 in
theorem fl_X10_44 : FL RX10 44 10 14 := ⟨_, _, _, rfl, by decide, inG10, rfl, tG (i := 828) rfl rfl⟩
set_option maxRecDepth 100000 in
theorem fl_X10_240 : FL RX10 240 10 15 := ⟨_, _, _, rfl, by decide, inG10, rfl, tG (i := 829) rfl rfl⟩
set_option maxRecDepth 100000 in
theorem fp_X10_240 : FP RX10 240 10 15 .boolean := ⟨_, _, _, tyX10, rfl, by decide, inG10, rfl, tG (i := 829) rfl rfl, tyX10_ok, nmX10, rfl, rfl⟩
set_option maxRecDepth 100000 in
theorem fl_X10_47 : FL RX10 47 10 16 := ⟨_, _, _, rfl, by decide, inG10, rfl, tG (i := 830) rfl rfl⟩
set_option maxRecDepth 100000 in
theorem fl_X10_50 : FL RX10 50 10 17 := ⟨_, _, _, rfl, by decide, inG10, rfl, tG (i := 831) rfl rfl⟩
set_option maxRecDepth 100000 in
theorem fl_X10_53 : FL RX10 53 10 18 := ⟨_, _, _, rfl, by decide, inG10, rfl, tG (i := 832) rfl rfl⟩
set_option maxRecDepth 100000 in
theorem fl_X10_56 : FL RX10 56 10 19 := ⟨_, _, _, rfl, by decide, inG10, rfl, tG (i := 833) rfl rfl⟩
set_option maxRecDepth 100000 in
theorem kw_X6_30 : Cond.constantLong RX6 30 (255) ∈ tblG := tG (i := 383) rfl rfl
set_option maxRecDepth 100000 in
theorem kw_J6_265 : Cond.constant RJ6 265 (1431655765) ∈ tblG := tG (i := 492) rfl rfl
set_option maxRecDepth 100000 in
theorem kw_J6_266 : Cond.constant RJ6 266 (858993459) ∈ tblG := tG (i := 493) rfl rfl
set_option maxRecDepth 100000 in
theorem kw_J6_267 : Cond.constant RJ6 267 (252645135) ∈ tblG := tG (i := 494) rfl rfl
set_option maxRecDepth 100000 in
theorem kw_X8_36 : Cond.constantLong RX8 36 (12) ∈ tblG := tG (i := 618) rfl rfl
set_option maxRecDepth 100000 in
theorem kw_X9_207 : Cond.constantLong RX9 207 (-1) ∈ tblG := tG (i := 630) rfl rfl
set_option maxRecDepth 100000 in
theorem kw_X7_39 : Cond.constantLong RX7 39 (-1) ∈ tblG := tG (i := 757) rfl rfl
set_option maxRecDepth 100000 in
theorem kw_J13_314 : Cond.constantLong RJ13 314 (6148914691236517205) ∈ tblG := tG (i := 764) rfl rfl
set_option maxRecDepth 100000 in
theorem kw_J13_316 : Cond.constantLong RJ13 316 (3689348814741910323) ∈ tblG := tG (i := 765) rfl rfl
set_option maxRecDepth 100000 in
theorem kw_J13_318 : Cond.constantLong RJ13 318 (1085102592571150095) ∈ tblG := tG (i := 766) rfl rfl
set_option maxRecDepth 100000 in
theorem kw_X10_75 : Cond.constantLong RX10 75 (5) ∈ tblG := tG (i := 879) rfl rfl
set_option maxRecDepth 100000 in
theorem kw_X10_77 : Cond.constantLong RX10 77 (99) ∈ tblG := tG (i := 883) rfl rfl
set_option maxRecDepth 100000 in
theorem kw_X10_83 : Cond.constantLong RX10 83 (8) ∈ tblG := tG (i := 896) rfl rfl
set_option maxRecDepth 100000 in
theorem kw_X10_85 : Cond.constantLong RX10 85 (255) ∈ tblG := tG (i := 897) rfl rfl
set_option maxRecDepth 100000 in
theorem kw_X10_87 : Cond.constantLong RX10 87 (32) ∈ tblG := tG (i := 898) rfl rfl
set_option maxRecDepth 100000 in
theorem kw_X10_89 : Cond.constantLong RX10 89 (126) ∈ tblG := tG (i := 899) rfl rfl
set_option maxRecDepth 100000 in
theorem kw_X10_102 : Cond.constantLong RX10 102 (48) ∈ tblG := tG (i := 920) rfl rfl
set_option maxRecDepth 100000 in
theorem kw_X10_104 : Cond.constantLong RX10 104 (57) ∈ tblG := tG (i := 921) rfl rfl
set_option maxRecDepth 100000 in
theorem kw_X10_106 : Cond.constantLong RX10 106 (2) ∈ tblG := tG (i := 930) rfl rfl
set_option maxRecDepth 100000 in
theorem kw_X10_127 : Cond.constantLong RX10 127 (7) ∈ tblG := tG (i := 939) rfl rfl
set_option maxRecDepth 100000 in
theorem kw_X10_129 : Cond.constantLong RX10 129 (9) ∈ tblG := tG (i := 948) rfl rfl
set_option maxRecDepth 100000 in
theorem kw_X10_131 : Cond.constantLong RX10 131 (20) ∈ tblG := tG (i := 953) rfl rfl
set_option maxRecDepth 100000 in
theorem kw_X10_235 : Cond.constantLong RX10 235 (3) ∈ tblG := tG (i := 1053) rfl rfl
set_option maxRecDepth 100000 in
theorem kw_X10_189 : Cond.constantLong RX10 189 (999) ∈ tblG := tG (i := 1066) rfl rfl
set_option maxRecDepth 100000 in
theorem kw_X10_191 : Cond.constantLong RX10 191 (12) ∈ tblG := tG (i := 1067) rfl rfl
set_option maxRecDepth 100000 in
theorem kw_X10_197 : Cond.constantLong RX10 197 (-1) ∈ tblG := tG (i := 1072) rfl rfl
set_option maxRecDepth 100000 in
theorem kw_X10_230 : Cond.constantLong RX10 230 (63) ∈ tblG := tG (i := 1147) rfl rfl
set_option maxRecDepth 100000 in
theorem kw_L_18 : Cond.constantLong RL 18 (4294967295) ∈ tblG := tG (i := 1183) rfl rfl
set_option maxRecDepth 100000 in
theorem cl_L_13 : CV RL 13 yX9_sock cX9_sock 5 (some .int) 4 := ⟨tG (i := 349) rfl rfl, tG (i := 350) rfl rfl, tG (i := 351) rfl rfl, tG (i := 352) rfl rfl, tG (i := 52) rfl rfl, ⟨by decide +kernel, by decide +kernel, by decide +kernel⟩, by decide⟩
set_option maxRecDepth 100000 in
theorem cl_X9_75 : CS RX9 75 yX9_within cX9_within 2 (some .boolean) 2 := ⟨tG (i := 353) rfl rfl, tG (i := 354) rfl rfl, tG (i := 355) rfl rfl, tG (i := 52) rfl rfl, ⟨by decide +kernel, by decide +kernel, by decide +kernel⟩, by decide⟩
set_option maxRecDepth 100000 in
theorem cl_X9_79 : CV RX9 79 yX5_begin cX5_begin 6 none 5 := ⟨tG (i := 356) rfl rfl, tG (i := 357) rfl rfl, tG (i := 358) rfl rfl, tG (i := 359) rfl rfl, tG (i := 54) rfl rfl, ⟨by decide +kernel, by decide +kernel, by decide +kernel⟩, by decide⟩
set_option maxRecDepth 100000 in
theorem cl_X5_33 : CV RX5 33 yX5_toBox cX5_toBox 1 none 0 := ⟨tG (i := 360) rfl rfl, tG (i := 361) rfl rfl, tG (i := 362) rfl rfl, tG (i := 363) rfl rfl, tG (i := 54) rfl rfl, ⟨by decide +kernel, by decide +kernel, by decide +kernel⟩, by decide⟩
set_option maxRecDepth 100000 in
theorem cl_X9_83 : CV RX9 83 yX1_add cX1_add 3 (some .int) 1 := ⟨tG (i := 364) rfl rfl, tG (i := 365) rfl rfl, tG (i := 366) rfl rfl, tG (i := 367) rfl rfl, tG (i := 53) rfl rfl, ⟨by decide +kernel, by decide +kernel, by decide +kernel⟩, by decide⟩
set_option maxRecDepth 100000 in
theorem cl_X1_50 : CV RX1 50 yX5_copyFrom cX5_copyFrom 2 none 1 := ⟨tG (i := 368) rfl rfl, tG (i := 369) rfl rfl, tG (i := 370) rfl rfl, tG (i := 371) rfl rfl, tG (i := 54) rfl rfl, ⟨by decide +kernel, by decide +kernel, by decide +kernel⟩, by decide⟩
set_option maxRecDepth 100000 in
theorem cl_L_20 : CV RL 20 yX9_type cX9_type 4 (some .int) 2 := ⟨tG (i := 372) rfl rfl, tG (i := 373) rfl rfl, tG (i := 374) rfl rfl, tG (i := 375) rfl rfl, tG (i := 52) rfl rfl, ⟨by decide +kernel, by decide +kernel, by decide +kernel⟩, by decide⟩
set_option maxRecDepth 100000 in
theorem cl_X9_87 : CV RX9 87 yX6_append cX6_append 6 (some .int) 2 := ⟨tG (i := 376) rfl rfl, tG (i := 377) rfl rfl, tG (i := 378) rfl rfl, tG (i := 379) rfl rfl, tG (i := 55) rfl rfl, ⟨by decide +kernel, by decide +kernel, by decide +kernel⟩, by decide⟩
set_option maxRecDepth 100000 in
theorem cl_X6_22 : CS RX6 22 yX6_byteOf cX6_byteOf 3 (some .int) 2 := ⟨tG (i := 380) rfl rfl, tG (i := 381) rfl rfl, tG (i := 382) rfl rfl, tG (i := 55) rfl rfl, ⟨by decide +kernel, by decide +kernel, by decide +kernel⟩, by decide⟩
set_option maxRecDepth 100000 in
theorem cl_L_25 : CV RL 25 yX9_socks cX9_socks 3 (some .int) 0 := ⟨tG (i := 384) rfl rfl, tG (i := 385) rfl rfl, tG (i := 386) rfl rfl, tG (i := 387) rfl rfl, tG (i := 52) rfl rfl, ⟨by decide +kernel, by decide +kernel, by decide +kernel⟩, by decide⟩
set_option maxRecDepth 100000 in
theorem cl_X9_91 : CV RX9 91 yX6_read cX6_read 4 (some .int) 0 := ⟨tG (i := 388) rfl rfl, tG (i := 389) rfl rfl, tG (i := 390) rfl rfl, tG (i := 391) rfl rfl, tG (i := 55) rfl rfl, ⟨by decide +kernel, by decide +kernel, by decide +kernel⟩, by decide⟩
set_option maxRecDepth 100000 in
theorem cl_X6_35 : CV RX6 35 yX6_readSock cX6_readSock 7 (some .int) 1 := ⟨tG (i := 392) rfl rfl, tG (i := 394) rfl rfl, tG (i := 0) rfl rfl, tG (i := 395) rfl rfl, tG (i := 55) rfl rfl, ⟨by decide +kernel, by decide +kernel, by decide +kernel⟩, by decide⟩
set_option maxRecDepth 100000 in
theorem cl_X6_43 : CV RX6 43 yX6_readKind cX6_readKind 2 (some .int) 0 := ⟨tG (i := 396) rfl rfl, tG (i := 398) rfl rfl, tG (i := 1) rfl rfl, tG (i := 399) rfl rfl, tG (i := 55) rfl rfl, ⟨by decide +kernel, by decide +kernel, by decide +kernel⟩, by decide⟩
set_option maxRecDepth 100000 in
theorem cl_X6_39 : CV RX6 39 yX6_nextSign cX6_nextSign 1 (some .int) 0 := ⟨tG (i := 400) rfl rfl, tG (i := 402) rfl rfl, tG (i := 2) rfl rfl, tG (i := 403) rfl rfl, tG (i := 55) rfl rfl, ⟨by decide +kernel, by decide +kernel, by decide +kernel⟩, by decide⟩
set_option maxRecDepth 100000 in
theorem cl_X6_46 : CV RX6 46 yX6_readHand cX6_readHand 1 (some .int) 0 := ⟨tG (i := 404) rfl rfl, tG (i := 406) rfl rfl, tG (i := 3) rfl rfl, tG (i := 407) rfl rfl, tG (i := 55) rfl rfl, ⟨by decide +kernel, by decide +kernel, by decide +kernel⟩, by decide⟩
set_option maxRecDepth 100000 in
theorem cl_X6_53 : CV RX6 53 yX6_skipSign cX6_skipSign 2 (some .boolean) 1 := ⟨tG (i := 408) rfl rfl, tG (i := 410) rfl rfl, tG (i := 4) rfl rfl, tG (i := 411) rfl rfl, tG (i := 55) rfl rfl, ⟨by decide +kernel, by decide +kernel, by decide +kernel⟩, by decide⟩
set_option maxRecDepth 100000 in
theorem cl_X6_49 : CV RX6 49 yX6_readNumber cX6_readNumber 5 (some .int) 1 := ⟨tG (i := 412) rfl rfl, tG (i := 414) rfl rfl, tG (i := 5) rfl rfl, tG (i := 415) rfl rfl, tG (i := 55) rfl rfl, ⟨by decide +kernel, by decide +kernel, by decide +kernel⟩, by decide⟩
set_option maxRecDepth 100000 in
theorem cl_X6_64 : CS RX6 64 yJ9_min_7cf53 cJ9_min_7cf53 2 (some .int) 2 := ⟨tG (i := 416) rfl rfl, tG (i := 417) rfl rfl, tG (i := 418) rfl rfl, tG (i := 63) rfl rfl, ⟨by decide +kernel, by decide +kernel, by decide +kernel⟩, by decide⟩
set_option maxRecDepth 100000 in
theorem cl_X6_57 : CV RX6 57 yX6_readLodgers cX6_readLodgers 5 (some .int) 0 := ⟨tG (i := 419) rfl rfl, tG (i := 421) rfl rfl, tG (i := 6) rfl rfl, tG (i := 422) rfl rfl, tG (i := 55) rfl rfl, ⟨by decide +kernel, by decide +kernel, by decide +kernel⟩, by decide⟩
set_option maxRecDepth 100000 in
theorem cl_X6_60 : CV RX6 60 yX5_begin cX5_begin 6 none 5 := ⟨tG (i := 423) rfl rfl, tG (i := 357) rfl rfl, tG (i := 358) rfl rfl, tG (i := 359) rfl rfl, tG (i := 54) rfl rfl, ⟨by decide +kernel, by decide +kernel, by decide +kernel⟩, by decide⟩
set_option maxRecDepth 100000 in
theorem cl_L_30 : CV RL 30 yX9_told cX9_told 3 (some .int) 2 := ⟨tG (i := 424) rfl rfl, tG (i := 425) rfl rfl, tG (i := 426) rfl rfl, tG (i := 427) rfl rfl, tG (i := 52) rfl rfl, ⟨by decide +kernel, by decide +kernel, by decide +kernel⟩, by decide⟩
set_option maxRecDepth 100000 in
theorem cl_X9_106 : CV RX9 106 yX9_isSock cX9_isSock 2 (some .boolean) 1 := ⟨tG (i := 428) rfl rfl, tG (i := 430) rfl rfl, tG (i := 7) rfl rfl, tG (i := 431) rfl rfl, tG (i := 52) rfl rfl, ⟨by decide +kernel, by decide +kernel, by decide +kernel⟩, by decide⟩
set_option maxRecDepth 100000 in
theorem cl_X9_110 : CV RX9 110 yX1_outingsOf cX1_outingsOf 4 (some .int) 1 := ⟨tG (i := 432) rfl rfl, tG (i := 433) rfl rfl, tG (i := 434) rfl rfl, tG (i := 435) rfl rfl, tG (i := 53) rfl rfl, ⟨by decide +kernel, by decide +kernel, by decide +kernel⟩, by decide⟩
set_option maxRecDepth 100000 in
theorem cl_X9_117 : CV RX9 117 yX5_trait cX5_trait 2 (some .int) 1 := ⟨tG (i := 436) rfl rfl, tG (i := 437) rfl rfl, tG (i := 438) rfl rfl, tG (i := 439) rfl rfl, tG (i := 54) rfl rfl, ⟨by decide +kernel, by decide +kernel, by decide +kernel⟩, by decide⟩
set_option maxRecDepth 100000 in
theorem cl_L_35 : CV RL 35 yX9_fade cX9_fade 4 (some .int) 2 := ⟨tG (i := 440) rfl rfl, tG (i := 441) rfl rfl, tG (i := 442) rfl rfl, tG (i := 443) rfl rfl, tG (i := 52) rfl rfl, ⟨by decide +kernel, by decide +kernel, by decide +kernel⟩, by decide⟩
set_option maxRecDepth 100000 in
theorem cl_L_39 : CV RL 39 yX9_set cX9_set 4 (some .int) 2 := ⟨tG (i := 444) rfl rfl, tG (i := 445) rfl rfl, tG (i := 446) rfl rfl, tG (i := 447) rfl rfl, tG (i := 52) rfl rfl, ⟨by decide +kernel, by decide +kernel, by decide +kernel⟩, by decide⟩
set_option maxRecDepth 100000 in
theorem cl_L_43 : CV RL 43 yX9_monday cX9_monday 3 (some .int) 2 := ⟨tG (i := 448) rfl rfl, tG (i := 449) rfl rfl, tG (i := 450) rfl rfl, tG (i := 451) rfl rfl, tG (i := 52) rfl rfl, ⟨by decide +kernel, by decide +kernel, by decide +kernel⟩, by decide⟩
set_option maxRecDepth 100000 in
theorem cl_X9_130 : CV RX9 130 yX1_everyone cX1_everyone 1 (some .int) 0 := ⟨tG (i := 452) rfl rfl, tG (i := 453) rfl rfl, tG (i := 454) rfl rfl, tG (i := 455) rfl rfl, tG (i := 53) rfl rfl, ⟨by decide +kernel, by decide +kernel, by decide +kernel⟩, by decide⟩
set_option maxRecDepth 100000 in
theorem cl_X9_133 : CV RX9 133 yX1_canGo cX1_canGo 3 (some .boolean) 1 := ⟨tG (i := 456) rfl rfl, tG (i := 457) rfl rfl, tG (i := 458) rfl rfl, tG (i := 459) rfl rfl, tG (i := 53) rfl rfl, ⟨by decide +kernel, by decide +kernel, by decide +kernel⟩, by decide⟩
set_option maxRecDepth 100000 in
theorem cl_X9_136 : CV RX9 136 yX1_wash cX1_wash 4 (some .int) 2 := ⟨tG (i := 460) rfl rfl, tG (i := 461) rfl rfl, tG (i := 462) rfl rfl, tG (i := 463) rfl rfl, tG (i := 53) rfl rfl, ⟨by decide +kernel, by decide +kernel, by decide +kernel⟩, by decide⟩
set_option maxRecDepth 100000 in
theorem cl_X1_77 : CV RX1 77 yX1_everyone cX1_everyone 1 (some .int) 0 := ⟨tG (i := 464) rfl rfl, tG (i := 453) rfl rfl, tG (i := 454) rfl rfl, tG (i := 455) rfl rfl, tG (i := 53) rfl rfl, ⟨by decide +kernel, by decide +kernel, by decide +kernel⟩, by decide⟩
set_option maxRecDepth 100000 in
theorem cl_X1_81 : CV RX1 81 yX1_placed cX1_placed 2 (some .int) 1 := ⟨tG (i := 465) rfl rfl, tG (i := 466) rfl rfl, tG (i := 467) rfl rfl, tG (i := 468) rfl rfl, tG (i := 53) rfl rfl, ⟨by decide +kernel, by decide +kernel, by decide +kernel⟩, by decide⟩
set_option maxRecDepth 100000 in
theorem cl_X1_67 : CV RX1 67 yX1_having cX1_having 5 (some .int) 2 := ⟨tG (i := 469) rfl rfl, tG (i := 470) rfl rfl, tG (i := 471) rfl rfl, tG (i := 472) rfl rfl, tG (i := 53) rfl rfl, ⟨by decide +kernel, by decide +kernel, by decide +kernel⟩, by decide⟩
set_option maxRecDepth 100000 in
theorem cl_X1_63 : CV RX1 63 yX5_trait cX5_trait 2 (some .int) 1 := ⟨tG (i := 473) rfl rfl, tG (i := 437) rfl rfl, tG (i := 438) rfl rfl, tG (i := 439) rfl rfl, tG (i := 54) rfl rfl, ⟨by decide +kernel, by decide +kernel, by decide +kernel⟩, by decide⟩
set_option maxRecDepth 100000 in
theorem cl_X1_87 : CV RX1 87 yX5_wear cX5_wear 2 none 1 := ⟨tG (i := 474) rfl rfl, tG (i := 475) rfl rfl, tG (i := 476) rfl rfl, tG (i := 477) rfl rfl, tG (i := 54) rfl rfl, ⟨by decide +kernel, by decide +kernel, by decide +kernel⟩, by decide⟩
set_option maxRecDepth 100000 in
theorem cl_X5_39 : CS RX5 39 yJ9_min_7cf53 cJ9_min_7cf53 2 (some .int) 2 := ⟨tG (i := 478) rfl rfl, tG (i := 417) rfl rfl, tG (i := 418) rfl rfl, tG (i := 63) rfl rfl, ⟨by decide +kernel, by decide +kernel, by decide +kernel⟩, by decide⟩
set_option maxRecDepth 100000 in
theorem cl_X1_91 : CV RX1 91 yX1_unpair cX1_unpair 3 (some .int) 1 := ⟨tG (i := 479) rfl rfl, tG (i := 480) rfl rfl, tG (i := 481) rfl rfl, tG (i := 482) rfl rfl, tG (i := 53) rfl rfl, ⟨by decide +kernel, by decide +kernel, by decide +kernel⟩, by decide⟩
set_option maxRecDepth 100000 in
theorem cl_X1_102 : CN RX1 102 yX9_within cX9_within 2 (some .boolean) 2 := ⟨by simp [tblN], tG (i := 354) rfl rfl, tG (i := 355) rfl rfl, tG (i := 52) rfl rfl, ⟨by decide +kernel, by decide +kernel, by decide +kernel⟩, by decide⟩
set_option maxRecDepth 100000 in
theorem cl_X1_106 : CV RX1 106 yX5_toBox cX5_toBox 1 none 0 := ⟨tG (i := 484) rfl rfl, tG (i := 361) rfl rfl, tG (i := 362) rfl rfl, tG (i := 363) rfl rfl, tG (i := 54) rfl rfl, ⟨by decide +kernel, by decide +kernel, by decide +kernel⟩, by decide⟩
set_option maxRecDepth 100000 in
theorem cl_X1_94 : CV RX1 94 yX5_toLost cX5_toLost 2 none 1 := ⟨tG (i := 485) rfl rfl, tG (i := 486) rfl rfl, tG (i := 487) rfl rfl, tG (i := 488) rfl rfl, tG (i := 54) rfl rfl, ⟨by decide +kernel, by decide +kernel, by decide +kernel⟩, by decide⟩
set_option maxRecDepth 100000 in
theorem cl_X1_97 : CS RX1 97 yJ6_bitCount_0f7a4 cJ6_bitCount_0f7a4 1 (some .int) 1 := ⟨tG (i := 489) rfl rfl, tG (i := 490) rfl rfl, tG (i := 491) rfl rfl, tG (i := 64) rfl rfl, ⟨by decide +kernel, by decide +kernel, by decide +kernel⟩, by decide⟩
set_option maxRecDepth 100000 in
theorem cl_L_47 : CV RL 47 yX9_found cX9_found 4 (some .int) 1 := ⟨tG (i := 495) rfl rfl, tG (i := 496) rfl rfl, tG (i := 497) rfl rfl, tG (i := 498) rfl rfl, tG (i := 52) rfl rfl, ⟨by decide +kernel, by decide +kernel, by decide +kernel⟩, by decide⟩
set_option maxRecDepth 100000 in
theorem cl_X9_146 : CV RX9 146 yX5_toBox cX5_toBox 1 none 0 := ⟨tG (i := 499) rfl rfl, tG (i := 361) rfl rfl, tG (i := 362) rfl rfl, tG (i := 363) rfl rfl, tG (i := 54) rfl rfl, ⟨by decide +kernel, by decide +kernel, by decide +kernel⟩, by decide⟩
set_option maxRecDepth 100000 in
theorem cl_L_52 : CV RL 52 yX9_alike cX9_alike 3 (some .int) 2 := ⟨tG (i := 500) rfl rfl, tG (i := 501) rfl rfl, tG (i := 502) rfl rfl, tG (i := 503) rfl rfl, tG (i := 52) rfl rfl, ⟨by decide +kernel, by decide +kernel, by decide +kernel⟩, by decide⟩
set_option maxRecDepth 100000 in
theorem cl_X9_149 : CV RX9 149 yX9_areTwo cX9_areTwo 3 (some .boolean) 2 := ⟨tG (i := 504) rfl rfl, tG (i := 506) rfl rfl, tG (i := 8) rfl rfl, tG (i := 507) rfl rfl, tG (i := 52) rfl rfl, ⟨by decide +kernel, by decide +kernel, by decide +kernel⟩, by decide⟩
set_option maxRecDepth 100000 in
theorem cl_X9_152 : CV RX9 152 yX1_likenessOf cX1_likenessOf 7 (some .int) 2 := ⟨tG (i := 508) rfl rfl, tG (i := 509) rfl rfl, tG (i := 510) rfl rfl, tG (i := 511) rfl rfl, tG (i := 53) rfl rfl, ⟨by decide +kernel, by decide +kernel, by decide +kernel⟩, by decide⟩
set_option maxRecDepth 100000 in
theorem cl_X1_115 : CS RX1 115 yJ9_max_7cf53 cJ9_max_7cf53 2 (some .int) 2 := ⟨tG (i := 512) rfl rfl, tG (i := 513) rfl rfl, tG (i := 514) rfl rfl, tG (i := 63) rfl rfl, ⟨by decide +kernel, by decide +kernel, by decide +kernel⟩, by decide⟩
set_option maxRecDepth 100000 in
theorem cl_L_56 : CV RL 56 yX9_fellows cX9_fellows 3 (some .int) 2 := ⟨tG (i := 515) rfl rfl, tG (i := 516) rfl rfl, tG (i := 517) rfl rfl, tG (i := 518) rfl rfl, tG (i := 52) rfl rfl, ⟨by decide +kernel, by decide +kernel, by decide +kernel⟩, by decide⟩
set_option maxRecDepth 100000 in
theorem cl_X9_155 : CV RX9 155 yX1_bars cX1_bars 4 (some .int) 2 := ⟨tG (i := 519) rfl rfl, tG (i := 520) rfl rfl, tG (i := 521) rfl rfl, tG (i := 522) rfl rfl, tG (i := 53) rfl rfl, ⟨by decide +kernel, by decide +kernel, by decide +kernel⟩, by decide⟩
set_option maxRecDepth 100000 in
theorem cl_X1_123 : CV RX1 123 yX1_likenessOf cX1_likenessOf 7 (some .int) 2 := ⟨tG (i := 523) rfl rfl, tG (i := 509) rfl rfl, tG (i := 510) rfl rfl, tG (i := 511) rfl rfl, tG (i := 53) rfl rfl, ⟨by decide +kernel, by decide +kernel, by decide +kernel⟩, by decide⟩
set_option maxRecDepth 100000 in
theorem cl_X1_126 : CV RX1 126 yX1_wereParted cX1_wereParted 5 (some .boolean) 2 := ⟨tG (i := 524) rfl rfl, tG (i := 525) rfl rfl, tG (i := 526) rfl rfl, tG (i := 527) rfl rfl, tG (i := 53) rfl rfl, ⟨by decide +kernel, by decide +kernel, by decide +kernel⟩, by decide⟩
set_option maxRecDepth 100000 in
theorem cl_L_60 : CV RL 60 yX9_count cX9_count 2 (some .int) 1 := ⟨tG (i := 528) rfl rfl, tG (i := 529) rfl rfl, tG (i := 530) rfl rfl, tG (i := 531) rfl rfl, tG (i := 52) rfl rfl, ⟨by decide +kernel, by decide +kernel, by decide +kernel⟩, by decide⟩
set_option maxRecDepth 100000 in
theorem cl_X9_158 : CV RX9 158 yX1_placed cX1_placed 2 (some .int) 1 := ⟨tG (i := 532) rfl rfl, tG (i := 466) rfl rfl, tG (i := 467) rfl rfl, tG (i := 468) rfl rfl, tG (i := 53) rfl rfl, ⟨by decide +kernel, by decide +kernel, by decide +kernel⟩, by decide⟩
set_option maxRecDepth 100000 in
theorem cl_X9_161 : CS RX9 161 yJ6_bitCount_0f7a4 cJ6_bitCount_0f7a4 1 (some .int) 1 := ⟨tG (i := 533) rfl rfl, tG (i := 490) rfl rfl, tG (i := 491) rfl rfl, tG (i := 64) rfl rfl, ⟨by decide +kernel, by decide +kernel, by decide +kernel⟩, by decide⟩
set_option maxRecDepth 100000 in
theorem cl_X9_169 : CV RX9 169 yX1_having cX1_having 5 (some .int) 2 := ⟨tG (i := 534) rfl rfl, tG (i := 470) rfl rfl, tG (i := 471) rfl rfl, tG (i := 472) rfl rfl, tG (i := 53) rfl rfl, ⟨by decide +kernel, by decide +kernel, by decide +kernel⟩, by decide⟩
set_option maxRecDepth 100000 in
theorem cl_L_64 : CV RL 64 yX9_pairs cX9_pairs 2 (some .int) 1 := ⟨tG (i := 535) rfl rfl, tG (i := 536) rfl rfl, tG (i := 537) rfl rfl, tG (i := 538) rfl rfl, tG (i := 52) rfl rfl, ⟨by decide +kernel, by decide +kernel, by decide +kernel⟩, by decide⟩
set_option maxRecDepth 100000 in
theorem cl_X9_172 : CV RX9 172 yX3_make cX3_make 4 none 1 := ⟨tG (i := 539) rfl rfl, tG (i := 540) rfl rfl, tG (i := 541) rfl rfl, tG (i := 542) rfl rfl, tG (i := 56) rfl rfl, ⟨by decide +kernel, by decide +kernel, by decide +kernel⟩, by decide⟩
set_option maxRecDepth 100000 in
theorem cl_X3_21 : CV RX3 21 yX1_placed cX1_placed 2 (some .int) 1 := ⟨tG (i := 543) rfl rfl, tG (i := 466) rfl rfl, tG (i := 467) rfl rfl, tG (i := 468) rfl rfl, tG (i := 53) rfl rfl, ⟨by decide +kernel, by decide +kernel, by decide +kernel⟩, by decide⟩
set_option maxRecDepth 100000 in
theorem cl_X3_27 : CV RX3 27 yX3_weigh cX3_weigh 6 none 2 := ⟨tG (i := 544) rfl rfl, tG (i := 546) rfl rfl, tG (i := 9) rfl rfl, tG (i := 547) rfl rfl, tG (i := 56) rfl rfl, ⟨by decide +kernel, by decide +kernel, by decide +kernel⟩, by decide⟩
set_option maxRecDepth 100000 in
theorem cl_X3_38 : CV RX3 38 yX1_bars cX1_bars 4 (some .int) 2 := ⟨tG (i := 548) rfl rfl, tG (i := 520) rfl rfl, tG (i := 521) rfl rfl, tG (i := 522) rfl rfl, tG (i := 53) rfl rfl, ⟨by decide +kernel, by decide +kernel, by decide +kernel⟩, by decide⟩
set_option maxRecDepth 100000 in
theorem cl_X3_42 : CV RX3 42 yX1_distance cX1_distance 3 (some .int) 2 := ⟨tG (i := 549) rfl rfl, tG (i := 550) rfl rfl, tG (i := 551) rfl rfl, tG (i := 552) rfl rfl, tG (i := 53) rfl rfl, ⟨by decide +kernel, by decide +kernel, by decide +kernel⟩, by decide⟩
set_option maxRecDepth 100000 in
theorem cl_X1_129 : CS RX1 129 yJ9_abs_0f7a4 cJ9_abs_0f7a4 1 (some .int) 1 := ⟨tG (i := 553) rfl rfl, tG (i := 554) rfl rfl, tG (i := 555) rfl rfl, tG (i := 63) rfl rfl, ⟨by decide +kernel, by decide +kernel, by decide +kernel⟩, by decide⟩
set_option maxRecDepth 100000 in
theorem cl_X3_35 : CV RX3 35 yX3_trace cX3_trace 6 none 2 := ⟨tG (i := 556) rfl rfl, tG (i := 558) rfl rfl, tG (i := 10) rfl rfl, tG (i := 559) rfl rfl, tG (i := 56) rfl rfl, ⟨by decide +kernel, by decide +kernel, by decide +kernel⟩, by decide⟩
set_option maxRecDepth 100000 in
theorem cl_X3_59 : CV RX3 59 yX3_firstFellow cX3_firstFellow 8 (some .int) 3 := ⟨tG (i := 560) rfl rfl, tG (i := 562) rfl rfl, tG (i := 11) rfl rfl, tG (i := 563) rfl rfl, tG (i := 56) rfl rfl, ⟨by decide +kernel, by decide +kernel, by decide +kernel⟩, by decide⟩
set_option maxRecDepth 100000 in
theorem cl_X3_45 : CS RX3 45 yX3_mostGain cX3_mostGain 9 (some .int) 5 := ⟨tG (i := 564) rfl rfl, tG (i := 565) rfl rfl, tG (i := 566) rfl rfl, tG (i := 56) rfl rfl, ⟨by decide +kernel, by decide +kernel, by decide +kernel⟩, by decide⟩
set_option maxRecDepth 100000 in
theorem cl_X3_49 : CS RX3 49 yJ9_max_7cf53 cJ9_max_7cf53 2 (some .int) 2 := ⟨tG (i := 567) rfl rfl, tG (i := 513) rfl rfl, tG (i := 514) rfl rfl, tG (i := 63) rfl rfl, ⟨by decide +kernel, by decide +kernel, by decide +kernel⟩, by decide⟩
set_option maxRecDepth 100000 in
theorem cl_L_68 : CV RL 68 yX9_fellow cX9_fellow 2 (some .int) 1 := ⟨tG (i := 568) rfl rfl, tG (i := 569) rfl rfl, tG (i := 570) rfl rfl, tG (i := 571) rfl rfl, tG (i := 52) rfl rfl, ⟨by decide +kernel, by decide +kernel, by decide +kernel⟩, by decide⟩
set_option maxRecDepth 100000 in
theorem cl_L_72 : CV RL 72 yX9_pairUp cX9_pairUp 2 (some .int) 0 := ⟨tG (i := 572) rfl rfl, tG (i := 573) rfl rfl, tG (i := 574) rfl rfl, tG (i := 575) rfl rfl, tG (i := 52) rfl rfl, ⟨by decide +kernel, by decide +kernel, by decide +kernel⟩, by decide⟩
set_option maxRecDepth 100000 in
theorem cl_X9_185 : CV RX9 185 yX5_toPair cX5_toPair 2 none 1 := ⟨tG (i := 576) rfl rfl, tG (i := 577) rfl rfl, tG (i := 578) rfl rfl, tG (i := 579) rfl rfl, tG (i := 54) rfl rfl, ⟨by decide +kernel, by decide +kernel, by decide +kernel⟩, by decide⟩
set_option maxRecDepth 100000 in
theorem cl_L_76 : CV RL 76 yX9_part cX9_part 2 (some .int) 1 := ⟨tG (i := 580) rfl rfl, tG (i := 581) rfl rfl, tG (i := 582) rfl rfl, tG (i := 583) rfl rfl, tG (i := 52) rfl rfl, ⟨by decide +kernel, by decide +kernel, by decide +kernel⟩, by decide⟩
set_option maxRecDepth 100000 in
theorem cl_X9_189 : CV RX9 189 yX1_unpair cX1_unpair 3 (some .int) 1 := ⟨tG (i := 584) rfl rfl, tG (i := 480) rfl rfl, tG (i := 481) rfl rfl, tG (i := 482) rfl rfl, tG (i := 53) rfl rfl, ⟨by decide +kernel, by decide +kernel, by decide +kernel⟩, by decide⟩
set_option maxRecDepth 100000 in
theorem cl_L_80 : CV RL 80 yX9_judge cX9_judge 7 (some .int) 3 := ⟨tG (i := 585) rfl rfl, tG (i := 586) rfl rfl, tG (i := 587) rfl rfl, tG (i := 588) rfl rfl, tG (i := 52) rfl rfl, ⟨by decide +kernel, by decide +kernel, by decide +kernel⟩, by decide⟩
set_option maxRecDepth 100000 in
theorem cl_X9_192 : CV RX9 192 yX4_refusal cX4_refusal 4 (some .int) 3 := ⟨tG (i := 589) rfl rfl, tG (i := 590) rfl rfl, tG (i := 591) rfl rfl, tG (i := 592) rfl rfl, tG (i := 61) rfl rfl, ⟨by decide +kernel, by decide +kernel, by decide +kernel⟩, by decide⟩
set_option maxRecDepth 100000 in
theorem cl_X4_22 : CV RX4 22 yX4_isThere cX4_isThere 1 (some .boolean) 0 := ⟨tG (i := 593) rfl rfl, tG (i := 594) rfl rfl, tG (i := 595) rfl rfl, tG (i := 596) rfl rfl, tG (i := 61) rfl rfl, ⟨by decide +kernel, by decide +kernel, by decide +kernel⟩, by decide⟩
set_option maxRecDepth 100000 in
theorem cl_X9_196 : CV RX9 196 yX9_isWellTold cX9_isWellTold 6 (some .boolean) 3 := ⟨tG (i := 597) rfl rfl, tG (i := 599) rfl rfl, tG (i := 12) rfl rfl, tG (i := 600) rfl rfl, tG (i := 52) rfl rfl, ⟨by decide +kernel, by decide +kernel, by decide +kernel⟩, by decide⟩
set_option maxRecDepth 100000 in
theorem cl_L_85 : CV RL 85 yX9_thrown cX9_thrown 8 (some .int) 6 := ⟨tG (i := 601) rfl rfl, tG (i := 602) rfl rfl, tG (i := 603) rfl rfl, tG (i := 604) rfl rfl, tG (i := 52) rfl rfl, ⟨by decide +kernel, by decide +kernel, by decide +kernel⟩, by decide⟩
set_option maxRecDepth 100000 in
theorem cl_X9_200 : CV RX9 200 yX9_reckonWeeks cX9_reckonWeeks 8 (some .int) 6 := ⟨tG (i := 605) rfl rfl, tG (i := 607) rfl rfl, tG (i := 13) rfl rfl, tG (i := 608) rfl rfl, tG (i := 52) rfl rfl, ⟨by decide +kernel, by decide +kernel, by decide +kernel⟩, by decide⟩
set_option maxRecDepth 100000 in
theorem cl_X9_293 : CV RX9 293 yX8_takeChances cX8_takeChances 5 (some .boolean) 3 := ⟨tG (i := 609) rfl rfl, tG (i := 610) rfl rfl, tG (i := 611) rfl rfl, tG (i := 612) rfl rfl, tG (i := 57) rfl rfl, ⟨by decide +kernel, by decide +kernel, by decide +kernel⟩, by decide⟩
set_option maxRecDepth 100000 in
theorem cl_X8_32 : CN RX8 32 yX9_within cX9_within 2 (some .boolean) 2 := ⟨by simp [tblN], tG (i := 354) rfl rfl, tG (i := 355) rfl rfl, tG (i := 52) rfl rfl, ⟨by decide +kernel, by decide +kernel, by decide +kernel⟩, by decide⟩
set_option maxRecDepth 100000 in
theorem cl_X9_296 : CV RX9 296 yX8_reckon cX8_reckon 8 none 2 := ⟨tG (i := 614) rfl rfl, tG (i := 615) rfl rfl, tG (i := 616) rfl rfl, tG (i := 617) rfl rfl, tG (i := 57) rfl rfl, ⟨by decide +kernel, by decide +kernel, by decide +kernel⟩, by decide⟩
set_option maxRecDepth 100000 in
theorem cl_X8_38 : CS RX8 38 yJ9_max_f86c9 cJ9_max_f86c9 4 (some .long) 2 := ⟨tG (i := 619) rfl rfl, tG (i := 620) rfl rfl, tG (i := 621) rfl rfl, tG (i := 63) rfl rfl, ⟨by decide +kernel, by decide +kernel, by decide +kernel⟩, by decide⟩
set_option maxRecDepth 100000 in
theorem cl_X9_204 : CV RX9 204 yX8_firstWorthless cX8_firstWorthless 2 (some .int) 0 := ⟨tG (i := 622) rfl rfl, tG (i := 623) rfl rfl, tG (i := 624) rfl rfl, tG (i := 625) rfl rfl, tG (i := 57) rfl rfl, ⟨by decide +kernel, by decide +kernel, by decide +kernel⟩, by decide⟩
set_option maxRecDepth 100000 in
theorem cl_L_90 : CV RL 90 yX9_worth cX9_worth 9 (some .long) 7 := ⟨tG (i := 626) rfl rfl, tG (i := 627) rfl rfl, tG (i := 628) rfl rfl, tG (i := 629) rfl rfl, tG (i := 52) rfl rfl, ⟨by decide +kernel, by decide +kernel, by decide +kernel⟩, by decide⟩
set_option maxRecDepth 100000 in
theorem cl_X9_217 : CS RX9 217 yX9_inLowestTerms cX9_inLowestTerms 9 (some .long) 3 := ⟨tG (i := 631) rfl rfl, tG (i := 632) rfl rfl, tG (i := 633) rfl rfl, tG (i := 52) rfl rfl, ⟨by decide +kernel, by decide +kernel, by decide +kernel⟩, by decide⟩
set_option maxRecDepth 100000 in
theorem cl_X9_299 : CS RX9 299 yX9_commonDivisor cX9_commonDivisor 11 (some .long) 2 := ⟨tG (i := 634) rfl rfl, tG (i := 635) rfl rfl, tG (i := 636) rfl rfl, tG (i := 52) rfl rfl, ⟨by decide +kernel, by decide +kernel, by decide +kernel⟩, by decide⟩
set_option maxRecDepth 100000 in
theorem cl_L_95 : CV RL 95 yX9_worst cX9_worst 2 (some .int) 0 := ⟨tG (i := 637) rfl rfl, tG (i := 638) rfl rfl, tG (i := 639) rfl rfl, tG (i := 640) rfl rfl, tG (i := 52) rfl rfl, ⟨by decide +kernel, by decide +kernel, by decide +kernel⟩, by decide⟩
set_option maxRecDepth 100000 in
theorem cl_X9_221 : CV RX9 221 yX0_lay cX0_lay 7 none 1 := ⟨tG (i := 641) rfl rfl, tG (i := 642) rfl rfl, tG (i := 643) rfl rfl, tG (i := 644) rfl rfl, tG (i := 58) rfl rfl, ⟨by decide +kernel, by decide +kernel, by decide +kernel⟩, by decide⟩
set_option maxRecDepth 100000 in
theorem cl_X0_15 : CV RX0 15 yX1_placed cX1_placed 2 (some .int) 1 := ⟨tG (i := 645) rfl rfl, tG (i := 466) rfl rfl, tG (i := 467) rfl rfl, tG (i := 468) rfl rfl, tG (i := 53) rfl rfl, ⟨by decide +kernel, by decide +kernel, by decide +kernel⟩, by decide⟩
set_option maxRecDepth 100000 in
theorem cl_X0_23 : CV RX0 23 yX1_having cX1_having 5 (some .int) 2 := ⟨tG (i := 646) rfl rfl, tG (i := 470) rfl rfl, tG (i := 471) rfl rfl, tG (i := 472) rfl rfl, tG (i := 53) rfl rfl, ⟨by decide +kernel, by decide +kernel, by decide +kernel⟩, by decide⟩
set_option maxRecDepth 100000 in
theorem cl_X0_27 : CS RX0 27 yJ6_bitCount_0f7a4 cJ6_bitCount_0f7a4 1 (some .int) 1 := ⟨tG (i := 647) rfl rfl, tG (i := 490) rfl rfl, tG (i := 491) rfl rfl, tG (i := 64) rfl rfl, ⟨by decide +kernel, by decide +kernel, by decide +kernel⟩, by decide⟩
set_option maxRecDepth 100000 in
theorem cl_X0_39 : CV RX0 39 yX0_addKind cX0_addKind 6 none 3 := ⟨tG (i := 648) rfl rfl, tG (i := 650) rfl rfl, tG (i := 14) rfl rfl, tG (i := 651) rfl rfl, tG (i := 58) rfl rfl, ⟨by decide +kernel, by decide +kernel, by decide +kernel⟩, by decide⟩
set_option maxRecDepth 100000 in
theorem cl_X0_43 : CS RX0 43 yX0_setsWithoutPair cX0_setsWithoutPair 4 (some .long) 4 := ⟨tG (i := 652) rfl rfl, tG (i := 653) rfl rfl, tG (i := 654) rfl rfl, tG (i := 58) rfl rfl, ⟨by decide +kernel, by decide +kernel, by decide +kernel⟩, by decide⟩
set_option maxRecDepth 100000 in
theorem cl_X0_47 : CN RX0 47 yX9_choose cX9_choose 5 (some .long) 2 := ⟨by simp [tblN], tG (i := 656) rfl rfl, tG (i := 657) rfl rfl, tG (i := 52) rfl rfl, ⟨by decide +kernel, by decide +kernel, by decide +kernel⟩, by decide⟩
set_option maxRecDepth 100000 in
theorem cl_X9_224 : CV RX9 224 yX0_longestPairless cX0_longestPairless 3 (some .int) 0 := ⟨tG (i := 658) rfl rfl, tG (i := 659) rfl rfl, tG (i := 660) rfl rfl, tG (i := 661) rfl rfl, tG (i := 58) rfl rfl, ⟨by decide +kernel, by decide +kernel, by decide +kernel⟩, by decide⟩
set_option maxRecDepth 100000 in
theorem cl_L_99 : CV RL 99 yX9_odds cX9_odds 5 (some .int) 2 := ⟨tG (i := 662) rfl rfl, tG (i := 663) rfl rfl, tG (i := 664) rfl rfl, tG (i := 665) rfl rfl, tG (i := 52) rfl rfl, ⟨by decide +kernel, by decide +kernel, by decide +kernel⟩, by decide⟩
set_option maxRecDepth 100000 in
theorem cl_X9_230 : CS RX9 230 yX9_choose cX9_choose 5 (some .long) 2 := ⟨tG (i := 666) rfl rfl, tG (i := 656) rfl rfl, tG (i := 657) rfl rfl, tG (i := 52) rfl rfl, ⟨by decide +kernel, by decide +kernel, by decide +kernel⟩, by decide⟩
set_option maxRecDepth 100000 in
theorem cl_L_103 : CV RL 103 yX9_owns cX9_owns 7 (some .int) 4 := ⟨tG (i := 667) rfl rfl, tG (i := 668) rfl rfl, tG (i := 669) rfl rfl, tG (i := 670) rfl rfl, tG (i := 52) rfl rfl, ⟨by decide +kernel, by decide +kernel, by decide +kernel⟩, by decide⟩
set_option maxRecDepth 100000 in
theorem cl_L_107 : CV RL 107 yX9_may cX9_may 4 (some .int) 2 := ⟨tG (i := 671) rfl rfl, tG (i := 672) rfl rfl, tG (i := 673) rfl rfl, tG (i := 674) rfl rfl, tG (i := 52) rfl rfl, ⟨by decide +kernel, by decide +kernel, by decide +kernel⟩, by decide⟩
set_option maxRecDepth 100000 in
theorem cl_L_111 : CV RL 111 yX9_bind cX9_bind 3 (some .int) 2 := ⟨tG (i := 675) rfl rfl, tG (i := 676) rfl rfl, tG (i := 677) rfl rfl, tG (i := 678) rfl rfl, tG (i := 52) rfl rfl, ⟨by decide +kernel, by decide +kernel, by decide +kernel⟩, by decide⟩
set_option maxRecDepth 100000 in
theorem cl_X9_249 : CV RX9 249 yX1_join cX1_join 6 (some .boolean) 2 := ⟨tG (i := 679) rfl rfl, tG (i := 680) rfl rfl, tG (i := 681) rfl rfl, tG (i := 682) rfl rfl, tG (i := 53) rfl rfl, ⟨by decide +kernel, by decide +kernel, by decide +kernel⟩, by decide⟩
set_option maxRecDepth 100000 in
theorem cl_L_115 : CV RL 115 yX9_ways cX9_ways 1 (some .long) 0 := ⟨tG (i := 683) rfl rfl, tG (i := 684) rfl rfl, tG (i := 685) rfl rfl, tG (i := 686) rfl rfl, tG (i := 52) rfl rfl, ⟨by decide +kernel, by decide +kernel, by decide +kernel⟩, by decide⟩
set_option maxRecDepth 100000 in
theorem cl_X9_252 : CV RX9 252 yX2_waysIf cX2_waysIf 8 (some .long) 3 := ⟨tG (i := 687) rfl rfl, tG (i := 688) rfl rfl, tG (i := 689) rfl rfl, tG (i := 690) rfl rfl, tG (i := 59) rfl rfl, ⟨by decide +kernel, by decide +kernel, by decide +kernel⟩, by decide⟩
set_option maxRecDepth 100000 in
theorem cl_X2_15 : CV RX2 15 yX2_dealKind cX2_dealKind 9 (some .int) 4 := ⟨tG (i := 691) rfl rfl, tG (i := 693) rfl rfl, tG (i := 15) rfl rfl, tG (i := 694) rfl rfl, tG (i := 59) rfl rfl, ⟨by decide +kernel, by decide +kernel, by decide +kernel⟩, by decide⟩
set_option maxRecDepth 100000 in
theorem cl_X2_25 : CV RX2 25 yX1_having cX1_having 5 (some .int) 2 := ⟨tG (i := 695) rfl rfl, tG (i := 470) rfl rfl, tG (i := 471) rfl rfl, tG (i := 472) rfl rfl, tG (i := 53) rfl rfl, ⟨by decide +kernel, by decide +kernel, by decide +kernel⟩, by decide⟩
set_option maxRecDepth 100000 in
theorem cl_X2_35 : CV RX2 35 yX1_boundTo cX1_boundTo 4 (some .int) 1 := ⟨tG (i := 696) rfl rfl, tG (i := 697) rfl rfl, tG (i := 698) rfl rfl, tG (i := 699) rfl rfl, tG (i := 53) rfl rfl, ⟨by decide +kernel, by decide +kernel, by decide +kernel⟩, by decide⟩
set_option maxRecDepth 100000 in
theorem cl_X2_39 : CS RX2 39 yJ6_bitCount_0f7a4 cJ6_bitCount_0f7a4 1 (some .int) 1 := ⟨tG (i := 700) rfl rfl, tG (i := 490) rfl rfl, tG (i := 491) rfl rfl, tG (i := 64) rfl rfl, ⟨by decide +kernel, by decide +kernel, by decide +kernel⟩, by decide⟩
set_option maxRecDepth 100000 in
theorem cl_X2_44 : CS RX2 44 yX2_ownersOf cX2_ownersOf 6 (some .int) 4 := ⟨tG (i := 701) rfl rfl, tG (i := 702) rfl rfl, tG (i := 703) rfl rfl, tG (i := 59) rfl rfl, ⟨by decide +kernel, by decide +kernel, by decide +kernel⟩, by decide⟩
set_option maxRecDepth 100000 in
theorem cl_X2_47 : CV RX2 47 yX2_deal cX2_deal 8 none 3 := ⟨tG (i := 704) rfl rfl, tG (i := 706) rfl rfl, tG (i := 16) rfl rfl, tG (i := 707) rfl rfl, tG (i := 59) rfl rfl, ⟨by decide +kernel, by decide +kernel, by decide +kernel⟩, by decide⟩
set_option maxRecDepth 100000 in
theorem cl_X2_19 : CV RX2 19 yX2_sumAsTold cX2_sumAsTold 8 (some .long) 3 := ⟨tG (i := 708) rfl rfl, tG (i := 710) rfl rfl, tG (i := 17) rfl rfl, tG (i := 711) rfl rfl, tG (i := 59) rfl rfl, ⟨by decide +kernel, by decide +kernel, by decide +kernel⟩, by decide⟩
set_option maxRecDepth 100000 in
theorem cl_X2_58 : CS RX2 58 yX2_isAsTold cX2_isAsTold 3 (some .boolean) 3 := ⟨tG (i := 712) rfl rfl, tG (i := 713) rfl rfl, tG (i := 714) rfl rfl, tG (i := 59) rfl rfl, ⟨by decide +kernel, by decide +kernel, by decide +kernel⟩, by decide⟩
set_option maxRecDepth 100000 in
theorem cl_L_120 : CV RL 120 yX9_whose cX9_whose 4 (some .int) 1 := ⟨tG (i := 715) rfl rfl, tG (i := 716) rfl rfl, tG (i := 717) rfl rfl, tG (i := 718) rfl rfl, tG (i := 52) rfl rfl, ⟨by decide +kernel, by decide +kernel, by decide +kernel⟩, by decide⟩
set_option maxRecDepth 100000 in
theorem cl_L_124 : CV RL 124 yX9_seldom cX9_seldom 9 (some .int) 1 := ⟨tG (i := 719) rfl rfl, tG (i := 720) rfl rfl, tG (i := 721) rfl rfl, tG (i := 722) rfl rfl, tG (i := 52) rfl rfl, ⟨by decide +kernel, by decide +kernel, by decide +kernel⟩, by decide⟩
set_option maxRecDepth 100000 in
theorem cl_L_128 : CV RL 128 yX9_lacks cX9_lacks 6 (some .int) 2 := ⟨tG (i := 723) rfl rfl, tG (i := 724) rfl rfl, tG (i := 725) rfl rfl, tG (i := 726) rfl rfl, tG (i := 52) rfl rfl, ⟨by decide +kernel, by decide +kernel, by decide +kernel⟩, by decide⟩
set_option maxRecDepth 100000 in
theorem cl_L_132 : CV RL 132 yX9_wish cX9_wish 4 (some .int) 2 := ⟨tG (i := 727) rfl rfl, tG (i := 728) rfl rfl, tG (i := 729) rfl rfl, tG (i := 730) rfl rfl, tG (i := 52) rfl rfl, ⟨by decide +kernel, by decide +kernel, by decide +kernel⟩, by decide⟩
set_option maxRecDepth 100000 in
theorem cl_L_136 : CV RL 136 yX9_buy cX9_buy 3 (some .int) 0 := ⟨tG (i := 731) rfl rfl, tG (i := 732) rfl rfl, tG (i := 733) rfl rfl, tG (i := 734) rfl rfl, tG (i := 52) rfl rfl, ⟨by decide +kernel, by decide +kernel, by decide +kernel⟩, by decide⟩
set_option maxRecDepth 100000 in
theorem cl_X9_259 : CV RX9 259 yX1_meetsAllWishes cX1_meetsAllWishes 3 (some .boolean) 1 := ⟨tG (i := 735) rfl rfl, tG (i := 736) rfl rfl, tG (i := 737) rfl rfl, tG (i := 738) rfl rfl, tG (i := 53) rfl rfl, ⟨by decide +kernel, by decide +kernel, by decide +kernel⟩, by decide⟩
set_option maxRecDepth 100000 in
theorem cl_L_140 : CV RL 140 yX9_marks cX9_marks 5 (some .int) 3 := ⟨tG (i := 739) rfl rfl, tG (i := 740) rfl rfl, tG (i := 741) rfl rfl, tG (i := 742) rfl rfl, tG (i := 52) rfl rfl, ⟨by decide +kernel, by decide +kernel, by decide +kernel⟩, by decide⟩
set_option maxRecDepth 100000 in
theorem cl_X9_262 : CV RX9 262 yX7_fewest cX7_fewest 4 (some .int) 2 := ⟨tG (i := 743) rfl rfl, tG (i := 744) rfl rfl, tG (i := 745) rfl rfl, tG (i := 746) rfl rfl, tG (i := 60) rfl rfl, ⟨by decide +kernel, by decide +kernel, by decide +kernel⟩, by decide⟩
set_option maxRecDepth 100000 in
theorem cl_X7_25 : CV RX7 25 yX7_search cX7_search 5 (some .int) 2 := ⟨tG (i := 747) rfl rfl, tG (i := 749) rfl rfl, tG (i := 18) rfl rfl, tG (i := 750) rfl rfl, tG (i := 60) rfl rfl, ⟨by decide +kernel, by decide +kernel, by decide +kernel⟩, by decide⟩
set_option maxRecDepth 100000 in
theorem cl_X7_35 : CV RX7 35 yX7_compare cX7_compare 5 none 2 := ⟨tG (i := 751) rfl rfl, tG (i := 753) rfl rfl, tG (i := 19) rfl rfl, tG (i := 754) rfl rfl, tG (i := 60) rfl rfl, ⟨by decide +kernel, by decide +kernel, by decide +kernel⟩, by decide⟩
set_option maxRecDepth 100000 in
theorem cl_X7_45 : CS RX7 45 yJ6_bitCount_0f7a4 cJ6_bitCount_0f7a4 1 (some .int) 1 := ⟨tG (i := 755) rfl rfl, tG (i := 490) rfl rfl, tG (i := 491) rfl rfl, tG (i := 64) rfl rfl, ⟨by decide +kernel, by decide +kernel, by decide +kernel⟩, by decide⟩
set_option maxRecDepth 100000 in
theorem cl_X7_51 : CS RX7 51 yJ9_max_7cf53 cJ9_max_7cf53 2 (some .int) 2 := ⟨tG (i := 756) rfl rfl, tG (i := 513) rfl rfl, tG (i := 514) rfl rfl, tG (i := 63) rfl rfl, ⟨by decide +kernel, by decide +kernel, by decide +kernel⟩, by decide⟩
set_option maxRecDepth 100000 in
theorem cl_X7_41 : CS RX7 41 yX7_extend cX7_extend 7 (some .boolean) 5 := ⟨tG (i := 758) rfl rfl, tG (i := 759) rfl rfl, tG (i := 760) rfl rfl, tG (i := 60) rfl rfl, ⟨by decide +kernel, by decide +kernel, by decide +kernel⟩, by decide⟩
set_option maxRecDepth 100000 in
theorem cl_X7_56 : CS RX7 56 yJ13_bitCount_95d88 cJ13_bitCount_95d88 2 (some .int) 1 := ⟨tG (i := 761) rfl rfl, tG (i := 762) rfl rfl, tG (i := 763) rfl rfl, tG (i := 65) rfl rfl, ⟨by decide +kernel, by decide +kernel, by decide +kernel⟩, by decide⟩
set_option maxRecDepth 100000 in
theorem cp_X7_29 : Cond.methodLink RX7 29 arraycopyName ∈ tblG ∧ Cond.native arraycopyName ∈ tblG ∧ Cond.static arraycopyName ∈ tblG ∧ Cond.initialized "java/lang/System" ∈ tblG := ⟨tG (i := 767) rfl rfl, tG (i := 769) rfl rfl, tG (i := 768) rfl rfl, tG (i := 66) rfl rfl⟩
set_option maxRecDepth 100000 in
theorem cl_X9_265 : CV RX9 265 yX7_markOf cX7_markOf 4 (some .int) 3 := ⟨tG (i := 770) rfl rfl, tG (i := 771) rfl rfl, tG (i := 772) rfl rfl, tG (i := 773) rfl rfl, tG (i := 60) rfl rfl, ⟨by decide +kernel, by decide +kernel, by decide +kernel⟩, by decide⟩
set_option maxRecDepth 100000 in
theorem cl_L_144 : CV RL 144 yX9_image cX9_image 1 (some .int) 0 := ⟨tG (i := 774) rfl rfl, tG (i := 775) rfl rfl, tG (i := 776) rfl rfl, tG (i := 777) rfl rfl, tG (i := 52) rfl rfl, ⟨by decide +kernel, by decide +kernel, by decide +kernel⟩, by decide⟩
set_option maxRecDepth 100000 in
theorem cl_X9_268 : CV RX9 268 yX1_copyFrom cX1_copyFrom 3 none 1 := ⟨tG (i := 778) rfl rfl, tG (i := 779) rfl rfl, tG (i := 780) rfl rfl, tG (i := 781) rfl rfl, tG (i := 53) rfl rfl, ⟨by decide +kernel, by decide +kernel, by decide +kernel⟩, by decide⟩
set_option maxRecDepth 100000 in
theorem cp_X1_54 : Cond.methodLink RX1 54 arraycopyName ∈ tblG ∧ Cond.native arraycopyName ∈ tblG ∧ Cond.static arraycopyName ∈ tblG ∧ Cond.initialized "java/lang/System" ∈ tblG := ⟨tG (i := 782) rfl rfl, tG (i := 769) rfl rfl, tG (i := 768) rfl rfl, tG (i := 66) rfl rfl⟩
set_option maxRecDepth 100000 in
theorem cl_L_148 : CV RL 148 yX9_restore cX9_restore 1 (some .int) 0 := ⟨tG (i := 783) rfl rfl, tG (i := 784) rfl rfl, tG (i := 785) rfl rfl, tG (i := 786) rfl rfl, tG (i := 52) rfl rfl, ⟨by decide +kernel, by decide +kernel, by decide +kernel⟩, by decide⟩
set_option maxRecDepth 100000 in
theorem cl_L_152 : CV RL 152 yX9_sheet cX9_sheet 4 (some .int) 3 := ⟨tG (i := 787) rfl rfl, tG (i := 788) rfl rfl, tG (i := 789) rfl rfl, tG (i := 790) rfl rfl, tG (i := 52) rfl rfl, ⟨by decide +kernel, by decide +kernel, by decide +kernel⟩, by decide⟩
set_option maxRecDepth 100000 in
theorem cl_X9_275 : CV RX9 275 yX4_renew cX4_renew 4 none 2 := ⟨tG (i := 791) rfl rfl, tG (i := 792) rfl rfl, tG (i := 793) rfl rfl, tG (i := 794) rfl rfl, tG (i := 61) rfl rfl, ⟨by decide +kernel, by decide +kernel, by decide +kernel⟩, by decide⟩
set_option maxRecDepth 100000 in
theorem cl_L_156 : CV RL 156 yX9_drop cX9_drop 3 (some .int) 1 := ⟨tG (i := 795) rfl rfl, tG (i := 796) rfl rfl, tG (i := 797) rfl rfl, tG (i := 798) rfl rfl, tG (i := 52) rfl rfl, ⟨by decide +kernel, by decide +kernel, by decide +kernel⟩, by decide⟩
set_option maxRecDepth 100000 in
theorem cl_X9_279 : CV RX9 279 yX4_isThere cX4_isThere 1 (some .boolean) 0 := ⟨tG (i := 799) rfl rfl, tG (i := 594) rfl rfl, tG (i := 595) rfl rfl, tG (i := 596) rfl rfl, tG (i := 61) rfl rfl, ⟨by decide +kernel, by decide +kernel, by decide +kernel⟩, by decide⟩
set_option maxRecDepth 100000 in
theorem cl_L_160 : CV RL 160 yX9_item cX9_item 6 (some .int) 4 := ⟨tG (i := 800) rfl rfl, tG (i := 801) rfl rfl, tG (i := 802) rfl rfl, tG (i := 803) rfl rfl, tG (i := 52) rfl rfl, ⟨by decide +kernel, by decide +kernel, by decide +kernel⟩, by decide⟩
set_option maxRecDepth 100000 in
theorem cl_X9_287 : CV RX9 287 yX4_put cX4_put 3 none 2 := ⟨tG (i := 804) rfl rfl, tG (i := 805) rfl rfl, tG (i := 806) rfl rfl, tG (i := 807) rfl rfl, tG (i := 61) rfl rfl, ⟨by decide +kernel, by decide +kernel, by decide +kernel⟩, by decide⟩
set_option maxRecDepth 100000 in
theorem cl_L_17 : CV RL 17 yX10_sock cX10_sock 5 (some .int) 4 := ⟨tG (i := 875) rfl rfl, tG (i := 876) rfl rfl, tG (i := 877) rfl rfl, tG (i := 878) rfl rfl, tG (i := 62) rfl rfl, ⟨by decide +kernel, by decide +kernel, by decide +kernel⟩, by decide⟩
set_option maxRecDepth 100000 in
theorem cl_X10_59 : CS RX10 59 yX10_in cX10_in 6 (some .boolean) 3 := ⟨tG (i := 880) rfl rfl, tG (i := 881) rfl rfl, tG (i := 882) rfl rfl, tG (i := 62) rfl rfl, ⟨by decide +kernel, by decide +kernel, by decide +kernel⟩, by decide⟩
set_option maxRecDepth 100000 in
theorem cl_X10_79 : CV RX10 79 yX10_add cX10_add 7 none 5 := ⟨tG (i := 884) rfl rfl, tG (i := 886) rfl rfl, tG (i := 20) rfl rfl, tG (i := 887) rfl rfl, tG (i := 62) rfl rfl, ⟨by decide +kernel, by decide +kernel, by decide +kernel⟩, by decide⟩
set_option maxRecDepth 100000 in
theorem cl_X10_71 : CV RX10 71 yX10_put cX10_put 4 none 3 := ⟨tG (i := 888) rfl rfl, tG (i := 890) rfl rfl, tG (i := 21) rfl rfl, tG (i := 891) rfl rfl, tG (i := 62) rfl rfl, ⟨by decide +kernel, by decide +kernel, by decide +kernel⟩, by decide⟩
set_option maxRecDepth 100000 in
theorem cl_L_24 : CV RL 24 yX10_type cX10_type 5 (some .int) 2 := ⟨tG (i := 892) rfl rfl, tG (i := 893) rfl rfl, tG (i := 894) rfl rfl, tG (i := 895) rfl rfl, tG (i := 62) rfl rfl, ⟨by decide +kernel, by decide +kernel, by decide +kernel⟩, by decide⟩
set_option maxRecDepth 100000 in
theorem cl_L_29 : CV RL 29 yX10_socks cX10_socks 3 (some .int) 0 := ⟨tG (i := 900) rfl rfl, tG (i := 901) rfl rfl, tG (i := 902) rfl rfl, tG (i := 903) rfl rfl, tG (i := 62) rfl rfl, ⟨by decide +kernel, by decide +kernel, by decide +kernel⟩, by decide⟩
set_option maxRecDepth 100000 in
theorem cl_X10_123 : CV RX10 123 yX10_readSocks cX10_readSocks 3 (some .boolean) 0 := ⟨tG (i := 904) rfl rfl, tG (i := 906) rfl rfl, tG (i := 22) rfl rfl, tG (i := 907) rfl rfl, tG (i := 62) rfl rfl, ⟨by decide +kernel, by decide +kernel, by decide +kernel⟩, by decide⟩
set_option maxRecDepth 100000 in
theorem cl_X10_117 : CV RX10 117 yX10_readSock cX10_readSock 3 (some .boolean) 1 := ⟨tG (i := 908) rfl rfl, tG (i := 910) rfl rfl, tG (i := 23) rfl rfl, tG (i := 911) rfl rfl, tG (i := 62) rfl rfl, ⟨by decide +kernel, by decide +kernel, by decide +kernel⟩, by decide⟩
set_option maxRecDepth 100000 in
theorem cl_X10_98 : CV RX10 98 yX10_nextByte cX10_nextByte 1 (some .int) 0 := ⟨tG (i := 912) rfl rfl, tG (i := 914) rfl rfl, tG (i := 24) rfl rfl, tG (i := 915) rfl rfl, tG (i := 62) rfl rfl, ⟨by decide +kernel, by decide +kernel, by decide +kernel⟩, by decide⟩
set_option maxRecDepth 100000 in
theorem cl_X10_108 : CV RX10 108 yX10_readNumber cX10_readNumber 5 (some .int) 2 := ⟨tG (i := 916) rfl rfl, tG (i := 918) rfl rfl, tG (i := 25) rfl rfl, tG (i := 919) rfl rfl, tG (i := 62) rfl rfl, ⟨by decide +kernel, by decide +kernel, by decide +kernel⟩, by decide⟩
set_option maxRecDepth 100000 in
theorem cl_X10_111 : CV RX10 111 yX10_takes cX10_takes 3 (some .boolean) 1 := ⟨tG (i := 922) rfl rfl, tG (i := 924) rfl rfl, tG (i := 26) rfl rfl, tG (i := 925) rfl rfl, tG (i := 62) rfl rfl, ⟨by decide +kernel, by decide +kernel, by decide +kernel⟩, by decide⟩
set_option maxRecDepth 100000 in
theorem cl_X10_114 : CV RX10 114 yX10_readLodgers cX10_readLodgers 5 (some .int) 0 := ⟨tG (i := 926) rfl rfl, tG (i := 928) rfl rfl, tG (i := 27) rfl rfl, tG (i := 929) rfl rfl, tG (i := 62) rfl rfl, ⟨by decide +kernel, by decide +kernel, by decide +kernel⟩, by decide⟩
set_option maxRecDepth 100000 in
theorem cl_L_34 : CV RL 34 yX10_told cX10_told 3 (some .int) 2 := ⟨tG (i := 931) rfl rfl, tG (i := 932) rfl rfl, tG (i := 933) rfl rfl, tG (i := 934) rfl rfl, tG (i := 62) rfl rfl, ⟨by decide +kernel, by decide +kernel, by decide +kernel⟩, by decide⟩
set_option maxRecDepth 100000 in
theorem cl_X10_63 : CV RX10 63 yX10_isSock cX10_isSock 2 (some .boolean) 1 := ⟨tG (i := 935) rfl rfl, tG (i := 937) rfl rfl, tG (i := 28) rfl rfl, tG (i := 938) rfl rfl, tG (i := 62) rfl rfl, ⟨by decide +kernel, by decide +kernel, by decide +kernel⟩, by decide⟩
set_option maxRecDepth 100000 in
theorem cl_X10_67 : CV RX10 67 yX10_of cX10_of 3 (some .int) 2 := ⟨tG (i := 940) rfl rfl, tG (i := 942) rfl rfl, tG (i := 29) rfl rfl, tG (i := 943) rfl rfl, tG (i := 62) rfl rfl, ⟨by decide +kernel, by decide +kernel, by decide +kernel⟩, by decide⟩
set_option maxRecDepth 100000 in
theorem cl_L_38 : CV RL 38 yX10_fade cX10_fade 4 (some .int) 2 := ⟨tG (i := 944) rfl rfl, tG (i := 945) rfl rfl, tG (i := 946) rfl rfl, tG (i := 947) rfl rfl, tG (i := 62) rfl rfl, ⟨by decide +kernel, by decide +kernel, by decide +kernel⟩, by decide⟩
set_option maxRecDepth 100000 in
theorem cl_L_42 : CV RL 42 yX10_set cX10_set 4 (some .int) 2 := ⟨tG (i := 949) rfl rfl, tG (i := 950) rfl rfl, tG (i := 951) rfl rfl, tG (i := 952) rfl rfl, tG (i := 62) rfl rfl, ⟨by decide +kernel, by decide +kernel, by decide +kernel⟩, by decide⟩
set_option maxRecDepth 100000 in
theorem cl_L_46 : CV RL 46 yX10_monday cX10_monday 5 (some .int) 2 := ⟨tG (i := 954) rfl rfl, tG (i := 955) rfl rfl, tG (i := 956) rfl rfl, tG (i := 957) rfl rfl, tG (i := 62) rfl rfl, ⟨by decide +kernel, by decide +kernel, by decide +kernel⟩, by decide⟩
set_option maxRecDepth 100000 in
theorem cl_X10_133 : CV RX10 133 yX10_allSocks cX10_allSocks 1 (some .int) 0 := ⟨tG (i := 958) rfl rfl, tG (i := 960) rfl rfl, tG (i := 30) rfl rfl, tG (i := 961) rfl rfl, tG (i := 62) rfl rfl, ⟨by decide +kernel, by decide +kernel, by decide +kernel⟩, by decide⟩
set_option maxRecDepth 100000 in
theorem cl_X10_136 : CS RX10 136 yX10_has cX10_has 2 (some .boolean) 2 := ⟨tG (i := 962) rfl rfl, tG (i := 963) rfl rfl, tG (i := 964) rfl rfl, tG (i := 62) rfl rfl, ⟨by decide +kernel, by decide +kernel, by decide +kernel⟩, by decide⟩
set_option maxRecDepth 100000 in
theorem cl_X10_140 : CV RX10 140 yX10_inPlace cX10_inPlace 4 (some .int) 1 := ⟨tG (i := 965) rfl rfl, tG (i := 967) rfl rfl, tG (i := 31) rfl rfl, tG (i := 968) rfl rfl, tG (i := 62) rfl rfl, ⟨by decide +kernel, by decide +kernel, by decide +kernel⟩, by decide⟩
set_option maxRecDepth 100000 in
theorem cl_X10_144 : CV RX10 144 yX10_faded cX10_faded 3 (some .int) 2 := ⟨tG (i := 969) rfl rfl, tG (i := 971) rfl rfl, tG (i := 32) rfl rfl, tG (i := 972) rfl rfl, tG (i := 62) rfl rfl, ⟨by decide +kernel, by decide +kernel, by decide +kernel⟩, by decide⟩
set_option maxRecDepth 100000 in
theorem cl_X10_147 : CV RX10 147 yX10_part2 cX10_part2 3 none 1 := ⟨tG (i := 973) rfl rfl, tG (i := 975) rfl rfl, tG (i := 33) rfl rfl, tG (i := 976) rfl rfl, tG (i := 62) rfl rfl, ⟨by decide +kernel, by decide +kernel, by decide +kernel⟩, by decide⟩
set_option maxRecDepth 100000 in
theorem cl_X10_151 : CS RX10 151 yX10_ones cX10_ones 3 (some .int) 1 := ⟨tG (i := 977) rfl rfl, tG (i := 978) rfl rfl, tG (i := 979) rfl rfl, tG (i := 62) rfl rfl, ⟨by decide +kernel, by decide +kernel, by decide +kernel⟩, by decide⟩
set_option maxRecDepth 100000 in
theorem cl_L_51 : CV RL 51 yX10_found cX10_found 3 (some .int) 1 := ⟨tG (i := 980) rfl rfl, tG (i := 981) rfl rfl, tG (i := 982) rfl rfl, tG (i := 983) rfl rfl, tG (i := 62) rfl rfl, ⟨by decide +kernel, by decide +kernel, by decide +kernel⟩, by decide⟩
set_option maxRecDepth 100000 in
theorem cl_L_55 : CV RL 55 yX10_alike cX10_alike 3 (some .int) 2 := ⟨tG (i := 984) rfl rfl, tG (i := 985) rfl rfl, tG (i := 986) rfl rfl, tG (i := 987) rfl rfl, tG (i := 62) rfl rfl, ⟨by decide +kernel, by decide +kernel, by decide +kernel⟩, by decide⟩
set_option maxRecDepth 100000 in
theorem cl_X10_157 : CV RX10 157 yX10_areTwo cX10_areTwo 3 (some .boolean) 2 := ⟨tG (i := 988) rfl rfl, tG (i := 990) rfl rfl, tG (i := 34) rfl rfl, tG (i := 991) rfl rfl, tG (i := 62) rfl rfl, ⟨by decide +kernel, by decide +kernel, by decide +kernel⟩, by decide⟩
set_option maxRecDepth 100000 in
theorem cl_X10_160 : CV RX10 160 yX10_alikeOf cX10_alikeOf 7 (some .int) 2 := ⟨tG (i := 992) rfl rfl, tG (i := 994) rfl rfl, tG (i := 35) rfl rfl, tG (i := 995) rfl rfl, tG (i := 62) rfl rfl, ⟨by decide +kernel, by decide +kernel, by decide +kernel⟩, by decide⟩
set_option maxRecDepth 100000 in
theorem cl_X10_154 : CS RX10 154 yX10_more cX10_more 2 (some .int) 2 := ⟨tG (i := 996) rfl rfl, tG (i := 997) rfl rfl, tG (i := 998) rfl rfl, tG (i := 62) rfl rfl, ⟨by decide +kernel, by decide +kernel, by decide +kernel⟩, by decide⟩
set_option maxRecDepth 100000 in
theorem cl_L_59 : CV RL 59 yX10_fellows cX10_fellows 3 (some .int) 2 := ⟨tG (i := 999) rfl rfl, tG (i := 1000) rfl rfl, tG (i := 1001) rfl rfl, tG (i := 1002) rfl rfl, tG (i := 62) rfl rfl, ⟨by decide +kernel, by decide +kernel, by decide +kernel⟩, by decide⟩
set_option maxRecDepth 100000 in
theorem cl_X10_163 : CV RX10 163 yX10_bars cX10_bars 9 (some .int) 2 := ⟨tG (i := 1003) rfl rfl, tG (i := 1005) rfl rfl, tG (i := 36) rfl rfl, tG (i := 1006) rfl rfl, tG (i := 62) rfl rfl, ⟨by decide +kernel, by decide +kernel, by decide +kernel⟩, by decide⟩
set_option maxRecDepth 100000 in
theorem cl_L_63 : CV RL 63 yX10_count cX10_count 2 (some .int) 1 := ⟨tG (i := 1007) rfl rfl, tG (i := 1008) rfl rfl, tG (i := 1009) rfl rfl, tG (i := 1010) rfl rfl, tG (i := 62) rfl rfl, ⟨by decide +kernel, by decide +kernel, by decide +kernel⟩, by decide⟩
set_option maxRecDepth 100000 in
theorem cl_X10_166 : CV RX10 166 yX10_lostOf cX10_lostOf 5 (some .int) 2 := ⟨tG (i := 1011) rfl rfl, tG (i := 1013) rfl rfl, tG (i := 37) rfl rfl, tG (i := 1014) rfl rfl, tG (i := 62) rfl rfl, ⟨by decide +kernel, by decide +kernel, by decide +kernel⟩, by decide⟩
set_option maxRecDepth 100000 in
theorem cl_L_67 : CV RL 67 yX10_pairs cX10_pairs 5 (some .int) 1 := ⟨tG (i := 1015) rfl rfl, tG (i := 1016) rfl rfl, tG (i := 1017) rfl rfl, tG (i := 1018) rfl rfl, tG (i := 62) rfl rfl, ⟨by decide +kernel, by decide +kernel, by decide +kernel⟩, by decide⟩
set_option maxRecDepth 100000 in
theorem cl_X10_179 : CV RX10 179 yX10_findPairs cX10_findPairs 6 none 0 := ⟨tG (i := 1019) rfl rfl, tG (i := 1021) rfl rfl, tG (i := 38) rfl rfl, tG (i := 1022) rfl rfl, tG (i := 62) rfl rfl, ⟨by decide +kernel, by decide +kernel, by decide +kernel⟩, by decide⟩
set_option maxRecDepth 100000 in
theorem cl_X10_172 : CS RX10 172 yX10_lowest cX10_lowest 2 (some .int) 1 := ⟨tG (i := 1023) rfl rfl, tG (i := 1024) rfl rfl, tG (i := 1025) rfl rfl, tG (i := 62) rfl rfl, ⟨by decide +kernel, by decide +kernel, by decide +kernel⟩, by decide⟩
set_option maxRecDepth 100000 in
theorem cl_X10_175 : CV RX10 175 yX10_worthBy cX10_worthBy 4 (some .int) 3 := ⟨tG (i := 1026) rfl rfl, tG (i := 1028) rfl rfl, tG (i := 39) rfl rfl, tG (i := 1029) rfl rfl, tG (i := 62) rfl rfl, ⟨by decide +kernel, by decide +kernel, by decide +kernel⟩, by decide⟩
set_option maxRecDepth 100000 in
theorem cl_X10_169 : CV RX10 169 yX10_distance cX10_distance 4 (some .int) 2 := ⟨tG (i := 1030) rfl rfl, tG (i := 1032) rfl rfl, tG (i := 40) rfl rfl, tG (i := 1033) rfl rfl, tG (i := 62) rfl rfl, ⟨by decide +kernel, by decide +kernel, by decide +kernel⟩, by decide⟩
set_option maxRecDepth 100000 in
theorem cl_L_71 : CV RL 71 yX10_fellow cX10_fellow 2 (some .int) 1 := ⟨tG (i := 1034) rfl rfl, tG (i := 1035) rfl rfl, tG (i := 1036) rfl rfl, tG (i := 1037) rfl rfl, tG (i := 62) rfl rfl, ⟨by decide +kernel, by decide +kernel, by decide +kernel⟩, by decide⟩
set_option maxRecDepth 100000 in
theorem cl_L_75 : CV RL 75 yX10_pairUp cX10_pairUp 3 (some .int) 0 := ⟨tG (i := 1038) rfl rfl, tG (i := 1039) rfl rfl, tG (i := 1040) rfl rfl, tG (i := 1041) rfl rfl, tG (i := 62) rfl rfl, ⟨by decide +kernel, by decide +kernel, by decide +kernel⟩, by decide⟩
set_option maxRecDepth 100000 in
theorem cl_L_79 : CV RL 79 yX10_part cX10_part 3 (some .int) 1 := ⟨tG (i := 1042) rfl rfl, tG (i := 1043) rfl rfl, tG (i := 1044) rfl rfl, tG (i := 1045) rfl rfl, tG (i := 62) rfl rfl, ⟨by decide +kernel, by decide +kernel, by decide +kernel⟩, by decide⟩
set_option maxRecDepth 100000 in
theorem cl_L_84 : CV RL 84 yX10_judge cX10_judge 9 (some .int) 3 := ⟨tG (i := 1046) rfl rfl, tG (i := 1047) rfl rfl, tG (i := 1048) rfl rfl, tG (i := 1049) rfl rfl, tG (i := 62) rfl rfl, ⟨by decide +kernel, by decide +kernel, by decide +kernel⟩, by decide⟩
set_option maxRecDepth 100000 in
theorem cl_X10_182 : CS RX10 182 yX10_isSheet cX10_isSheet 2 (some .boolean) 2 := ⟨tG (i := 1050) rfl rfl, tG (i := 1051) rfl rfl, tG (i := 1052) rfl rfl, tG (i := 62) rfl rfl, ⟨by decide +kernel, by decide +kernel, by decide +kernel⟩, by decide⟩
set_option maxRecDepth 100000 in
theorem cl_X10_185 : CV RX10 185 yX10_lacksRow cX10_lacksRow 5 (some .int) 4 := ⟨tG (i := 1054) rfl rfl, tG (i := 1056) rfl rfl, tG (i := 41) rfl rfl, tG (i := 1057) rfl rfl, tG (i := 62) rfl rfl, ⟨by decide +kernel, by decide +kernel, by decide +kernel⟩, by decide⟩
set_option maxRecDepth 100000 in
theorem cl_L_89 : CV RL 89 yX10_thrown cX10_thrown 9 (some .int) 6 := ⟨tG (i := 1058) rfl rfl, tG (i := 1059) rfl rfl, tG (i := 1060) rfl rfl, tG (i := 1061) rfl rfl, tG (i := 62) rfl rfl, ⟨by decide +kernel, by decide +kernel, by decide +kernel⟩, by decide⟩
set_option maxRecDepth 100000 in
theorem cl_X10_193 : CV RX10 193 yX10_findWorths cX10_findWorths 14 (some .int) 6 := ⟨tG (i := 1062) rfl rfl, tG (i := 1064) rfl rfl, tG (i := 42) rfl rfl, tG (i := 1065) rfl rfl, tG (i := 62) rfl rfl, ⟨by decide +kernel, by decide +kernel, by decide +kernel⟩, by decide⟩
set_option maxRecDepth 100000 in
theorem cl_L_94 : CV RL 94 yX10_worth cX10_worth 11 (some .long) 7 := ⟨tG (i := 1068) rfl rfl, tG (i := 1069) rfl rfl, tG (i := 1070) rfl rfl, tG (i := 1071) rfl rfl, tG (i := 62) rfl rfl, ⟨by decide +kernel, by decide +kernel, by decide +kernel⟩, by decide⟩
set_option maxRecDepth 100000 in
theorem cl_X10_199 : CS RX10 199 yX10_common cX10_common 10 (some .long) 2 := ⟨tG (i := 1073) rfl rfl, tG (i := 1074) rfl rfl, tG (i := 1075) rfl rfl, tG (i := 62) rfl rfl, ⟨by decide +kernel, by decide +kernel, by decide +kernel⟩, by decide⟩
set_option maxRecDepth 100000 in
theorem cl_L_98 : CV RL 98 yX10_worst cX10_worst 3 (some .int) 0 := ⟨tG (i := 1076) rfl rfl, tG (i := 1077) rfl rfl, tG (i := 1078) rfl rfl, tG (i := 1079) rfl rfl, tG (i := 62) rfl rfl, ⟨by decide +kernel, by decide +kernel, by decide +kernel⟩, by decide⟩
set_option maxRecDepth 100000 in
theorem cl_X10_203 : CV RX10 203 yX10_boxOf cX10_boxOf 5 (some .int) 2 := ⟨tG (i := 1080) rfl rfl, tG (i := 1082) rfl rfl, tG (i := 43) rfl rfl, tG (i := 1083) rfl rfl, tG (i := 62) rfl rfl, ⟨by decide +kernel, by decide +kernel, by decide +kernel⟩, by decide⟩
set_option maxRecDepth 100000 in
theorem cl_L_102 : CV RL 102 yX10_odds cX10_odds 7 (some .int) 2 := ⟨tG (i := 1084) rfl rfl, tG (i := 1085) rfl rfl, tG (i := 1086) rfl rfl, tG (i := 1087) rfl rfl, tG (i := 62) rfl rfl, ⟨by decide +kernel, by decide +kernel, by decide +kernel⟩, by decide⟩
set_option maxRecDepth 100000 in
theorem cl_X10_209 : CV RX10 209 yX10_unpaired cX10_unpaired 3 (some .int) 2 := ⟨tG (i := 1088) rfl rfl, tG (i := 1090) rfl rfl, tG (i := 44) rfl rfl, tG (i := 1091) rfl rfl, tG (i := 62) rfl rfl, ⟨by decide +kernel, by decide +kernel, by decide +kernel⟩, by decide⟩
set_option maxRecDepth 100000 in
theorem cl_X10_206 : CS RX10 206 yX10_choose cX10_choose 5 (some .int) 2 := ⟨tG (i := 1092) rfl rfl, tG (i := 1093) rfl rfl, tG (i := 1094) rfl rfl, tG (i := 62) rfl rfl, ⟨by decide +kernel, by decide +kernel, by decide +kernel⟩, by decide⟩
set_option maxRecDepth 100000 in
theorem cl_L_106 : CV RL 106 yX10_owns cX10_owns 7 (some .int) 4 := ⟨tG (i := 1095) rfl rfl, tG (i := 1096) rfl rfl, tG (i := 1097) rfl rfl, tG (i := 1098) rfl rfl, tG (i := 62) rfl rfl, ⟨by decide +kernel, by decide +kernel, by decide +kernel⟩, by decide⟩
set_option maxRecDepth 100000 in
theorem cl_L_110 : CV RL 110 yX10_may cX10_may 4 (some .int) 2 := ⟨tG (i := 1099) rfl rfl, tG (i := 1100) rfl rfl, tG (i := 1101) rfl rfl, tG (i := 1102) rfl rfl, tG (i := 62) rfl rfl, ⟨by decide +kernel, by decide +kernel, by decide +kernel⟩, by decide⟩
set_option maxRecDepth 100000 in
theorem cl_L_114 : CV RL 114 yX10_bind cX10_bind 6 (some .int) 2 := ⟨tG (i := 1103) rfl rfl, tG (i := 1104) rfl rfl, tG (i := 1105) rfl rfl, tG (i := 1106) rfl rfl, tG (i := 62) rfl rfl, ⟨by decide +kernel, by decide +kernel, by decide +kernel⟩, by decide⟩
set_option maxRecDepth 100000 in
theorem cl_L_119 : CV RL 119 yX10_ways cX10_ways 1 (some .long) 0 := ⟨tG (i := 1107) rfl rfl, tG (i := 1108) rfl rfl, tG (i := 1109) rfl rfl, tG (i := 1110) rfl rfl, tG (i := 62) rfl rfl, ⟨by decide +kernel, by decide +kernel, by decide +kernel⟩, by decide⟩
set_option maxRecDepth 100000 in
theorem cl_X10_226 : CV RX10 226 yX10_allWays cX10_allWays 6 (some .long) 2 := ⟨tG (i := 1111) rfl rfl, tG (i := 1113) rfl rfl, tG (i := 45) rfl rfl, tG (i := 1114) rfl rfl, tG (i := 62) rfl rfl, ⟨by decide +kernel, by decide +kernel, by decide +kernel⟩, by decide⟩
set_option maxRecDepth 100000 in
theorem cl_X10_222 : CV RX10 222 yX10_waysOf cX10_waysOf 11 (some .long) 3 := ⟨tG (i := 1115) rfl rfl, tG (i := 1117) rfl rfl, tG (i := 46) rfl rfl, tG (i := 1118) rfl rfl, tG (i := 62) rfl rfl, ⟨by decide +kernel, by decide +kernel, by decide +kernel⟩, by decide⟩
set_option maxRecDepth 100000 in
theorem cl_X10_212 : CV RX10 212 yX10_sizeOf cX10_sizeOf 4 (some .int) 1 := ⟨tG (i := 1119) rfl rfl, tG (i := 1121) rfl rfl, tG (i := 47) rfl rfl, tG (i := 1122) rfl rfl, tG (i := 62) rfl rfl, ⟨by decide +kernel, by decide +kernel, by decide +kernel⟩, by decide⟩
set_option maxRecDepth 100000 in
theorem cl_X10_215 : CV RX10 215 yX10_mayOf cX10_mayOf 6 (some .int) 3 := ⟨tG (i := 1123) rfl rfl, tG (i := 1125) rfl rfl, tG (i := 48) rfl rfl, tG (i := 1126) rfl rfl, tG (i := 62) rfl rfl, ⟨by decide +kernel, by decide +kernel, by decide +kernel⟩, by decide⟩
set_option maxRecDepth 100000 in
theorem cl_X10_218 : CV RX10 218 yX10_isOwned cX10_isOwned 5 (some .boolean) 3 := ⟨tG (i := 1127) rfl rfl, tG (i := 1129) rfl rfl, tG (i := 49) rfl rfl, tG (i := 1130) rfl rfl, tG (i := 62) rfl rfl, ⟨by decide +kernel, by decide +kernel, by decide +kernel⟩, by decide⟩
set_option maxRecDepth 100000 in
theorem cl_L_123 : CV RL 123 yX10_whose cX10_whose 4 (some .int) 1 := ⟨tG (i := 1131) rfl rfl, tG (i := 1132) rfl rfl, tG (i := 1133) rfl rfl, tG (i := 1134) rfl rfl, tG (i := 62) rfl rfl, ⟨by decide +kernel, by decide +kernel, by decide +kernel⟩, by decide⟩
set_option maxRecDepth 100000 in
theorem cl_L_127 : CV RL 127 yX10_seldom cX10_seldom 7 (some .int) 1 := ⟨tG (i := 1135) rfl rfl, tG (i := 1136) rfl rfl, tG (i := 1137) rfl rfl, tG (i := 1138) rfl rfl, tG (i := 62) rfl rfl, ⟨by decide +kernel, by decide +kernel, by decide +kernel⟩, by decide⟩
set_option maxRecDepth 100000 in
theorem cl_L_131 : CV RL 131 yX10_lacks cX10_lacks 5 (some .int) 2 := ⟨tG (i := 1139) rfl rfl, tG (i := 1140) rfl rfl, tG (i := 1141) rfl rfl, tG (i := 1142) rfl rfl, tG (i := 62) rfl rfl, ⟨by decide +kernel, by decide +kernel, by decide +kernel⟩, by decide⟩
set_option maxRecDepth 100000 in
theorem cl_L_135 : CV RL 135 yX10_wish cX10_wish 4 (some .int) 2 := ⟨tG (i := 1143) rfl rfl, tG (i := 1144) rfl rfl, tG (i := 1145) rfl rfl, tG (i := 1146) rfl rfl, tG (i := 62) rfl rfl, ⟨by decide +kernel, by decide +kernel, by decide +kernel⟩, by decide⟩
set_option maxRecDepth 100000 in
theorem cl_L_139 : CV RL 139 yX10_buy cX10_buy 5 (some .int) 0 := ⟨tG (i := 1148) rfl rfl, tG (i := 1149) rfl rfl, tG (i := 1150) rfl rfl, tG (i := 1151) rfl rfl, tG (i := 62) rfl rfl, ⟨by decide +kernel, by decide +kernel, by decide +kernel⟩, by decide⟩
set_option maxRecDepth 100000 in
theorem cl_L_143 : CV RL 143 yX10_marks cX10_marks 5 (some .int) 3 := ⟨tG (i := 1152) rfl rfl, tG (i := 1153) rfl rfl, tG (i := 1154) rfl rfl, tG (i := 1155) rfl rfl, tG (i := 62) rfl rfl, ⟨by decide +kernel, by decide +kernel, by decide +kernel⟩, by decide⟩
set_option maxRecDepth 100000 in
theorem cl_X10_237 : CV RX10 237 yX10_findMarks cX10_findMarks 7 (some .boolean) 3 := ⟨tG (i := 1156) rfl rfl, tG (i := 1158) rfl rfl, tG (i := 50) rfl rfl, tG (i := 1159) rfl rfl, tG (i := 62) rfl rfl, ⟨by decide +kernel, by decide +kernel, by decide +kernel⟩, by decide⟩
set_option maxRecDepth 100000 in
theorem cl_X10_232 : CS RX10 232 yX10_areApart cX10_areApart 3 (some .boolean) 3 := ⟨tG (i := 1160) rfl rfl, tG (i := 1161) rfl rfl, tG (i := 1162) rfl rfl, tG (i := 62) rfl rfl, ⟨by decide +kernel, by decide +kernel, by decide +kernel⟩, by decide⟩
set_option maxRecDepth 100000 in
theorem cl_L_147 : CV RL 147 yX10_image cX10_image 2 (some .int) 0 := ⟨tG (i := 1163) rfl rfl, tG (i := 1164) rfl rfl, tG (i := 1165) rfl rfl, tG (i := 1166) rfl rfl, tG (i := 62) rfl rfl, ⟨by decide +kernel, by decide +kernel, by decide +kernel⟩, by decide⟩
set_option maxRecDepth 100000 in
theorem cl_L_151 : CV RL 151 yX10_restore cX10_restore 2 (some .int) 0 := ⟨tG (i := 1167) rfl rfl, tG (i := 1168) rfl rfl, tG (i := 1169) rfl rfl, tG (i := 1170) rfl rfl, tG (i := 62) rfl rfl, ⟨by decide +kernel, by decide +kernel, by decide +kernel⟩, by decide⟩
set_option maxRecDepth 100000 in
theorem cl_L_155 : CV RL 155 yX10_sheet cX10_sheet 5 (some .int) 3 := ⟨tG (i := 1171) rfl rfl, tG (i := 1172) rfl rfl, tG (i := 1173) rfl rfl, tG (i := 1174) rfl rfl, tG (i := 62) rfl rfl, ⟨by decide +kernel, by decide +kernel, by decide +kernel⟩, by decide⟩
set_option maxRecDepth 100000 in
theorem cl_L_159 : CV RL 159 yX10_drop cX10_drop 2 (some .int) 1 := ⟨tG (i := 1175) rfl rfl, tG (i := 1176) rfl rfl, tG (i := 1177) rfl rfl, tG (i := 1178) rfl rfl, tG (i := 62) rfl rfl, ⟨by decide +kernel, by decide +kernel, by decide +kernel⟩, by decide⟩
set_option maxRecDepth 100000 in
theorem cl_L_163 : CV RL 163 yX10_item cX10_item 6 (some .int) 4 := ⟨tG (i := 1179) rfl rfl, tG (i := 1180) rfl rfl, tG (i := 1181) rfl rfl, tG (i := 1182) rfl rfl, tG (i := 62) rfl rfl, ⟨by decide +kernel, by decide +kernel, by decide +kernel⟩, by decide⟩
