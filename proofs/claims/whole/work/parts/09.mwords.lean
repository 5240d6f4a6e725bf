set_option maxRecDepth 100000 in
theorem ob_1 : Cond.instanceMethod Lib.objectInit ∈ tblG := tG (i := 73) rfl rfl
set_option maxRecDepth 100000 in
theorem ob_2 : Cond.code Lib.objectInit ⟨#[0xb1]⟩ 1 none ∈ tblG := tG (i := 74) rfl rfl
set_option maxRecDepth 100000 in
theorem ci_L_9 : CI RL 9 yX9_init cX9_init 2 := ⟨tG (i := 69) rfl rfl, tG (i := 70) rfl rfl, tG (i := 71) rfl rfl, tG (i := 52) rfl rfl, ⟨by decide +kernel, by decide +kernel, by decide +kernel⟩, by decide, rfl⟩
set_option maxRecDepth 100000 in
theorem co_X9_1 : Cond.methodLink RX9 1 Lib.objectInit ∈ tblG ∧ Cond.instanceMethod Lib.objectInit ∈ tblG ∧ Cond.code Lib.objectInit ⟨#[0xb1]⟩ 1 none ∈ tblG := ⟨tG (i := 72) rfl rfl, ob_1, ob_2⟩
set_option maxRecDepth 100000 in
theorem ci_X9_9 : CI RX9 9 yX1_init cX1_init 2 := ⟨tG (i := 77) rfl rfl, tG (i := 78) rfl rfl, tG (i := 79) rfl rfl, tG (i := 53) rfl rfl, ⟨by decide +kernel, by decide +kernel, by decide +kernel⟩, by decide, rfl⟩
set_option maxRecDepth 100000 in
theorem co_X1_3 : Cond.methodLink RX1 3 Lib.objectInit ∈ tblG ∧ Cond.instanceMethod Lib.objectInit ∈ tblG ∧ Cond.code Lib.objectInit ⟨#[0xb1]⟩ 1 none ∈ tblG := ⟨tG (i := 80) rfl rfl, ob_1, ob_2⟩
set_option maxRecDepth 100000 in
theorem ci_X1_40 : CJ RX1 40 yX5_init cX5_init 1 := ⟨by simp [tblM], tG (i := 85) rfl rfl, tG (i := 86) rfl rfl, tG (i := 54) rfl rfl, ⟨by decide +kernel, by decide +kernel, by decide +kernel⟩, by decide, rfl⟩
set_option maxRecDepth 100000 in
theorem co_X5_3 : Cond.methodLink RX5 3 Lib.objectInit ∈ tblG ∧ Cond.instanceMethod Lib.objectInit ∈ tblG ∧ Cond.code Lib.objectInit ⟨#[0xb1]⟩ 1 none ∈ tblG := ⟨tG (i := 87) rfl rfl, ob_1, ob_2⟩
set_option maxRecDepth 100000 in
theorem ci_X9_21 : CI RX9 21 yX6_init cX6_init 2 := ⟨tG (i := 180) rfl rfl, tG (i := 181) rfl rfl, tG (i := 182) rfl rfl, tG (i := 55) rfl rfl, ⟨by decide +kernel, by decide +kernel, by decide +kernel⟩, by decide, rfl⟩
set_option maxRecDepth 100000 in
theorem co_X6_3 : Cond.methodLink RX6 3 Lib.objectInit ∈ tblG ∧ Cond.instanceMethod Lib.objectInit ∈ tblG ∧ Cond.code Lib.objectInit ⟨#[0xb1]⟩ 1 none ∈ tblG := ⟨tG (i := 183) rfl rfl, ob_1, ob_2⟩
set_option maxRecDepth 100000 in
theorem ci_X6_21 : CJ RX6 21 yX5_init cX5_init 1 := ⟨by simp [tblM], tG (i := 85) rfl rfl, tG (i := 86) rfl rfl, tG (i := 54) rfl rfl, ⟨by decide +kernel, by decide +kernel, by decide +kernel⟩, by decide, rfl⟩
set_option maxRecDepth 100000 in
theorem ci_X9_28 : CJ RX9 28 yX5_init cX5_init 1 := ⟨by simp [tblM], tG (i := 85) rfl rfl, tG (i := 86) rfl rfl, tG (i := 54) rfl rfl, ⟨by decide +kernel, by decide +kernel, by decide +kernel⟩, by decide, rfl⟩
set_option maxRecDepth 100000 in
theorem ci_X9_35 : CJ RX9 35 yX3_init cX3_init 1 := ⟨by simp [tblM], tG (i := 206) rfl rfl, tG (i := 207) rfl rfl, tG (i := 56) rfl rfl, ⟨by decide +kernel, by decide +kernel, by decide +kernel⟩, by decide, rfl⟩
set_option maxRecDepth 100000 in
theorem co_X3_3 : Cond.methodLink RX3 3 Lib.objectInit ∈ tblG ∧ Cond.instanceMethod Lib.objectInit ∈ tblG ∧ Cond.code Lib.objectInit ⟨#[0xb1]⟩ 1 none ∈ tblG := ⟨tG (i := 208) rfl rfl, ob_1, ob_2⟩
set_option maxRecDepth 100000 in
theorem ci_X9_42 : CJ RX9 42 yX8_init cX8_init 1 := ⟨by simp [tblM], tG (i := 231) rfl rfl, tG (i := 232) rfl rfl, tG (i := 57) rfl rfl, ⟨by decide +kernel, by decide +kernel, by decide +kernel⟩, by decide, rfl⟩
set_option maxRecDepth 100000 in
theorem co_X8_3 : Cond.methodLink RX8 3 Lib.objectInit ∈ tblG ∧ Cond.instanceMethod Lib.objectInit ∈ tblG ∧ Cond.code Lib.objectInit ⟨#[0xb1]⟩ 1 none ∈ tblG := ⟨tG (i := 233) rfl rfl, ob_1, ob_2⟩
set_option maxRecDepth 100000 in
theorem ci_X9_49 : CJ RX9 49 yX0_init cX0_init 1 := ⟨by simp [tblM], tG (i := 253) rfl rfl, tG (i := 254) rfl rfl, tG (i := 58) rfl rfl, ⟨by decide +kernel, by decide +kernel, by decide +kernel⟩, by decide, rfl⟩
set_option maxRecDepth 100000 in
theorem co_X0_3 : Cond.methodLink RX0 3 Lib.objectInit ∈ tblG ∧ Cond.instanceMethod Lib.objectInit ∈ tblG ∧ Cond.code Lib.objectInit ⟨#[0xb1]⟩ 1 none ∈ tblG := ⟨tG (i := 255) rfl rfl, ob_1, ob_2⟩
set_option maxRecDepth 100000 in
theorem ci_X9_56 : CJ RX9 56 yX2_init cX2_init 1 := ⟨by simp [tblM], tG (i := 268) rfl rfl, tG (i := 269) rfl rfl, tG (i := 59) rfl rfl, ⟨by decide +kernel, by decide +kernel, by decide +kernel⟩, by decide, rfl⟩
set_option maxRecDepth 100000 in
theorem co_X2_3 : Cond.methodLink RX2 3 Lib.objectInit ∈ tblG ∧ Cond.instanceMethod Lib.objectInit ∈ tblG ∧ Cond.code Lib.objectInit ⟨#[0xb1]⟩ 1 none ∈ tblG := ⟨tG (i := 270) rfl rfl, ob_1, ob_2⟩
set_option maxRecDepth 100000 in
theorem ci_X9_63 : CJ RX9 63 yX7_init cX7_init 1 := ⟨by simp [tblM], tG (i := 278) rfl rfl, tG (i := 279) rfl rfl, tG (i := 60) rfl rfl, ⟨by decide +kernel, by decide +kernel, by decide +kernel⟩, by decide, rfl⟩
set_option maxRecDepth 100000 in
theorem co_X7_3 : Cond.methodLink RX7 3 Lib.objectInit ∈ tblG ∧ Cond.instanceMethod Lib.objectInit ∈ tblG ∧ Cond.code Lib.objectInit ⟨#[0xb1]⟩ 1 none ∈ tblG := ⟨tG (i := 280) rfl rfl, ob_1, ob_2⟩
set_option maxRecDepth 100000 in
theorem ci_X9_74 : CJ RX9 74 yX4_init cX4_init 1 := ⟨by simp [tblM], tG (i := 298) rfl rfl, tG (i := 299) rfl rfl, tG (i := 61) rfl rfl, ⟨by decide +kernel, by decide +kernel, by decide +kernel⟩, by decide, rfl⟩
set_option maxRecDepth 100000 in
theorem co_X4_3 : Cond.methodLink RX4 3 Lib.objectInit ∈ tblG ∧ Cond.instanceMethod Lib.objectInit ∈ tblG ∧ Cond.code Lib.objectInit ⟨#[0xb1]⟩ 1 none ∈ tblG := ⟨tG (i := 300) rfl rfl, ob_1, ob_2⟩
set_option maxRecDepth 100000 in
theorem ci_L_12 : CI RL 12 yX10_init cX10_init 2 := ⟨tG (i := 810) rfl rfl, tG (i := 811) rfl rfl, tG (i := 812) rfl rfl, tG (i := 62) rfl rfl, ⟨by decide +kernel, by decide +kernel, by decide +kernel⟩, by decide, rfl⟩
set_option maxRecDepth 100000 in
theorem co_X10_1 : Cond.methodLink RX10 1 Lib.objectInit ∈ tblG ∧ Cond.instanceMethod Lib.objectInit ∈ tblG ∧ Cond.code Lib.objectInit ⟨#[0xb1]⟩ 1 none ∈ tblG := ⟨tG (i := 813) rfl rfl, ob_1, ob_2⟩
set_option maxRecDepth 100000 in
theorem lk_L_7 : Cond.classLink RL 7 RX9 ∈ tblG := tG (i := 67) rfl rfl
set_option maxRecDepth 100000 in
theorem nw_L_7 : NW RL 7 9 [0, 0, 1, 0, 0, 0, 0, 0, 0, 0, 0] := ⟨_, _, _, tyX9, rfl, inG9, tyX9_ok, lk_L_7, tG (i := 68) rfl rfl, tG (i := 52) rfl rfl, rfl, by decide +kernel⟩
set_option maxRecDepth 100000 in
theorem lk_X9_7 : Cond.classLink RX9 7 RX1 ∈ tblG := tG (i := 75) rfl rfl
set_option maxRecDepth 100000 in
theorem nw_X9_7 : NW RX9 7 1 [0, 1, 0, 0, 1, 0, 1, 1, 0, 0, 0] := ⟨_, _, _, tyX1, rfl, inG1, tyX1_ok, lk_X9_7, tG (i := 76) rfl rfl, tG (i := 53) rfl rfl, rfl, by decide +kernel⟩
set_option maxRecDepth 100000 in
theorem lk_X1_9 : Cond.classLink RX1 9 RX5 ∈ tblG := tG (i := 81) rfl rfl
set_option maxRecDepth 100000 in
theorem nw_X1_9 : NW RX1 9 5 [1, 1, 1, 1, 1, 1, 1, 1, 1] := ⟨_, _, _, tyX5, rfl, inG5, tyX5_ok, lk_X1_9, tG (i := 83) rfl rfl, tG (i := 54) rfl rfl, rfl, by decide +kernel⟩
set_option maxRecDepth 100000 in
theorem lk_X9_19 : Cond.classLink RX9 19 RX6 ∈ tblG := tG (i := 178) rfl rfl
set_option maxRecDepth 100000 in
theorem nw_X9_19 : NW RX9 19 6 [0, 1, 1, 0] := ⟨_, _, _, tyX6, rfl, inG6, tyX6_ok, lk_X9_19, tG (i := 179) rfl rfl, tG (i := 55) rfl rfl, rfl, by decide +kernel⟩
set_option maxRecDepth 100000 in
theorem lk_X6_15 : Cond.classLink RX6 15 RX5 ∈ tblG := tG (i := 184) rfl rfl
set_option maxRecDepth 100000 in
theorem nw_X6_15 : NW RX6 15 5 [1, 1, 1, 1, 1, 1, 1, 1, 1] := ⟨_, _, _, tyX5, rfl, inG5, tyX5_ok, lk_X6_15, tG (i := 83) rfl rfl, tG (i := 54) rfl rfl, rfl, by decide +kernel⟩
set_option maxRecDepth 100000 in
theorem lk_X9_26 : Cond.classLink RX9 26 RX5 ∈ tblG := tG (i := 201) rfl rfl
set_option maxRecDepth 100000 in
theorem nw_X9_26 : NW RX9 26 5 [1, 1, 1, 1, 1, 1, 1, 1, 1] := ⟨_, _, _, tyX5, rfl, inG5, tyX5_ok, lk_X9_26, tG (i := 83) rfl rfl, tG (i := 54) rfl rfl, rfl, by decide +kernel⟩
set_option maxRecDepth 100000 in
theorem lk_X9_33 : Cond.classLink RX9 33 RX3 ∈ tblG := tG (i := 203) rfl rfl
set_option maxRecDepth 100000 in
theorem nw_X9_33 : NW RX9 33 3 [0, 0, 0, 1, 1] := ⟨_, _, _, tyX3, rfl, inG3, tyX3_ok, lk_X9_33, tG (i := 204) rfl rfl, tG (i := 56) rfl rfl, rfl, by decide +kernel⟩
set_option maxRecDepth 100000 in
theorem lk_X9_40 : Cond.classLink RX9 40 RX8 ∈ tblG := tG (i := 228) rfl rfl
set_option maxRecDepth 100000 in
theorem nw_X9_40 : NW RX9 40 8 [0, 0, 2, 1] := ⟨_, _, _, tyX8, rfl, inG8, tyX8_ok, lk_X9_40, tG (i := 229) rfl rfl, tG (i := 57) rfl rfl, rfl, by decide +kernel⟩
set_option maxRecDepth 100000 in
theorem lk_X9_47 : Cond.classLink RX9 47 RX0 ∈ tblG := tG (i := 250) rfl rfl
set_option maxRecDepth 100000 in
theorem nw_X9_47 : NW RX9 47 0 [0, 1] := ⟨_, _, _, tyX0, rfl, inG0, tyX0_ok, lk_X9_47, tG (i := 251) rfl rfl, tG (i := 58) rfl rfl, rfl, by decide +kernel⟩
set_option maxRecDepth 100000 in
theorem lk_X9_54 : Cond.classLink RX9 54 RX2 ∈ tblG := tG (i := 265) rfl rfl
set_option maxRecDepth 100000 in
theorem nw_X9_54 : NW RX9 54 2 [0] := ⟨_, _, _, tyX2, rfl, inG2, tyX2_ok, lk_X9_54, tG (i := 266) rfl rfl, tG (i := 59) rfl rfl, rfl, by decide +kernel⟩
set_option maxRecDepth 100000 in
theorem lk_X9_61 : Cond.classLink RX9 61 RX7 ∈ tblG := tG (i := 275) rfl rfl
set_option maxRecDepth 100000 in
theorem nw_X9_61 : NW RX9 61 7 [0, 0, 0, 0] := ⟨_, _, _, tyX7, rfl, inG7, tyX7_ok, lk_X9_61, tG (i := 276) rfl rfl, tG (i := 60) rfl rfl, rfl, by decide +kernel⟩
set_option maxRecDepth 100000 in
theorem lk_X9_68 : Cond.classLink RX9 68 RX4 ∈ tblG := tG (i := 294) rfl rfl
set_option maxRecDepth 100000 in
theorem nw_X9_68 : NW RX9 68 4 [0, 1, 1] := ⟨_, _, _, tyX4, rfl, inG4, tyX4_ok, lk_X9_68, tG (i := 296) rfl rfl, tG (i := 61) rfl rfl, rfl, by decide +kernel⟩
set_option maxRecDepth 100000 in
theorem lk_L_10 : Cond.classLink RL 10 RX10 ∈ tblG := tG (i := 808) rfl rfl
set_option maxRecDepth 100000 in
theorem nw_L_10 : NW RL 10 10 [0, 0, 1, 1, 1, 0, 0, 0, 0, 0, 0, 0, 0, 0, 0, 1, 0, 0, 0, 0] := ⟨_, _, _, tyX10, rfl, inG10, tyX10_ok, lk_L_10, tG (i := 809) rfl rfl, tG (i := 62) rfl rfl, rfl, by decide +kernel⟩
set_option maxRecDepth 100000 in
theorem ff_X1_11 : FF RX1 11 1 0 := ⟨_, _, _, tyX1, rfl, by decide, inG1, rfl, tG (i := 129) rfl rfl, tyX1_ok, nmX1, rfl, rfl, fun _ => ⟨rfl, rfl⟩⟩
set_option maxRecDepth 100000 in
theorem ff_X1_17 : FF RX1 17 1 2 := ⟨_, _, _, tyX1, rfl, by decide, inG1, rfl, tG (i := 136) rfl rfl, tyX1_ok, nmX1, rfl, rfl, fun _ => ⟨rfl, rfl⟩⟩
set_option maxRecDepth 100000 in
theorem ff_X1_21 : FF RX1 21 1 3 := ⟨_, _, _, tyX1, rfl, by decide, inG1, rfl, tG (i := 137) rfl rfl, tyX1_ok, nmX1, rfl, rfl, fun _ => ⟨rfl, rfl⟩⟩
set_option maxRecDepth 100000 in
theorem ff_X1_24 : FF RX1 24 1 5 := ⟨_, _, _, tyX1, rfl, by decide, inG1, rfl, tG (i := 140) rfl rfl, tyX1_ok, nmX1, rfl, rfl, fun _ => ⟨rfl, rfl⟩⟩
set_option maxRecDepth 100000 in
theorem ff_X1_31 : FF RX1 31 1 8 := ⟨_, _, _, tyX1, rfl, by decide, inG1, rfl, tG (i := 147) rfl rfl, tyX1_ok, nmX1, rfl, rfl, fun _ => ⟨rfl, rfl⟩⟩
set_option maxRecDepth 100000 in
theorem ff_X1_34 : FF RX1 34 1 9 := ⟨_, _, _, tyX1, rfl, by decide, inG1, rfl, tG (i := 150) rfl rfl, tyX1_ok, nmX1, rfl, rfl, fun _ => ⟨rfl, rfl⟩⟩
set_option maxRecDepth 100000 in
theorem ff_X1_37 : FF RX1 37 1 10 := ⟨_, _, _, tyX1, rfl, by decide, inG1, rfl, tG (i := 153) rfl rfl, tyX1_ok, nmX1, rfl, rfl, fun _ => ⟨rfl, rfl⟩⟩
set_option maxRecDepth 100000 in
theorem ff_X6_11 : FF RX6 11 6 0 := ⟨_, _, _, tyX6, rfl, by decide, inG6, rfl, tG (i := 186) rfl rfl, tyX6_ok, nmX6, rfl, rfl, fun _ => ⟨rfl, rfl⟩⟩
set_option maxRecDepth 100000 in
theorem ff_X6_17 : FF RX6 17 6 3 := ⟨_, _, _, tyX6, rfl, by decide, inG6, rfl, tG (i := 190) rfl rfl, tyX6_ok, nmX6, rfl, rfl, fun _ => ⟨rfl, rfl⟩⟩
set_option maxRecDepth 100000 in
theorem ff_X3_9 : FF RX3 9 3 0 := ⟨_, _, _, tyX3, rfl, by decide, inG3, rfl, tG (i := 209) rfl rfl, tyX3_ok, nmX3, rfl, rfl, fun _ => ⟨rfl, rfl⟩⟩
set_option maxRecDepth 100000 in
theorem ff_X3_15 : FF RX3 15 3 1 := ⟨_, _, _, tyX3, rfl, by decide, inG3, rfl, tG (i := 210) rfl rfl, tyX3_ok, nmX3, rfl, rfl, fun _ => ⟨rfl, rfl⟩⟩
set_option maxRecDepth 100000 in
theorem ff_X3_18 : FF RX3 18 3 2 := ⟨_, _, _, tyX3, rfl, by decide, inG3, rfl, tG (i := 211) rfl rfl, tyX3_ok, nmX3, rfl, rfl, fun _ => ⟨rfl, rfl⟩⟩
set_option maxRecDepth 100000 in
theorem ff_X8_9 : FF RX8 9 8 0 := ⟨_, _, _, tyX8, rfl, by decide, inG8, rfl, tG (i := 234) rfl rfl, tyX8_ok, nmX8, rfl, rfl, fun _ => ⟨rfl, rfl⟩⟩
set_option maxRecDepth 100000 in
theorem ff_X8_15 : FF RX8 15 8 1 := ⟨_, _, _, tyX8, rfl, by decide, inG8, rfl, tG (i := 235) rfl rfl, tyX8_ok, nmX8, rfl, rfl, fun _ => ⟨rfl, rfl⟩⟩
set_option maxRecDepth 100000 in
theorem ff_X0_9 : FF RX0 9 0 0 := ⟨_, _, _, tyX0, rfl, by decide, inG0, rfl, tG (i := 256) rfl rfl, tyX0_ok, nmX0, rfl, rfl, fun _ => ⟨rfl, rfl⟩⟩
set_option maxRecDepth 100000 in
theorem ff_X2_11 : FF RX2 11 2 0 := ⟨_, _, _, tyX2, rfl, by decide, inG2, rfl, tG (i := 271) rfl rfl, tyX2_ok, nmX2, rfl, rfl, fun _ => ⟨rfl, rfl⟩⟩
set_option maxRecDepth 100000 in
theorem ff_X7_11 : FF RX7 11 7 0 := ⟨_, _, _, tyX7, rfl, by decide, inG7, rfl, tG (i := 281) rfl rfl, tyX7_ok, nmX7, rfl, rfl, fun _ => ⟨rfl, rfl⟩⟩
set_option maxRecDepth 100000 in
theorem ff_X7_15 : FF RX7 15 7 1 := ⟨_, _, _, tyX7, rfl, by decide, inG7, rfl, tG (i := 282) rfl rfl, tyX7_ok, nmX7, rfl, rfl, fun _ => ⟨rfl, rfl⟩⟩
set_option maxRecDepth 100000 in
theorem ff_X7_18 : FF RX7 18 7 2 := ⟨_, _, _, tyX7, rfl, by decide, inG7, rfl, tG (i := 283) rfl rfl, tyX7_ok, nmX7, rfl, rfl, fun _ => ⟨rfl, rfl⟩⟩
set_option maxRecDepth 100000 in
theorem ff_X7_21 : FF RX7 21 7 3 := ⟨_, _, _, tyX7, rfl, by decide, inG7, rfl, tG (i := 284) rfl rfl, tyX7_ok, nmX7, rfl, rfl, fun _ => ⟨rfl, rfl⟩⟩
set_option maxRecDepth 100000 in
theorem ff_X4_9 : FF RX4 9 4 0 := ⟨_, _, _, tyX4, rfl, by decide, inG4, rfl, tG (i := 301) rfl rfl, tyX4_ok, nmX4, rfl, rfl, fun _ => ⟨rfl, rfl⟩⟩
set_option maxRecDepth 100000 in
theorem ff_X9_10 : FF RX9 10 9 0 := ⟨_, _, _, tyX9, rfl, by decide, inG9, rfl, tG (i := 315) rfl rfl, tyX9_ok, nmX9, rfl, rfl, fun _ => ⟨rfl, rfl⟩⟩
set_option maxRecDepth 100000 in
theorem ff_X9_16 : FF RX9 16 9 1 := ⟨_, _, _, tyX9, rfl, by decide, inG9, rfl, tG (i := 316) rfl rfl, tyX9_ok, nmX9, rfl, rfl, fun _ => ⟨rfl, rfl⟩⟩
set_option maxRecDepth 100000 in
theorem ff_X9_22 : FF RX9 22 9 3 := ⟨_, _, _, tyX9, rfl, by decide, inG9, rfl, tG (i := 318) rfl rfl, tyX9_ok, nmX9, rfl, rfl, fun _ => ⟨rfl, rfl⟩⟩
set_option maxRecDepth 100000 in
theorem ff_X9_29 : FF RX9 29 9 4 := ⟨_, _, _, tyX9, rfl, by decide, inG9, rfl, tG (i := 319) rfl rfl, tyX9_ok, nmX9, rfl, rfl, fun _ => ⟨rfl, rfl⟩⟩
set_option maxRecDepth 100000 in
theorem ff_X9_36 : FF RX9 36 9 5 := ⟨_, _, _, tyX9, rfl, by decide, inG9, rfl, tG (i := 320) rfl rfl, tyX9_ok, nmX9, rfl, rfl, fun _ => ⟨rfl, rfl⟩⟩
set_option maxRecDepth 100000 in
theorem ff_X9_43 : FF RX9 43 9 6 := ⟨_, _, _, tyX9, rfl, by decide, inG9, rfl, tG (i := 321) rfl rfl, tyX9_ok, nmX9, rfl, rfl, fun _ => ⟨rfl, rfl⟩⟩
set_option maxRecDepth 100000 in
theorem ff_X9_50 : FF RX9 50 9 7 := ⟨_, _, _, tyX9, rfl, by decide, inG9, rfl, tG (i := 322) rfl rfl, tyX9_ok, nmX9, rfl, rfl, fun _ => ⟨rfl, rfl⟩⟩
set_option maxRecDepth 100000 in
theorem ff_X9_57 : FF RX9 57 9 8 := ⟨_, _, _, tyX9, rfl, by decide, inG9, rfl, tG (i := 323) rfl rfl, tyX9_ok, nmX9, rfl, rfl, fun _ => ⟨rfl, rfl⟩⟩
set_option maxRecDepth 100000 in
theorem ff_X9_64 : FF RX9 64 9 9 := ⟨_, _, _, tyX9, rfl, by decide, inG9, rfl, tG (i := 324) rfl rfl, tyX9_ok, nmX9, rfl, rfl, fun _ => ⟨rfl, rfl⟩⟩
set_option maxRecDepth 100000 in
theorem ff_X9_70 : FF RX9 70 9 10 := ⟨_, _, _, tyX9, rfl, by decide, inG9, rfl, tG (i := 325) rfl rfl, tyX9_ok, nmX9, rfl, rfl, fun _ => ⟨rfl, rfl⟩⟩
set_option maxRecDepth 100000 in
theorem ff_X10_7 : FF RX10 7 10 0 := ⟨_, _, _, tyX10, rfl, by decide, inG10, rfl, tG (i := 814) rfl rfl, tyX10_ok, nmX10, rfl, rfl, fun _ => ⟨rfl, rfl⟩⟩
set_option maxRecDepth 100000 in
theorem ff_X10_13 : FF RX10 13 10 1 := ⟨_, _, _, tyX10, rfl, by decide, inG10, rfl, tG (i := 815) rfl rfl, tyX10_ok, nmX10, rfl, rfl, fun _ => ⟨rfl, rfl⟩⟩
set_option maxRecDepth 100000 in
theorem ff_X10_16 : FF RX10 16 10 5 := ⟨_, _, _, tyX10, rfl, by decide, inG10, rfl, tG (i := 819) rfl rfl, tyX10_ok, nmX10, rfl, rfl, fun _ => ⟨rfl, rfl⟩⟩
set_option maxRecDepth 100000 in
theorem ff_X10_19 : FF RX10 19 10 6 := ⟨_, _, _, tyX10, rfl, by decide, inG10, rfl, tG (i := 820) rfl rfl, tyX10_ok, nmX10, rfl, rfl, fun _ => ⟨rfl, rfl⟩⟩
set_option maxRecDepth 100000 in
theorem ff_X10_22 : FF RX10 22 10 7 := ⟨_, _, _, tyX10, rfl, by decide, inG10, rfl, tG (i := 821) rfl rfl, tyX10_ok, nmX10, rfl, rfl, fun _ => ⟨rfl, rfl⟩⟩
set_option maxRecDepth 100000 in
theorem ff_X10_25 : FF RX10 25 10 8 := ⟨_, _, _, tyX10, rfl, by decide, inG10, rfl, tG (i := 822) rfl rfl, tyX10_ok, nmX10, rfl, rfl, fun _ => ⟨rfl, rfl⟩⟩
set_option maxRecDepth 100000 in
theorem ff_X10_29 : FF RX10 29 10 9 := ⟨_, _, _, tyX10, rfl, by decide, inG10, rfl, tG (i := 823) rfl rfl, tyX10_ok, nmX10, rfl, rfl, fun _ => ⟨rfl, rfl⟩⟩
set_option maxRecDepth 100000 in
theorem ff_X10_32 : FF RX10 32 10 10 := ⟨_, _, _, tyX10, rfl, by decide, inG10, rfl, tG (i := 824) rfl rfl, tyX10_ok, nmX10, rfl, rfl, fun _ => ⟨rfl, rfl⟩⟩
set_option maxRecDepth 100000 in
theorem ff_X10_35 : FF RX10 35 10 11 := ⟨_, _, _, tyX10, rfl, by decide, inG10, rfl, tG (i := 825) rfl rfl, tyX10_ok, nmX10, rfl, rfl, fun _ => ⟨rfl, rfl⟩⟩
set_option maxRecDepth 100000 in
theorem ff_X10_38 : FF RX10 38 10 12 := ⟨_, _, _, tyX10, rfl, by decide, inG10, rfl, tG (i := 826) rfl rfl, tyX10_ok, nmX10, rfl, rfl, fun _ => ⟨rfl, rfl⟩⟩
set_option maxRecDepth 100000 in
theorem ff_X10_41 : FF RX10 41 10 13 := ⟨_, _, _, tyX10, rfl, by decide, inG10, rfl, tG (i := 827) rfl rfl, tyX10_ok, nmX10, rfl, rfl, fun _ => ⟨rfl, rfl⟩⟩
set_option maxRecDepth 100000 in
theorem ff_X10_44 : FF RX10 44 10 14 := ⟨_, _, _, tyX10, rfl, by decide, inG10, rfl, tG (i := 828) rfl rfl, tyX10_ok, nmX10, rfl, rfl, fun _ => ⟨rfl, rfl⟩⟩
set_option maxRecDepth 100000 in
theorem ff_X10_47 : FF RX10 47 10 16 := ⟨_, _, _, tyX10, rfl, by decide, inG10, rfl, tG (i := 830) rfl rfl, tyX10_ok, nmX10, rfl, rfl, fun _ => ⟨rfl, rfl⟩⟩
set_option maxRecDepth 100000 in
theorem ff_X10_50 : FF RX10 50 10 17 := ⟨_, _, _, tyX10, rfl, by decide, inG10, rfl, tG (i := 831) rfl rfl, tyX10_ok, nmX10, rfl, rfl, fun _ => ⟨rfl, rfl⟩⟩
set_option maxRecDepth 100000 in
theorem ff_X10_53 : FF RX10 53 10 18 := ⟨_, _, _, tyX10, rfl, by decide, inG10, rfl, tG (i := 832) rfl rfl, tyX10_ok, nmX10, rfl, rfl, fun _ => ⟨rfl, rfl⟩⟩
set_option maxRecDepth 100000 in
theorem ff_X10_56 : FF RX10 56 10 19 := ⟨_, _, _, tyX10, rfl, by decide, inG10, rfl, tG (i := 833) rfl rfl, tyX10_ok, nmX10, rfl, rfl, fun _ => ⟨rfl, rfl⟩⟩
set_option maxRecDepth 100000 in
theorem kd_5 (cy : Nat → ClassId) : (tysOf cy)[0 + 2]? = some (cy (0 + 2), .object RX5) := rfl
set_option maxRecDepth 100000 in
theorem kd_4 (cy : Nat → ClassId) : (tysOf cy)[1 + 2]? = some (cy (1 + 2), .object RX4) := rfl
