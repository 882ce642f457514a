theorem inGX0 : ∀ w ∈ u_ws RX0 TX0 16, w ∈ gl := fun w h => gl_of ((by decide +kernel : ∀ w ∈ u_ws RX0 TX0 16, w ∈ lw_tbl) w h) ((by decide +kernel : ∀ w ∈ u_ws RX0 TX0 16, goodWord w = true) w h)
theorem inGX1 : ∀ w ∈ u_ws RX1 TX1 7, w ∈ gl := fun w h => gl_of ((by decide +kernel : ∀ w ∈ u_ws RX1 TX1 7, w ∈ lw_tbl) w h) ((by decide +kernel : ∀ w ∈ u_ws RX1 TX1 7, goodWord w = true) w h)
theorem inGX2 : ∀ w ∈ u_ws RX2 TX2 4, w ∈ gl := fun w h => gl_of ((by decide +kernel : ∀ w ∈ u_ws RX2 TX2 4, w ∈ lw_tbl) w h) ((by decide +kernel : ∀ w ∈ u_ws RX2 TX2 4, goodWord w = true) w h)
theorem inGX3 : ∀ w ∈ u_ws RX3 TX3 5, w ∈ gl := fun w h => gl_of ((by decide +kernel : ∀ w ∈ u_ws RX3 TX3 5, w ∈ lw_tbl) w h) ((by decide +kernel : ∀ w ∈ u_ws RX3 TX3 5, goodWord w = true) w h)
theorem inGX4 : ∀ w ∈ u_ws RX4 TX4 3, w ∈ gl := fun w h => gl_of ((by decide +kernel : ∀ w ∈ u_ws RX4 TX4 3, w ∈ lw_tbl) w h) ((by decide +kernel : ∀ w ∈ u_ws RX4 TX4 3, goodWord w = true) w h)
theorem inGX5 : ∀ w ∈ u_ws RX5 TX5 6, w ∈ gl := fun w h => gl_of ((by decide +kernel : ∀ w ∈ u_ws RX5 TX5 6, w ∈ lw_tbl) w h) ((by decide +kernel : ∀ w ∈ u_ws RX5 TX5 6, goodWord w = true) w h)
theorem inGX6 : ∀ w ∈ u_ws RX6 TX6 11, w ∈ gl := fun w h => gl_of ((by decide +kernel : ∀ w ∈ u_ws RX6 TX6 11, w ∈ lw_tbl) w h) ((by decide +kernel : ∀ w ∈ u_ws RX6 TX6 11, goodWord w = true) w h)
theorem inGX7 : ∀ w ∈ u_ws RX7 TX7 19, w ∈ gl := fun w h => gl_of ((by decide +kernel : ∀ w ∈ u_ws RX7 TX7 19, w ∈ lw_tbl) w h) ((by decide +kernel : ∀ w ∈ u_ws RX7 TX7 19, goodWord w = true) w h)
theorem fl_X6_12 : Cond.fieldLink RX6 12 (TX6 0).1 (TX6 0).2.1 (TX6 0).2.2.1 ∈ gl := gl_1 (i := 238) (by decide +kernel) rfl
theorem fl_X6_16 : Cond.fieldLink RX6 16 (TX6 1).1 (TX6 1).2.1 (TX6 1).2.2.1 ∈ gl := gl_1 (i := 239) (by decide +kernel) rfl
theorem fl_X6_19 : Cond.fieldLink RX6 19 (TX6 2).1 (TX6 2).2.1 (TX6 2).2.2.1 ∈ gl := gl_2 (i := 0) (by decide +kernel) rfl
theorem fl_X6_25 : Cond.fieldLink RX6 25 (TX6 3).1 (TX6 3).2.1 (TX6 3).2.2.1 ∈ gl := gl_2 (i := 1) (by decide +kernel) rfl
theorem fl_X6_32 : Cond.fieldLink RX6 32 (TX6 4).1 (TX6 4).2.1 (TX6 4).2.2.1 ∈ gl := gl_2 (i := 2) (by decide +kernel) rfl
theorem fl_X6_39 : Cond.fieldLink RX6 39 (TX6 5).1 (TX6 5).2.1 (TX6 5).2.2.1 ∈ gl := gl_2 (i := 3) (by decide +kernel) rfl
theorem fl_X6_46 : Cond.fieldLink RX6 46 (TX6 6).1 (TX6 6).2.1 (TX6 6).2.2.1 ∈ gl := gl_2 (i := 4) (by decide +kernel) rfl
theorem fl_X6_50 : Cond.fieldLink RX6 50 (TX6 7).1 (TX6 7).2.1 (TX6 7).2.2.1 ∈ gl := gl_2 (i := 5) (by decide +kernel) rfl
theorem fl_X6_54 : Cond.fieldLink RX6 54 (TX6 8).1 (TX6 8).2.1 (TX6 8).2.2.1 ∈ gl := gl_2 (i := 6) (by decide +kernel) rfl
theorem fl_X6_58 : Cond.fieldLink RX6 58 (TX6 9).1 (TX6 9).2.1 (TX6 9).2.2.1 ∈ gl := gl_2 (i := 7) (by decide +kernel) rfl
theorem fl_X6_62 : Cond.fieldLink RX6 62 (TX6 10).1 (TX6 10).2.1 (TX6 10).2.2.1 ∈ gl := gl_2 (i := 8) (by decide +kernel) rfl
theorem fl_X6_65 : Cond.fieldLink RX6 65 (TX0 1).1 (TX0 1).2.1 (TX0 1).2.2.1 ∈ gl := gl_1 (i := 47) (by decide +kernel) rfl
theorem fl_X6_81 : Cond.fieldLink RX6 81 (TX0 0).1 (TX0 0).2.1 (TX0 0).2.2.1 ∈ gl := gl_1 (i := 46) (by decide +kernel) rfl
theorem fl_X6_118 : Cond.fieldLink RX6 118 (TX0 2).1 (TX0 2).2.1 (TX0 2).2.2.1 ∈ gl := gl_1 (i := 50) (by decide +kernel) rfl
theorem fl_X6_121 : Cond.fieldLink RX6 121 (TX0 5).1 (TX0 5).2.1 (TX0 5).2.2.1 ∈ gl := gl_1 (i := 55) (by decide +kernel) rfl
theorem fl_X6_124 : Cond.fieldLink RX6 124 (TX0 6).1 (TX0 6).2.1 (TX0 6).2.2.1 ∈ gl := gl_1 (i := 57) (by decide +kernel) rfl
theorem fl_X6_178 : Cond.fieldLink RX6 178 (TX0 8).1 (TX0 8).2.1 (TX0 8).2.2.1 ∈ gl := gl_1 (i := 60) (by decide +kernel) rfl
theorem fl_X6_181 : Cond.fieldLink RX6 181 (TX0 9).1 (TX0 9).2.1 (TX0 9).2.2.1 ∈ gl := gl_1 (i := 62) (by decide +kernel) rfl
theorem fl_X6_184 : Cond.fieldLink RX6 184 (TX0 10).1 (TX0 10).2.1 (TX0 10).2.2.1 ∈ gl := gl_1 (i := 64) (by decide +kernel) rfl
theorem fl_X6_187 : Cond.fieldLink RX6 187 (TX0 11).1 (TX0 11).2.1 (TX0 11).2.2.1 ∈ gl := gl_1 (i := 66) (by decide +kernel) rfl
theorem fl_X6_190 : Cond.fieldLink RX6 190 (TX0 12).1 (TX0 12).2.1 (TX0 12).2.2.1 ∈ gl := gl_1 (i := 68) (by decide +kernel) rfl
theorem fl_X6_204 : Cond.fieldLink RX6 204 (TX0 13).1 (TX0 13).2.1 (TX0 13).2.2.1 ∈ gl := gl_1 (i := 70) (by decide +kernel) rfl
theorem fl_X6_207 : Cond.fieldLink RX6 207 (TX0 14).1 (TX0 14).2.1 (TX0 14).2.2.1 ∈ gl := gl_1 (i := 72) (by decide +kernel) rfl
theorem fl_X6_210 : Cond.fieldLink RX6 210 (TX0 15).1 (TX0 15).2.1 (TX0 15).2.2.1 ∈ gl := gl_1 (i := 75) (by decide +kernel) rfl
theorem fl_X6_288 : Cond.fieldLink RX6 288 (TX3 4).1 (TX3 4).2.1 (TX3 4).2.2.1 ∈ gl := gl_1 (i := 205) (by decide +kernel) rfl
theorem fl_X6_297 : Cond.fieldLink RX6 297 (TX3 3).1 (TX3 3).2.1 (TX3 3).2.2.1 ∈ gl := gl_1 (i := 203) (by decide +kernel) rfl
theorem fl_X6_300 : Cond.fieldLink RX6 300 (TX3 2).1 (TX3 2).2.1 (TX3 2).2.2.1 ∈ gl := gl_1 (i := 201) (by decide +kernel) rfl
theorem fl_X6_303 : Cond.fieldLink RX6 303 (TX0 3).1 (TX0 3).2.1 (TX0 3).2.2.1 ∈ gl := gl_1 (i := 52) (by decide +kernel) rfl
theorem fl_X6_339 : Cond.fieldLink RX6 339 (TX5 3).1 (TX5 3).2.1 (TX5 3).2.2.1 ∈ gl := gl_1 (i := 141) (by decide +kernel) rfl
theorem fl_X6_357 : Cond.fieldLink RX6 357 (TX5 4).1 (TX5 4).2.1 (TX5 4).2.2.1 ∈ gl := gl_1 (i := 143) (by decide +kernel) rfl
theorem fl_X6_371 : Cond.fieldLink RX6 371 (TX4 2).1 (TX4 2).2.1 (TX4 2).2.2.1 ∈ gl := gl_1 (i := 122) (by decide +kernel) rfl
theorem fl_X6_381 : Cond.fieldLink RX6 381 (TX5 1).1 (TX5 1).2.1 (TX5 1).2.2.1 ∈ gl := gl_1 (i := 138) (by decide +kernel) rfl
theorem fl_X6_384 : Cond.fieldLink RX6 384 (TX5 5).1 (TX5 5).2.1 (TX5 5).2.2.1 ∈ gl := gl_1 (i := 145) (by decide +kernel) rfl
theorem fl_X0_9 : Cond.fieldLink RX0 9 (TX0 2).1 (TX0 2).2.1 (TX0 2).2.2.1 ∈ gl := gl_1 (i := 49) (by decide +kernel) rfl
theorem fl_X0_15 : Cond.fieldLink RX0 15 (TX0 5).1 (TX0 5).2.1 (TX0 5).2.2.1 ∈ gl := gl_1 (i := 54) (by decide +kernel) rfl
theorem fl_X0_19 : Cond.fieldLink RX0 19 (TX0 6).1 (TX0 6).2.1 (TX0 6).2.2.1 ∈ gl := gl_1 (i := 56) (by decide +kernel) rfl
theorem fl_X0_22 : Cond.fieldLink RX0 22 (TX0 7).1 (TX0 7).2.1 (TX0 7).2.2.1 ∈ gl := gl_1 (i := 58) (by decide +kernel) rfl
theorem fl_X0_25 : Cond.fieldLink RX0 25 (TX0 8).1 (TX0 8).2.1 (TX0 8).2.2.1 ∈ gl := gl_1 (i := 59) (by decide +kernel) rfl
theorem fl_X0_28 : Cond.fieldLink RX0 28 (TX0 9).1 (TX0 9).2.1 (TX0 9).2.2.1 ∈ gl := gl_1 (i := 61) (by decide +kernel) rfl
theorem fl_X0_31 : Cond.fieldLink RX0 31 (TX0 10).1 (TX0 10).2.1 (TX0 10).2.2.1 ∈ gl := gl_1 (i := 63) (by decide +kernel) rfl
theorem fl_X0_34 : Cond.fieldLink RX0 34 (TX0 11).1 (TX0 11).2.1 (TX0 11).2.2.1 ∈ gl := gl_1 (i := 65) (by decide +kernel) rfl
theorem fl_X0_37 : Cond.fieldLink RX0 37 (TX0 12).1 (TX0 12).2.1 (TX0 12).2.2.1 ∈ gl := gl_1 (i := 67) (by decide +kernel) rfl
theorem fl_X0_40 : Cond.fieldLink RX0 40 (TX0 13).1 (TX0 13).2.1 (TX0 13).2.2.1 ∈ gl := gl_1 (i := 69) (by decide +kernel) rfl
theorem fl_X0_43 : Cond.fieldLink RX0 43 (TX0 14).1 (TX0 14).2.1 (TX0 14).2.2.1 ∈ gl := gl_1 (i := 71) (by decide +kernel) rfl
theorem fl_X0_46 : Cond.fieldLink RX0 46 (TX0 15).1 (TX0 15).2.1 (TX0 15).2.2.1 ∈ gl := gl_1 (i := 73) (by decide +kernel) rfl
theorem fl_X0_55 : Cond.fieldLink RX0 55 (TX0 0).1 (TX0 0).2.1 (TX0 0).2.2.1 ∈ gl := gl_1 (i := 44) (by decide +kernel) rfl
theorem fl_X0_58 : Cond.fieldLink RX0 58 (TX0 1).1 (TX0 1).2.1 (TX0 1).2.2.1 ∈ gl := gl_1 (i := 48) (by decide +kernel) rfl
theorem fl_X0_61 : Cond.fieldLink RX0 61 (TX0 3).1 (TX0 3).2.1 (TX0 3).2.2.1 ∈ gl := gl_1 (i := 51) (by decide +kernel) rfl
theorem fl_X0_64 : Cond.fieldLink RX0 64 (TX0 4).1 (TX0 4).2.1 (TX0 4).2.2.1 ∈ gl := gl_1 (i := 53) (by decide +kernel) rfl
theorem fl_X1_9 : Cond.fieldLink RX1 9 (TX1 0).1 (TX1 0).2.1 (TX1 0).2.2.1 ∈ gl := gl_1 (i := 172) (by decide +kernel) rfl
theorem fl_X1_15 : Cond.fieldLink RX1 15 (TX1 1).1 (TX1 1).2.1 (TX1 1).2.2.1 ∈ gl := gl_1 (i := 173) (by decide +kernel) rfl
theorem fl_X1_18 : Cond.fieldLink RX1 18 (TX1 2).1 (TX1 2).2.1 (TX1 2).2.2.1 ∈ gl := gl_1 (i := 174) (by decide +kernel) rfl
theorem fl_X1_21 : Cond.fieldLink RX1 21 (TX1 3).1 (TX1 3).2.1 (TX1 3).2.2.1 ∈ gl := gl_1 (i := 175) (by decide +kernel) rfl
theorem fl_X1_30 : Cond.fieldLink RX1 30 (TX1 4).1 (TX1 4).2.1 (TX1 4).2.2.1 ∈ gl := gl_1 (i := 178) (by decide +kernel) rfl
theorem fl_X1_34 : Cond.fieldLink RX1 34 (TX0 0).1 (TX0 0).2.1 (TX0 0).2.2.1 ∈ gl := gl_1 (i := 45) (by decide +kernel) rfl
theorem fl_X1_37 : Cond.fieldLink RX1 37 (TX1 5).1 (TX1 5).2.1 (TX1 5).2.2.1 ∈ gl := gl_1 (i := 179) (by decide +kernel) rfl
theorem fl_X1_38 : Cond.fieldLink RX1 38 (TX1 6).1 (TX1 6).2.1 (TX1 6).2.2.1 ∈ gl := gl_1 (i := 180) (by decide +kernel) rfl
theorem fl_X1_49 : Cond.fieldLink RX1 49 (TX0 15).1 (TX0 15).2.1 (TX0 15).2.2.1 ∈ gl := gl_1 (i := 74) (by decide +kernel) rfl
theorem fl_X2_12 : Cond.fieldLink RX2 12 (TX2 0).1 (TX2 0).2.1 (TX2 0).2.2.1 ∈ gl := gl_1 (i := 225) (by decide +kernel) rfl
theorem fl_X2_18 : Cond.fieldLink RX2 18 (TX2 1).1 (TX2 1).2.1 (TX2 1).2.2.1 ∈ gl := gl_1 (i := 226) (by decide +kernel) rfl
theorem fl_X2_22 : Cond.fieldLink RX2 22 (TX2 2).1 (TX2 2).2.1 (TX2 2).2.2.1 ∈ gl := gl_1 (i := 227) (by decide +kernel) rfl
theorem fl_X2_29 : Cond.fieldLink RX2 29 (TX2 3).1 (TX2 3).2.1 (TX2 3).2.2.1 ∈ gl := gl_1 (i := 228) (by decide +kernel) rfl
theorem fl_X2_37 : Cond.fieldLink RX2 37 (TX1 6).1 (TX1 6).2.1 (TX1 6).2.2.1 ∈ gl := gl_1 (i := 181) (by decide +kernel) rfl
theorem fl_X2_40 : Cond.fieldLink RX2 40 (TX1 3).1 (TX1 3).2.1 (TX1 3).2.2.1 ∈ gl := gl_1 (i := 176) (by decide +kernel) rfl
theorem fl_X3_12 : Cond.fieldLink RX3 12 (TX3 0).1 (TX3 0).2.1 (TX3 0).2.2.1 ∈ gl := gl_1 (i := 198) (by decide +kernel) rfl
theorem fl_X3_18 : Cond.fieldLink RX3 18 (TX3 1).1 (TX3 1).2.1 (TX3 1).2.2.1 ∈ gl := gl_1 (i := 199) (by decide +kernel) rfl
theorem fl_X3_22 : Cond.fieldLink RX3 22 (TX3 2).1 (TX3 2).2.1 (TX3 2).2.2.1 ∈ gl := gl_1 (i := 200) (by decide +kernel) rfl
theorem fl_X3_25 : Cond.fieldLink RX3 25 (TX3 3).1 (TX3 3).2.1 (TX3 3).2.2.1 ∈ gl := gl_1 (i := 202) (by decide +kernel) rfl
theorem fl_X3_28 : Cond.fieldLink RX3 28 (TX3 4).1 (TX3 4).2.1 (TX3 4).2.2.1 ∈ gl := gl_1 (i := 204) (by decide +kernel) rfl
theorem fl_X3_53 : Cond.fieldLink RX3 53 (TX1 6).1 (TX1 6).2.1 (TX1 6).2.2.1 ∈ gl := gl_1 (i := 182) (by decide +kernel) rfl
theorem fl_X3_56 : Cond.fieldLink RX3 56 (TX1 3).1 (TX1 3).2.1 (TX1 3).2.2.1 ∈ gl := gl_1 (i := 177) (by decide +kernel) rfl
theorem fl_X4_11 : Cond.fieldLink RX4 11 (TX4 0).1 (TX4 0).2.1 (TX4 0).2.2.1 ∈ gl := gl_1 (i := 119) (by decide +kernel) rfl
theorem fl_X4_18 : Cond.fieldLink RX4 18 (TX4 2).1 (TX4 2).2.1 (TX4 2).2.2.1 ∈ gl := gl_1 (i := 121) (by decide +kernel) rfl
theorem fl_X4_22 : Cond.fieldLink RX4 22 (TX4 1).1 (TX4 1).2.1 (TX4 1).2.2.1 ∈ gl := gl_1 (i := 120) (by decide +kernel) rfl
theorem fl_X5_9 : Cond.fieldLink RX5 9 (TX5 0).1 (TX5 0).2.1 (TX5 0).2.2.1 ∈ gl := gl_1 (i := 136) (by decide +kernel) rfl
theorem fl_X5_15 : Cond.fieldLink RX5 15 (TX5 1).1 (TX5 1).2.1 (TX5 1).2.2.1 ∈ gl := gl_1 (i := 137) (by decide +kernel) rfl
theorem fl_X5_19 : Cond.fieldLink RX5 19 (TX5 3).1 (TX5 3).2.1 (TX5 3).2.2.1 ∈ gl := gl_1 (i := 140) (by decide +kernel) rfl
theorem fl_X5_23 : Cond.fieldLink RX5 23 (TX5 4).1 (TX5 4).2.1 (TX5 4).2.2.1 ∈ gl := gl_1 (i := 142) (by decide +kernel) rfl
theorem fl_X5_33 : Cond.fieldLink RX5 33 (TX5 5).1 (TX5 5).2.1 (TX5 5).2.2.1 ∈ gl := gl_1 (i := 144) (by decide +kernel) rfl
theorem fl_X5_46 : Cond.fieldLink RX5 46 (TX5 2).1 (TX5 2).2.1 (TX5 2).2.2.1 ∈ gl := gl_1 (i := 139) (by decide +kernel) rfl
theorem fl_X7_9 : Cond.fieldLink RX7 9 (TX7 0).1 (TX7 0).2.1 (TX7 0).2.2.1 ∈ gl := gl_5 (i := 186) (by decide +kernel) rfl
theorem fl_X7_13 : Cond.fieldLink RX7 13 (TX7 1).1 (TX7 1).2.1 (TX7 1).2.2.1 ∈ gl := gl_5 (i := 187) (by decide +kernel) rfl
theorem fl_X7_16 : Cond.fieldLink RX7 16 (TX7 2).1 (TX7 2).2.1 (TX7 2).2.2.1 ∈ gl := gl_5 (i := 188) (by decide +kernel) rfl
theorem fl_X7_19 : Cond.fieldLink RX7 19 (TX7 3).1 (TX7 3).2.1 (TX7 3).2.2.1 ∈ gl := gl_5 (i := 189) (by decide +kernel) rfl
theorem fl_X7_22 : Cond.fieldLink RX7 22 (TX7 5).1 (TX7 5).2.1 (TX7 5).2.2.1 ∈ gl := gl_5 (i := 191) (by decide +kernel) rfl
theorem fl_X7_25 : Cond.fieldLink RX7 25 (TX7 9).1 (TX7 9).2.1 (TX7 9).2.2.1 ∈ gl := gl_5 (i := 195) (by decide +kernel) rfl
theorem fl_X7_28 : Cond.fieldLink RX7 28 (TX7 10).1 (TX7 10).2.1 (TX7 10).2.2.1 ∈ gl := gl_5 (i := 196) (by decide +kernel) rfl
theorem fl_X7_31 : Cond.fieldLink RX7 31 (TX7 11).1 (TX7 11).2.1 (TX7 11).2.2.1 ∈ gl := gl_5 (i := 197) (by decide +kernel) rfl
theorem fl_X7_35 : Cond.fieldLink RX7 35 (TX7 15).1 (TX7 15).2.1 (TX7 15).2.2.1 ∈ gl := gl_5 (i := 201) (by decide +kernel) rfl
theorem fl_X7_39 : Cond.fieldLink RX7 39 (TX7 16).1 (TX7 16).2.1 (TX7 16).2.2.1 ∈ gl := gl_5 (i := 202) (by decide +kernel) rfl
theorem fl_X7_42 : Cond.fieldLink RX7 42 (TX7 17).1 (TX7 17).2.1 (TX7 17).2.2.1 ∈ gl := gl_5 (i := 203) (by decide +kernel) rfl
theorem fl_X7_48 : Cond.fieldLink RX7 48 (TX7 8).1 (TX7 8).2.1 (TX7 8).2.2.1 ∈ gl := gl_5 (i := 194) (by decide +kernel) rfl
theorem fl_X7_55 : Cond.fieldLink RX7 55 (TX7 6).1 (TX7 6).2.1 (TX7 6).2.2.1 ∈ gl := gl_5 (i := 192) (by decide +kernel) rfl
theorem fl_X7_151 : Cond.fieldLink RX7 151 (TX7 7).1 (TX7 7).2.1 (TX7 7).2.2.1 ∈ gl := gl_5 (i := 193) (by decide +kernel) rfl
theorem fl_X7_225 : Cond.fieldLink RX7 225 (TX7 12).1 (TX7 12).2.1 (TX7 12).2.2.1 ∈ gl := gl_5 (i := 198) (by decide +kernel) rfl
theorem fl_X7_228 : Cond.fieldLink RX7 228 (TX7 14).1 (TX7 14).2.1 (TX7 14).2.2.1 ∈ gl := gl_5 (i := 200) (by decide +kernel) rfl
theorem fl_X7_232 : Cond.fieldLink RX7 232 (TX7 13).1 (TX7 13).2.1 (TX7 13).2.2.1 ∈ gl := gl_5 (i := 199) (by decide +kernel) rfl
theorem fl_X7_246 : Cond.fieldLink RX7 246 (TX7 18).1 (TX7 18).2.1 (TX7 18).2.2.1 ∈ gl := gl_5 (i := 204) (by decide +kernel) rfl
theorem fl_X7_259 : Cond.fieldLink RX7 259 (TX7 4).1 (TX7 4).2.1 (TX7 4).2.2.1 ∈ gl := gl_5 (i := 190) (by decide +kernel) rfl
theorem mc_X0_init : Cond.code yX0_init cX0_init 1 none ∈ gl := gl_1 (i := 39) (rfl) rfl
theorem ml_X6_11 : Cond.methodLink RX6 11 yX0_init ∈ gl := gl_1 (i := 37) (by decide +kernel) rfl
theorem ii_X0 : Cond.initialized RX0 ∈ gl := gl_1 (i := 2) (by decide +kernel) rfl
theorem mi_X0_init : Cond.instanceMethod yX0_init ∈ gl := gl_1 (i := 38) (by decide +kernel) rfl
theorem mc_X4_init : Cond.code yX4_init cX4_init 2 none ∈ gl := gl_1 (i := 114) (rfl) rfl
theorem ml_X6_24 : Cond.methodLink RX6 24 yX4_init ∈ gl := gl_1 (i := 112) (by decide +kernel) rfl
theorem ii_X4 : Cond.initialized RX4 ∈ gl := gl_1 (i := 4) (by decide +kernel) rfl
theorem mi_X4_init : Cond.instanceMethod yX4_init ∈ gl := gl_1 (i := 113) (by decide +kernel) rfl
theorem mc_X5_init : Cond.code yX5_init cX5_init 1 none ∈ gl := gl_1 (i := 134) (rfl) rfl
theorem ml_X6_31 : Cond.methodLink RX6 31 yX5_init ∈ gl := gl_1 (i := 132) (by decide +kernel) rfl
theorem ii_X5 : Cond.initialized RX5 ∈ gl := gl_1 (i := 5) (by decide +kernel) rfl
theorem mi_X5_init : Cond.instanceMethod yX5_init ∈ gl := gl_1 (i := 133) (by decide +kernel) rfl
theorem mc_X3_init : Cond.code yX3_init cX3_init 1 none ∈ gl := gl_1 (i := 164) (rfl) rfl
theorem ml_X6_38 : Cond.methodLink RX6 38 yX3_init ∈ gl := gl_1 (i := 162) (by decide +kernel) rfl
theorem ii_X3 : Cond.initialized RX3 ∈ gl := gl_1 (i := 6) (by decide +kernel) rfl
theorem mi_X3_init : Cond.instanceMethod yX3_init ∈ gl := gl_1 (i := 163) (by decide +kernel) rfl
theorem mc_X2_init : Cond.code yX2_init cX2_init 1 none ∈ gl := gl_1 (i := 221) (rfl) rfl
theorem ml_X6_45 : Cond.methodLink RX6 45 yX2_init ∈ gl := gl_1 (i := 219) (by decide +kernel) rfl
theorem ii_X2 : Cond.initialized RX2 ∈ gl := gl_1 (i := 8) (by decide +kernel) rfl
theorem mi_X2_init : Cond.instanceMethod yX2_init ∈ gl := gl_1 (i := 220) (by decide +kernel) rfl
theorem mc_X0_makeEmpty : Cond.code yX0_makeEmpty cX0_makeEmpty 1 none ∈ gl := gl_2 (i := 39) (rfl) rfl
theorem ml_X6_68 : Cond.methodLink RX6 68 yX0_makeEmpty ∈ gl := gl_2 (i := 36) (by decide +kernel) rfl
theorem mi_X0_makeEmpty : Cond.instanceMethod yX0_makeEmpty ∈ gl := gl_2 (i := 37) (by decide +kernel) rfl
theorem ms_X0_makeEmpty : Cond.selects RX0 yX0_makeEmpty yX0_makeEmpty ∈ gl := gl_2 (i := 38) (by decide +kernel) rfl
theorem ok_X6_68 : g_okV RX6 68 RX0 yX0_makeEmpty cX0_makeEmpty 1 none 0 := ⟨mc_X0_makeEmpty, ml_X6_68, mi_X0_makeEmpty, ms_X0_makeEmpty, ii_X0, by decide +kernel⟩
theorem mc_X4_forgetAll : Cond.code yX4_forgetAll cX4_forgetAll 1 none ∈ gl := gl_2 (i := 43) (rfl) rfl
theorem ml_X6_71 : Cond.methodLink RX6 71 yX4_forgetAll ∈ gl := gl_2 (i := 40) (by decide +kernel) rfl
theorem mi_X4_forgetAll : Cond.instanceMethod yX4_forgetAll ∈ gl := gl_2 (i := 41) (by decide +kernel) rfl
theorem ms_X4_forgetAll : Cond.selects RX4 yX4_forgetAll yX4_forgetAll ∈ gl := gl_2 (i := 42) (by decide +kernel) rfl
theorem ok_X6_71 : g_okV RX6 71 RX4 yX4_forgetAll cX4_forgetAll 1 none 0 := ⟨mc_X4_forgetAll, ml_X6_71, mi_X4_forgetAll, ms_X4_forgetAll, ii_X4, by decide +kernel⟩
theorem mc_X4_remember : Cond.code yX4_remember cX4_remember 2 none ∈ gl := gl_2 (i := 51) (rfl) rfl
theorem ml_X6_89 : Cond.methodLink RX6 89 yX4_remember ∈ gl := gl_2 (i := 48) (by decide +kernel) rfl
theorem mi_X4_remember : Cond.instanceMethod yX4_remember ∈ gl := gl_2 (i := 49) (by decide +kernel) rfl
theorem ms_X4_remember : Cond.selects RX4 yX4_remember yX4_remember ∈ gl := gl_2 (i := 50) (by decide +kernel) rfl
theorem ok_X6_89 : g_okV RX6 89 RX4 yX4_remember cX4_remember 2 none 1 := ⟨mc_X4_remember, ml_X6_89, mi_X4_remember, ms_X4_remember, ii_X4, by decide +kernel⟩
theorem mc_X0_newStand : Cond.code yX0_newStand cX0_newStand 5 (some .int) ∈ gl := gl_3 (i := 12) (rfl) rfl
theorem ml_X6_93 : Cond.methodLink RX6 93 yX0_newStand ∈ gl := gl_3 (i := 9) (by decide +kernel) rfl
theorem mi_X0_newStand : Cond.instanceMethod yX0_newStand ∈ gl := gl_3 (i := 10) (by decide +kernel) rfl
theorem ms_X0_newStand : Cond.selects RX0 yX0_newStand yX0_newStand ∈ gl := gl_3 (i := 11) (by decide +kernel) rfl
theorem ok_X6_93 : g_okV RX6 93 RX0 yX0_newStand cX0_newStand 5 (some .int) 2 := ⟨mc_X0_newStand, ml_X6_93, mi_X0_newStand, ms_X0_newStand, ii_X0, by decide +kernel⟩
theorem mc_X0_hasStand : Cond.code yX0_hasStand cX0_hasStand 2 (some .boolean) ∈ gl := gl_3 (i := 47) (rfl) rfl
theorem ml_X6_97 : Cond.methodLink RX6 97 yX0_hasStand ∈ gl := gl_3 (i := 44) (by decide +kernel) rfl
theorem mi_X0_hasStand : Cond.instanceMethod yX0_hasStand ∈ gl := gl_3 (i := 45) (by decide +kernel) rfl
theorem ms_X0_hasStand : Cond.selects RX0 yX0_hasStand yX0_hasStand ∈ gl := gl_3 (i := 46) (by decide +kernel) rfl
theorem ok_X6_97 : g_okV RX6 97 RX0 yX0_hasStand cX0_hasStand 2 (some .boolean) 1 := ⟨mc_X0_hasStand, ml_X6_97, mi_X0_hasStand, ms_X0_hasStand, ii_X0, by decide +kernel⟩
theorem mc_X0_changeLimit : Cond.code yX0_changeLimit cX0_changeLimit 5 (some .int) ∈ gl := gl_3 (i := 65) (rfl) rfl
theorem ml_X6_108 : Cond.methodLink RX6 108 yX0_changeLimit ∈ gl := gl_3 (i := 62) (by decide +kernel) rfl
theorem mi_X0_changeLimit : Cond.instanceMethod yX0_changeLimit ∈ gl := gl_3 (i := 63) (by decide +kernel) rfl
theorem ms_X0_changeLimit : Cond.selects RX0 yX0_changeLimit yX0_changeLimit ∈ gl := gl_3 (i := 64) (by decide +kernel) rfl
theorem ok_X6_108 : g_okV RX6 108 RX0 yX0_changeLimit cX0_changeLimit 5 (some .int) 3 := ⟨mc_X0_changeLimit, ml_X6_108, mi_X0_changeLimit, ms_X0_changeLimit, ii_X0, by decide +kernel⟩
theorem mc_X0_changeOpen : Cond.code yX0_changeOpen cX0_changeOpen 4 (some .boolean) ∈ gl := gl_3 (i := 76) (rfl) rfl
theorem ml_X6_112 : Cond.methodLink RX6 112 yX0_changeOpen ∈ gl := gl_3 (i := 73) (by decide +kernel) rfl
theorem mi_X0_changeOpen : Cond.instanceMethod yX0_changeOpen ∈ gl := gl_3 (i := 74) (by decide +kernel) rfl
theorem ms_X0_changeOpen : Cond.selects RX0 yX0_changeOpen yX0_changeOpen ∈ gl := gl_3 (i := 75) (by decide +kernel) rfl
theorem ok_X6_112 : g_okV RX6 112 RX0 yX0_changeOpen cX0_changeOpen 4 (some .boolean) 2 := ⟨mc_X0_changeOpen, ml_X6_112, mi_X0_changeOpen, ms_X0_changeOpen, ii_X0, by decide +kernel⟩
theorem mc_X0_isOpened : Cond.code yX0_isOpened cX0_isOpened 2 (some .boolean) ∈ gl := gl_2 (i := 98) (rfl) rfl
theorem ml_X6_127 : Cond.methodLink RX6 127 yX0_isOpened ∈ gl := gl_3 (i := 92) (by decide +kernel) rfl
theorem mi_X0_isOpened : Cond.instanceMethod yX0_isOpened ∈ gl := gl_2 (i := 96) (by decide +kernel) rfl
theorem ms_X0_isOpened : Cond.selects RX0 yX0_isOpened yX0_isOpened ∈ gl := gl_2 (i := 97) (by decide +kernel) rfl
theorem ok_X6_127 : g_okV RX6 127 RX0 yX0_isOpened cX0_isOpened 2 (some .boolean) 1 := ⟨mc_X0_isOpened, ml_X6_127, mi_X0_isOpened, ms_X0_isOpened, ii_X0, by decide +kernel⟩
theorem mc_X0_partnersOf : Cond.code yX0_partnersOf cX0_partnersOf 4 (some .int) ∈ gl := gl_3 (i := 96) (rfl) rfl
theorem ml_X6_130 : Cond.methodLink RX6 130 yX0_partnersOf ∈ gl := gl_3 (i := 93) (by decide +kernel) rfl
theorem mi_X0_partnersOf : Cond.instanceMethod yX0_partnersOf ∈ gl := gl_3 (i := 94) (by decide +kernel) rfl
theorem ms_X0_partnersOf : Cond.selects RX0 yX0_partnersOf yX0_partnersOf ∈ gl := gl_3 (i := 95) (by decide +kernel) rfl
theorem ok_X6_130 : g_okV RX6 130 RX0 yX0_partnersOf cX0_partnersOf 4 (some .int) 1 := ⟨mc_X0_partnersOf, ml_X6_130, mi_X0_partnersOf, ms_X0_partnersOf, ii_X0, by decide +kernel⟩
theorem mc_X0_staysOn : Cond.code yX0_staysOn cX0_staysOn 4 (some .int) ∈ gl := gl_2 (i := 114) (rfl) rfl
theorem ml_X6_134 : Cond.methodLink RX6 134 yX0_staysOn ∈ gl := gl_3 (i := 97) (by decide +kernel) rfl
theorem mi_X0_staysOn : Cond.instanceMethod yX0_staysOn ∈ gl := gl_2 (i := 112) (by decide +kernel) rfl
theorem ms_X0_staysOn : Cond.selects RX0 yX0_staysOn yX0_staysOn ∈ gl := gl_2 (i := 113) (by decide +kernel) rfl
theorem ok_X6_134 : g_okV RX6 134 RX0 yX0_staysOn cX0_staysOn 4 (some .int) 1 := ⟨mc_X0_staysOn, ml_X6_134, mi_X0_staysOn, ms_X0_staysOn, ii_X0, by decide +kernel⟩
theorem mc_J6_bitCount_0f7a4 : Cond.code yJ6_bitCount_0f7a4 cJ6_bitCount_0f7a4 1 (some .int) ∈ gl := gl_2 (i := 125) (rfl) rfl
theorem ml_X6_137 : Cond.methodLink RX6 137 yJ6_bitCount_0f7a4 ∈ gl := gl_2 (i := 123) (by decide +kernel) rfl
theorem ii_J6 : Cond.initialized RJ6 ∈ gl := gl_1 (i := 19) (by decide +kernel) rfl
theorem mt_J6_bitCount_0f7a4 : Cond.static yJ6_bitCount_0f7a4 ∈ gl := gl_2 (i := 124) (by decide +kernel) rfl
theorem ok_X6_137 : g_okS RX6 137 yJ6_bitCount_0f7a4 cJ6_bitCount_0f7a4 1 (some .int) 1 := ⟨mc_J6_bitCount_0f7a4, ml_X6_137, mt_J6_bitCount_0f7a4, ii_J6, by decide +kernel⟩
theorem mc_X0_lengthOf : Cond.code yX0_lengthOf cX0_lengthOf 4 (some .int) ∈ gl := gl_3 (i := 101) (rfl) rfl
theorem ml_X6_142 : Cond.methodLink RX6 142 yX0_lengthOf ∈ gl := gl_3 (i := 98) (by decide +kernel) rfl
theorem mi_X0_lengthOf : Cond.instanceMethod yX0_lengthOf ∈ gl := gl_3 (i := 99) (by decide +kernel) rfl
theorem ms_X0_lengthOf : Cond.selects RX0 yX0_lengthOf yX0_lengthOf ∈ gl := gl_3 (i := 100) (by decide +kernel) rfl
theorem ok_X6_142 : g_okV RX6 142 RX0 yX0_lengthOf cX0_lengthOf 4 (some .int) 1 := ⟨mc_X0_lengthOf, ml_X6_142, mi_X0_lengthOf, ms_X0_lengthOf, ii_X0, by decide +kernel⟩
theorem mc_X0_troubledOn : Cond.code yX0_troubledOn cX0_troubledOn 4 (some .int) ∈ gl := gl_3 (i := 105) (rfl) rfl
theorem ml_X6_145 : Cond.methodLink RX6 145 yX0_troubledOn ∈ gl := gl_3 (i := 102) (by decide +kernel) rfl
theorem mi_X0_troubledOn : Cond.instanceMethod yX0_troubledOn ∈ gl := gl_3 (i := 103) (by decide +kernel) rfl
theorem ms_X0_troubledOn : Cond.selects RX0 yX0_troubledOn yX0_troubledOn ∈ gl := gl_3 (i := 104) (by decide +kernel) rfl
theorem ok_X6_145 : g_okV RX6 145 RX0 yX0_troubledOn cX0_troubledOn 4 (some .int) 1 := ⟨mc_X0_troubledOn, ml_X6_145, mi_X0_troubledOn, ms_X0_troubledOn, ii_X0, by decide +kernel⟩
theorem mc_X0_stayAt : Cond.code yX0_stayAt cX0_stayAt 4 (some .int) ∈ gl := gl_3 (i := 128) (rfl) rfl
theorem ml_X6_152 : Cond.methodLink RX6 152 yX0_stayAt ∈ gl := gl_3 (i := 125) (by decide +kernel) rfl
theorem mi_X0_stayAt : Cond.instanceMethod yX0_stayAt ∈ gl := gl_3 (i := 126) (by decide +kernel) rfl
theorem ms_X0_stayAt : Cond.selects RX0 yX0_stayAt yX0_stayAt ∈ gl := gl_3 (i := 127) (by decide +kernel) rfl
theorem ok_X6_152 : g_okV RX6 152 RX0 yX0_stayAt cX0_stayAt 4 (some .int) 2 := ⟨mc_X0_stayAt, ml_X6_152, mi_X0_stayAt, ms_X0_stayAt, ii_X0, by decide +kernel⟩
theorem mc_X0_freeFrom : Cond.code yX0_freeFrom cX0_freeFrom 5 (some .int) ∈ gl := gl_3 (i := 155) (rfl) rfl
theorem ml_X6_160 : Cond.methodLink RX6 160 yX0_freeFrom ∈ gl := gl_3 (i := 152) (by decide +kernel) rfl
theorem mi_X0_freeFrom : Cond.instanceMethod yX0_freeFrom ∈ gl := gl_3 (i := 153) (by decide +kernel) rfl
theorem ms_X0_freeFrom : Cond.selects RX0 yX0_freeFrom yX0_freeFrom ∈ gl := gl_3 (i := 154) (by decide +kernel) rfl
theorem ok_X6_160 : g_okV RX6 160 RX0 yX0_freeFrom cX0_freeFrom 5 (some .int) 2 := ⟨mc_X0_freeFrom, ml_X6_160, mi_X0_freeFrom, ms_X0_freeFrom, ii_X0, by decide +kernel⟩
theorem mc_X0_newTurn : Cond.code yX0_newTurn cX0_newTurn 6 (some .int) ∈ gl := gl_3 (i := 173) (rfl) rfl
theorem ml_X6_169 : Cond.methodLink RX6 169 yX0_newTurn ∈ gl := gl_3 (i := 170) (by decide +kernel) rfl
theorem mi_X0_newTurn : Cond.instanceMethod yX0_newTurn ∈ gl := gl_3 (i := 171) (by decide +kernel) rfl
theorem ms_X0_newTurn : Cond.selects RX0 yX0_newTurn yX0_newTurn ∈ gl := gl_3 (i := 172) (by decide +kernel) rfl
theorem ok_X6_169 : g_okV RX6 169 RX0 yX0_newTurn cX0_newTurn 6 (some .int) 4 := ⟨mc_X0_newTurn, ml_X6_169, mi_X0_newTurn, ms_X0_newTurn, ii_X0, by decide +kernel⟩
theorem mc_X0_hasTurn : Cond.code yX0_hasTurn cX0_hasTurn 2 (some .boolean) ∈ gl := gl_3 (i := 188) (rfl) rfl
theorem ml_X6_173 : Cond.methodLink RX6 173 yX0_hasTurn ∈ gl := gl_3 (i := 185) (by decide +kernel) rfl
theorem mi_X0_hasTurn : Cond.instanceMethod yX0_hasTurn ∈ gl := gl_3 (i := 186) (by decide +kernel) rfl
theorem ms_X0_hasTurn : Cond.selects RX0 yX0_hasTurn yX0_hasTurn ∈ gl := gl_3 (i := 187) (by decide +kernel) rfl
theorem ok_X6_173 : g_okV RX6 173 RX0 yX0_hasTurn cX0_hasTurn 2 (some .boolean) 1 := ⟨mc_X0_hasTurn, ml_X6_173, mi_X0_hasTurn, ms_X0_hasTurn, ii_X0, by decide +kernel⟩
theorem mc_X0_costOfTurn : Cond.code yX0_costOfTurn cX0_costOfTurn 3 (some .int) ∈ gl := gl_3 (i := 193) (rfl) rfl
theorem ml_X6_193 : Cond.methodLink RX6 193 yX0_costOfTurn ∈ gl := gl_3 (i := 190) (by decide +kernel) rfl
theorem mi_X0_costOfTurn : Cond.instanceMethod yX0_costOfTurn ∈ gl := gl_3 (i := 191) (by decide +kernel) rfl
theorem ms_X0_costOfTurn : Cond.selects RX0 yX0_costOfTurn yX0_costOfTurn ∈ gl := gl_3 (i := 192) (by decide +kernel) rfl
theorem ok_X6_193 : g_okV RX6 193 RX0 yX0_costOfTurn cX0_costOfTurn 3 (some .int) 1 := ⟨mc_X0_costOfTurn, ml_X6_193, mi_X0_costOfTurn, ms_X0_costOfTurn, ii_X0, by decide +kernel⟩
theorem mc_X0_hasStay : Cond.code yX0_hasStay cX0_hasStay 3 (some .boolean) ∈ gl := gl_3 (i := 212) (rfl) rfl
theorem ml_X6_198 : Cond.methodLink RX6 198 yX0_hasStay ∈ gl := gl_3 (i := 209) (by decide +kernel) rfl
theorem mi_X0_hasStay : Cond.instanceMethod yX0_hasStay ∈ gl := gl_3 (i := 210) (by decide +kernel) rfl
theorem ms_X0_hasStay : Cond.selects RX0 yX0_hasStay yX0_hasStay ∈ gl := gl_3 (i := 211) (by decide +kernel) rfl
theorem ok_X6_198 : g_okV RX6 198 RX0 yX0_hasStay cX0_hasStay 3 (some .boolean) 2 := ⟨mc_X0_hasStay, ml_X6_198, mi_X0_hasStay, ms_X0_hasStay, ii_X0, by decide +kernel⟩
theorem mc_X0_costOfStay : Cond.code yX0_costOfStay cX0_costOfStay 4 (some .int) ∈ gl := gl_3 (i := 197) (rfl) rfl
theorem ml_X6_213 : Cond.methodLink RX6 213 yX0_costOfStay ∈ gl := gl_3 (i := 215) (by decide +kernel) rfl
theorem mi_X0_costOfStay : Cond.instanceMethod yX0_costOfStay ∈ gl := gl_3 (i := 195) (by decide +kernel) rfl
theorem ms_X0_costOfStay : Cond.selects RX0 yX0_costOfStay yX0_costOfStay ∈ gl := gl_3 (i := 196) (by decide +kernel) rfl
theorem ok_X6_213 : g_okV RX6 213 RX0 yX0_costOfStay cX0_costOfStay 4 (some .int) 1 := ⟨mc_X0_costOfStay, ml_X6_213, mi_X0_costOfStay, ms_X0_costOfStay, ii_X0, by decide +kernel⟩
theorem mc_X0_conflictsOf : Cond.code yX0_conflictsOf cX0_conflictsOf 2 (some .int) ∈ gl := gl_2 (i := 122) (rfl) rfl
theorem ml_X6_216 : Cond.methodLink RX6 216 yX0_conflictsOf ∈ gl := gl_2 (i := 119) (by decide +kernel) rfl
theorem mi_X0_conflictsOf : Cond.instanceMethod yX0_conflictsOf ∈ gl := gl_2 (i := 120) (by decide +kernel) rfl
theorem ms_X0_conflictsOf : Cond.selects RX0 yX0_conflictsOf yX0_conflictsOf ∈ gl := gl_2 (i := 121) (by decide +kernel) rfl
theorem ok_X6_216 : g_okV RX6 216 RX0 yX0_conflictsOf cX0_conflictsOf 2 (some .int) 1 := ⟨mc_X0_conflictsOf, ml_X6_216, mi_X0_conflictsOf, ms_X0_conflictsOf, ii_X0, by decide +kernel⟩
theorem mc_X0_isHindered : Cond.code yX0_isHindered cX0_isHindered 3 (some .boolean) ∈ gl := gl_3 (i := 113) (rfl) rfl
theorem ml_X6_219 : Cond.methodLink RX6 219 yX0_isHindered ∈ gl := gl_3 (i := 216) (by decide +kernel) rfl
theorem mi_X0_isHindered : Cond.instanceMethod yX0_isHindered ∈ gl := gl_3 (i := 111) (by decide +kernel) rfl
theorem ms_X0_isHindered : Cond.selects RX0 yX0_isHindered yX0_isHindered ∈ gl := gl_3 (i := 112) (by decide +kernel) rfl
theorem ok_X6_219 : g_okV RX6 219 RX0 yX0_isHindered cX0_isHindered 3 (some .boolean) 1 := ⟨mc_X0_isHindered, ml_X6_219, mi_X0_isHindered, ms_X0_isHindered, ii_X0, by decide +kernel⟩
theorem mc_X0_refusal : Cond.code yX0_refusal cX0_refusal 4 (some .int) ∈ gl := gl_2 (i := 94) (rfl) rfl
theorem ml_X6_224 : Cond.methodLink RX6 224 yX0_refusal ∈ gl := gl_3 (i := 226) (by decide +kernel) rfl
theorem mi_X0_refusal : Cond.instanceMethod yX0_refusal ∈ gl := gl_2 (i := 92) (by decide +kernel) rfl
theorem ms_X0_refusal : Cond.selects RX0 yX0_refusal yX0_refusal ∈ gl := gl_2 (i := 93) (by decide +kernel) rfl
theorem ok_X6_224 : g_okV RX6 224 RX0 yX0_refusal cX0_refusal 4 (some .int) 2 := ⟨mc_X0_refusal, ml_X6_224, mi_X0_refusal, ms_X0_refusal, ii_X0, by decide +kernel⟩
theorem mc_X0_standsFor : Cond.code yX0_standsFor cX0_standsFor 4 (some .int) ∈ gl := gl_4 (i := 20) (rfl) rfl
theorem ml_X6_232 : Cond.methodLink RX6 232 yX0_standsFor ∈ gl := gl_4 (i := 17) (by decide +kernel) rfl
theorem mi_X0_standsFor : Cond.instanceMethod yX0_standsFor ∈ gl := gl_4 (i := 18) (by decide +kernel) rfl
theorem ms_X0_standsFor : Cond.selects RX0 yX0_standsFor yX0_standsFor ∈ gl := gl_4 (i := 19) (by decide +kernel) rfl
theorem ok_X6_232 : g_okV RX6 232 RX0 yX0_standsFor cX0_standsFor 4 (some .int) 1 := ⟨mc_X0_standsFor, ml_X6_232, mi_X0_standsFor, ms_X0_standsFor, ii_X0, by decide +kernel⟩
theorem mc_X0_cheapestFor : Cond.code yX0_cheapestFor cX0_cheapestFor 4 (some .int) ∈ gl := gl_2 (i := 90) (rfl) rfl
theorem ml_X6_235 : Cond.methodLink RX6 235 yX0_cheapestFor ∈ gl := gl_4 (i := 28) (by decide +kernel) rfl
theorem mi_X0_cheapestFor : Cond.instanceMethod yX0_cheapestFor ∈ gl := gl_2 (i := 88) (by decide +kernel) rfl
theorem ms_X0_cheapestFor : Cond.selects RX0 yX0_cheapestFor yX0_cheapestFor ∈ gl := gl_2 (i := 89) (by decide +kernel) rfl
theorem ok_X6_235 : g_okV RX6 235 RX0 yX0_cheapestFor cX0_cheapestFor 4 (some .int) 1 := ⟨mc_X0_cheapestFor, ml_X6_235, mi_X0_cheapestFor, ms_X0_cheapestFor, ii_X0, by decide +kernel⟩
theorem mc_X0_isTowMinute : Cond.code yX0_isTowMinute cX0_isTowMinute 3 (some .boolean) ∈ gl := gl_4 (i := 56) (rfl) rfl
theorem ml_X6_244 : Cond.methodLink RX6 244 yX0_isTowMinute ∈ gl := gl_4 (i := 53) (by decide +kernel) rfl
theorem mi_X0_isTowMinute : Cond.instanceMethod yX0_isTowMinute ∈ gl := gl_4 (i := 54) (by decide +kernel) rfl
theorem ms_X0_isTowMinute : Cond.selects RX0 yX0_isTowMinute yX0_isTowMinute ∈ gl := gl_4 (i := 55) (by decide +kernel) rfl
theorem ok_X6_244 : g_okV RX6 244 RX0 yX0_isTowMinute cX0_isTowMinute 3 (some .boolean) 2 := ⟨mc_X0_isTowMinute, ml_X6_244, mi_X0_isTowMinute, ms_X0_isTowMinute, ii_X0, by decide +kernel⟩
theorem mc_X0_hasTow : Cond.code yX0_hasTow cX0_hasTow 2 (some .boolean) ∈ gl := gl_2 (i := 70) (rfl) rfl
theorem ml_X6_249 : Cond.methodLink RX6 249 yX0_hasTow ∈ gl := gl_4 (i := 58) (by decide +kernel) rfl
theorem mi_X0_hasTow : Cond.instanceMethod yX0_hasTow ∈ gl := gl_2 (i := 68) (by decide +kernel) rfl
theorem ms_X0_hasTow : Cond.selects RX0 yX0_hasTow yX0_hasTow ∈ gl := gl_2 (i := 69) (by decide +kernel) rfl
theorem ok_X6_249 : g_okV RX6 249 RX0 yX0_hasTow cX0_hasTow 2 (some .boolean) 1 := ⟨mc_X0_hasTow, ml_X6_249, mi_X0_hasTow, ms_X0_hasTow, ii_X0, by decide +kernel⟩
theorem mc_X0_divide : Cond.code yX0_divide cX0_divide 3 (some .int) ∈ gl := gl_4 (i := 63) (rfl) rfl
theorem ml_X6_254 : Cond.methodLink RX6 254 yX0_divide ∈ gl := gl_4 (i := 60) (by decide +kernel) rfl
theorem mi_X0_divide : Cond.instanceMethod yX0_divide ∈ gl := gl_4 (i := 61) (by decide +kernel) rfl
theorem ms_X0_divide : Cond.selects RX0 yX0_divide yX0_divide ∈ gl := gl_4 (i := 62) (by decide +kernel) rfl
theorem ok_X6_254 : g_okV RX6 254 RX0 yX0_divide cX0_divide 3 (some .int) 2 := ⟨mc_X0_divide, ml_X6_254, mi_X0_divide, ms_X0_divide, ii_X0, by decide +kernel⟩
theorem mc_X0_join : Cond.code yX0_join cX0_join 3 (some .int) ∈ gl := gl_4 (i := 75) (rfl) rfl
theorem ml_X6_259 : Cond.methodLink RX6 259 yX0_join ∈ gl := gl_4 (i := 72) (by decide +kernel) rfl
theorem mi_X0_join : Cond.instanceMethod yX0_join ∈ gl := gl_4 (i := 73) (by decide +kernel) rfl
theorem ms_X0_join : Cond.selects RX0 yX0_join yX0_join ∈ gl := gl_4 (i := 74) (by decide +kernel) rfl
theorem ok_X6_259 : g_okV RX6 259 RX0 yX0_join cX0_join 3 (some .int) 1 := ⟨mc_X0_join, ml_X6_259, mi_X0_join, ms_X0_join, ii_X0, by decide +kernel⟩
theorem mc_X0_departureAfter : Cond.code yX0_departureAfter cX0_departureAfter 4 (some .int) ∈ gl := gl_4 (i := 87) (rfl) rfl
theorem ml_X6_264 : Cond.methodLink RX6 264 yX0_departureAfter ∈ gl := gl_4 (i := 84) (by decide +kernel) rfl
theorem mi_X0_departureAfter : Cond.instanceMethod yX0_departureAfter ∈ gl := gl_4 (i := 85) (by decide +kernel) rfl
theorem ms_X0_departureAfter : Cond.selects RX0 yX0_departureAfter yX0_departureAfter ∈ gl := gl_4 (i := 86) (by decide +kernel) rfl
theorem ok_X6_264 : g_okV RX6 264 RX0 yX0_departureAfter cX0_departureAfter 4 (some .int) 2 := ⟨mc_X0_departureAfter, ml_X6_264, mi_X0_departureAfter, ms_X0_departureAfter, ii_X0, by decide +kernel⟩
theorem mc_X0_postpone : Cond.code yX0_postpone cX0_postpone 4 (some .int) ∈ gl := gl_4 (i := 99) (rfl) rfl
theorem ml_X6_269 : Cond.methodLink RX6 269 yX0_postpone ∈ gl := gl_4 (i := 96) (by decide +kernel) rfl
theorem mi_X0_postpone : Cond.instanceMethod yX0_postpone ∈ gl := gl_4 (i := 97) (by decide +kernel) rfl
theorem ms_X0_postpone : Cond.selects RX0 yX0_postpone yX0_postpone ∈ gl := gl_4 (i := 98) (by decide +kernel) rfl
theorem ok_X6_269 : g_okV RX6 269 RX0 yX0_postpone cX0_postpone 4 (some .int) 2 := ⟨mc_X0_postpone, ml_X6_269, mi_X0_postpone, ms_X0_postpone, ii_X0, by decide +kernel⟩
theorem mc_X0_placeEverything : Cond.code yX0_placeEverything cX0_placeEverything 6 (some .int) ∈ gl := gl_2 (i := 62) (rfl) rfl
theorem ml_X6_272 : Cond.methodLink RX6 272 yX0_placeEverything ∈ gl := gl_2 (i := 59) (by decide +kernel) rfl
theorem mi_X0_placeEverything : Cond.instanceMethod yX0_placeEverything ∈ gl := gl_2 (i := 60) (by decide +kernel) rfl
theorem ms_X0_placeEverything : Cond.selects RX0 yX0_placeEverything yX0_placeEverything ∈ gl := gl_2 (i := 61) (by decide +kernel) rfl
theorem ok_X6_272 : g_okV RX6 272 RX0 yX0_placeEverything cX0_placeEverything 6 (some .int) 0 := ⟨mc_X0_placeEverything, ml_X6_272, mi_X0_placeEverything, ms_X0_placeEverything, ii_X0, by decide +kernel⟩
theorem mc_X0_copyFrom : Cond.code yX0_copyFrom cX0_copyFrom 2 none ∈ gl := gl_2 (i := 55) (rfl) rfl
theorem ml_X6_276 : Cond.methodLink RX6 276 yX0_copyFrom ∈ gl := gl_2 (i := 151) (by decide +kernel) rfl
theorem mi_X0_copyFrom : Cond.instanceMethod yX0_copyFrom ∈ gl := gl_2 (i := 53) (by decide +kernel) rfl
theorem ms_X0_copyFrom : Cond.selects RX0 yX0_copyFrom yX0_copyFrom ∈ gl := gl_2 (i := 54) (by decide +kernel) rfl
theorem ok_X6_276 : g_okV RX6 276 RX0 yX0_copyFrom cX0_copyFrom 2 none 1 := ⟨mc_X0_copyFrom, ml_X6_276, mi_X0_copyFrom, ms_X0_copyFrom, ii_X0, by decide +kernel⟩
theorem mc_X0_costOfAll : Cond.code yX0_costOfAll cX0_costOfAll 3 (some .int) ∈ gl := gl_4 (i := 111) (rfl) rfl
theorem ml_X6_279 : Cond.methodLink RX6 279 yX0_costOfAll ∈ gl := gl_4 (i := 108) (by decide +kernel) rfl
theorem mi_X0_costOfAll : Cond.instanceMethod yX0_costOfAll ∈ gl := gl_4 (i := 109) (by decide +kernel) rfl
theorem ms_X0_costOfAll : Cond.selects RX0 yX0_costOfAll yX0_costOfAll ∈ gl := gl_4 (i := 110) (by decide +kernel) rfl
theorem ok_X6_279 : g_okV RX6 279 RX0 yX0_costOfAll cX0_costOfAll 3 (some .int) 0 := ⟨mc_X0_costOfAll, ml_X6_279, mi_X0_costOfAll, ms_X0_costOfAll, ii_X0, by decide +kernel⟩
theorem mc_X3_find : Cond.code yX3_find cX3_find 3 (some .boolean) ∈ gl := gl_4 (i := 123) (rfl) rfl
theorem ml_X6_282 : Cond.methodLink RX6 282 yX3_find ∈ gl := gl_4 (i := 120) (by decide +kernel) rfl
theorem mi_X3_find : Cond.instanceMethod yX3_find ∈ gl := gl_4 (i := 121) (by decide +kernel) rfl
theorem ms_X3_find : Cond.selects RX3 yX3_find yX3_find ∈ gl := gl_4 (i := 122) (by decide +kernel) rfl
theorem ok_X6_282 : g_okV RX6 282 RX3 yX3_find cX3_find 3 (some .boolean) 1 := ⟨mc_X3_find, ml_X6_282, mi_X3_find, ms_X3_find, ii_X3, by decide +kernel⟩
theorem mc_X2_least : Cond.code yX2_least cX2_least 5 (some .int) ∈ gl := gl_4 (i := 178) (rfl) rfl
theorem ml_X6_291 : Cond.methodLink RX6 291 yX2_least ∈ gl := gl_4 (i := 175) (by decide +kernel) rfl
theorem mi_X2_least : Cond.instanceMethod yX2_least ∈ gl := gl_4 (i := 176) (by decide +kernel) rfl
theorem ms_X2_least : Cond.selects RX2 yX2_least yX2_least ∈ gl := gl_4 (i := 177) (by decide +kernel) rfl
theorem ok_X6_291 : g_okV RX6 291 RX2 yX2_least cX2_least 5 (some .int) 1 := ⟨mc_X2_least, ml_X6_291, mi_X2_least, ms_X2_least, ii_X2, by decide +kernel⟩
theorem mc_X0_allStays : Cond.code yX0_allStays cX0_allStays 3 (some .int) ∈ gl := gl_2 (i := 66) (rfl) rfl
theorem ml_X6_306 : Cond.methodLink RX6 306 yX0_allStays ∈ gl := gl_4 (i := 216) (by decide +kernel) rfl
theorem mi_X0_allStays : Cond.instanceMethod yX0_allStays ∈ gl := gl_2 (i := 64) (by decide +kernel) rfl
theorem ms_X0_allStays : Cond.selects RX0 yX0_allStays yX0_allStays ∈ gl := gl_2 (i := 65) (by decide +kernel) rfl
theorem ok_X6_306 : g_okV RX6 306 RX0 yX0_allStays cX0_allStays 3 (some .int) 0 := ⟨mc_X0_allStays, ml_X6_306, mi_X0_allStays, ms_X0_allStays, ii_X0, by decide +kernel⟩
theorem mc_X0_staysOnStands : Cond.code yX0_staysOnStands cX0_staysOnStands 3 (some .int) ∈ gl := gl_2 (i := 74) (rfl) rfl
theorem ml_X6_309 : Cond.methodLink RX6 309 yX0_staysOnStands ∈ gl := gl_4 (i := 217) (by decide +kernel) rfl
theorem mi_X0_staysOnStands : Cond.instanceMethod yX0_staysOnStands ∈ gl := gl_2 (i := 72) (by decide +kernel) rfl
theorem ms_X0_staysOnStands : Cond.selects RX0 yX0_staysOnStands yX0_staysOnStands ∈ gl := gl_2 (i := 73) (by decide +kernel) rfl
theorem ok_X6_309 : g_okV RX6 309 RX0 yX0_staysOnStands cX0_staysOnStands 3 (some .int) 0 := ⟨mc_X0_staysOnStands, ml_X6_309, mi_X0_staysOnStands, ms_X0_staysOnStands, ii_X0, by decide +kernel⟩
theorem mc_X0_hinderedStays : Cond.code yX0_hinderedStays cX0_hinderedStays 3 (some .int) ∈ gl := gl_4 (i := 135) (rfl) rfl
theorem ml_X6_312 : Cond.methodLink RX6 312 yX0_hinderedStays ∈ gl := gl_4 (i := 218) (by decide +kernel) rfl
theorem mi_X0_hinderedStays : Cond.instanceMethod yX0_hinderedStays ∈ gl := gl_4 (i := 133) (by decide +kernel) rfl
theorem ms_X0_hinderedStays : Cond.selects RX0 yX0_hinderedStays yX0_hinderedStays ∈ gl := gl_4 (i := 134) (by decide +kernel) rfl
theorem ok_X6_312 : g_okV RX6 312 RX0 yX0_hinderedStays cX0_hinderedStays 3 (some .int) 0 := ⟨mc_X0_hinderedStays, ml_X6_312, mi_X0_hinderedStays, ms_X0_hinderedStays, ii_X0, by decide +kernel⟩
theorem mc_X0_weightsOnRemote : Cond.code yX0_weightsOnRemote cX0_weightsOnRemote 3 (some .int) ∈ gl := gl_4 (i := 222) (rfl) rfl
theorem ml_X6_315 : Cond.methodLink RX6 315 yX0_weightsOnRemote ∈ gl := gl_4 (i := 219) (by decide +kernel) rfl
theorem mi_X0_weightsOnRemote : Cond.instanceMethod yX0_weightsOnRemote ∈ gl := gl_4 (i := 220) (by decide +kernel) rfl
theorem ms_X0_weightsOnRemote : Cond.selects RX0 yX0_weightsOnRemote yX0_weightsOnRemote ∈ gl := gl_4 (i := 221) (by decide +kernel) rfl
theorem ok_X6_315 : g_okV RX6 315 RX0 yX0_weightsOnRemote cX0_weightsOnRemote 3 (some .int) 0 := ⟨mc_X0_weightsOnRemote, ml_X6_315, mi_X0_weightsOnRemote, ms_X0_weightsOnRemote, ii_X0, by decide +kernel⟩
theorem mc_J7_fill_53178 : Cond.code yJ7_fill_53178 cJ7_fill_53178 4 none ∈ gl := gl_1 (i := 43) (rfl) rfl
theorem ml_X6_320 : Cond.methodLink RX6 320 yJ7_fill_53178 ∈ gl := gl_2 (i := 133) (by decide +kernel) rfl
theorem ii_J7 : Cond.initialized RJ7 ∈ gl := gl_1 (i := 3) (by decide +kernel) rfl
theorem mt_J7_fill_53178 : Cond.static yJ7_fill_53178 ∈ gl := gl_1 (i := 42) (by decide +kernel) rfl
theorem ok_X6_320 : g_okS RX6 320 yJ7_fill_53178 cJ7_fill_53178 4 none 2 := ⟨mc_J7_fill_53178, ml_X6_320, mt_J7_fill_53178, ii_J7, by decide +kernel⟩
theorem mc_X0_isOnStand : Cond.code yX0_isOnStand cX0_isOnStand 2 (some .boolean) ∈ gl := gl_2 (i := 78) (rfl) rfl
theorem ml_X6_326 : Cond.methodLink RX6 326 yX0_isOnStand ∈ gl := gl_2 (i := 134) (by decide +kernel) rfl
theorem mi_X0_isOnStand : Cond.instanceMethod yX0_isOnStand ∈ gl := gl_2 (i := 76) (by decide +kernel) rfl
theorem ms_X0_isOnStand : Cond.selects RX0 yX0_isOnStand yX0_isOnStand ∈ gl := gl_2 (i := 77) (by decide +kernel) rfl
theorem ok_X6_326 : g_okV RX6 326 RX0 yX0_isOnStand cX0_isOnStand 2 (some .boolean) 1 := ⟨mc_X0_isOnStand, ml_X6_326, mi_X0_isOnStand, ms_X0_isOnStand, ii_X0, by decide +kernel⟩
theorem mc_X0_thereAt : Cond.code yX0_thereAt cX0_thereAt 4 (some .int) ∈ gl := gl_2 (i := 142) (rfl) rfl
theorem ml_X6_329 : Cond.methodLink RX6 329 yX0_thereAt ∈ gl := gl_2 (i := 139) (by decide +kernel) rfl
theorem mi_X0_thereAt : Cond.instanceMethod yX0_thereAt ∈ gl := gl_2 (i := 140) (by decide +kernel) rfl
theorem ms_X0_thereAt : Cond.selects RX0 yX0_thereAt yX0_thereAt ∈ gl := gl_2 (i := 141) (by decide +kernel) rfl
theorem ok_X6_329 : g_okV RX6 329 RX0 yX0_thereAt cX0_thereAt 4 (some .int) 1 := ⟨mc_X0_thereAt, ml_X6_329, mi_X0_thereAt, ms_X0_thereAt, ii_X0, by decide +kernel⟩
theorem mc_X5_add : Cond.code yX5_add cX5_add 2 (some .int) ∈ gl := gl_5 (i := 24) (rfl) rfl
theorem ml_X6_344 : Cond.methodLink RX6 344 yX5_add ∈ gl := gl_5 (i := 21) (by decide +kernel) rfl
theorem mi_X5_add : Cond.instanceMethod yX5_add ∈ gl := gl_5 (i := 22) (by decide +kernel) rfl
theorem ms_X5_add : Cond.selects RX5 yX5_add yX5_add ∈ gl := gl_5 (i := 23) (by decide +kernel) rfl
theorem ok_X6_344 : g_okV RX6 344 RX5 yX5_add cX5_add 2 (some .int) 1 := ⟨mc_X5_add, ml_X6_344, mi_X5_add, ms_X5_add, ii_X5, by decide +kernel⟩
theorem mc_X5_wrongPosition : Cond.code yX5_wrongPosition cX5_wrongPosition 2 (some .int) ∈ gl := gl_5 (i := 35) (rfl) rfl
theorem ml_X6_348 : Cond.methodLink RX6 348 yX5_wrongPosition ∈ gl := gl_5 (i := 32) (by decide +kernel) rfl
theorem mi_X5_wrongPosition : Cond.instanceMethod yX5_wrongPosition ∈ gl := gl_5 (i := 33) (by decide +kernel) rfl
theorem ms_X5_wrongPosition : Cond.selects RX5 yX5_wrongPosition yX5_wrongPosition ∈ gl := gl_5 (i := 34) (by decide +kernel) rfl
theorem ok_X6_348 : g_okV RX6 348 RX5 yX5_wrongPosition cX5_wrongPosition 2 (some .int) 0 := ⟨mc_X5_wrongPosition, ml_X6_348, mi_X5_wrongPosition, ms_X5_wrongPosition, ii_X5, by decide +kernel⟩
theorem mc_X5_makeEmpty : Cond.code yX5_makeEmpty cX5_makeEmpty 1 none ∈ gl := gl_5 (i := 120) (rfl) rfl
theorem ml_X6_351 : Cond.methodLink RX6 351 yX5_makeEmpty ∈ gl := gl_5 (i := 117) (by decide +kernel) rfl
theorem mi_X5_makeEmpty : Cond.instanceMethod yX5_makeEmpty ∈ gl := gl_5 (i := 118) (by decide +kernel) rfl
theorem ms_X5_makeEmpty : Cond.selects RX5 yX5_makeEmpty yX5_makeEmpty ∈ gl := gl_5 (i := 119) (by decide +kernel) rfl
theorem ok_X6_351 : g_okV RX6 351 RX5 yX5_makeEmpty cX5_makeEmpty 1 none 0 := ⟨mc_X5_makeEmpty, ml_X6_351, mi_X5_makeEmpty, ms_X5_makeEmpty, ii_X5, by decide +kernel⟩
theorem mc_X5_goToStart : Cond.code yX5_goToStart cX5_goToStart 1 none ∈ gl := gl_5 (i := 39) (rfl) rfl
theorem ml_X6_354 : Cond.methodLink RX6 354 yX5_goToStart ∈ gl := gl_5 (i := 122) (by decide +kernel) rfl
theorem mi_X5_goToStart : Cond.instanceMethod yX5_goToStart ∈ gl := gl_5 (i := 37) (by decide +kernel) rfl
theorem ms_X5_goToStart : Cond.selects RX5 yX5_goToStart yX5_goToStart ∈ gl := gl_5 (i := 38) (by decide +kernel) rfl
theorem ok_X6_354 : g_okV RX6 354 RX5 yX5_goToStart cX5_goToStart 1 none 0 := ⟨mc_X5_goToStart, ml_X6_354, mi_X5_goToStart, ms_X5_goToStart, ii_X5, by decide +kernel⟩
theorem mc_X5_readEntry : Cond.code yX5_readEntry cX5_readEntry 3 (some .boolean) ∈ gl := gl_5 (i := 43) (rfl) rfl
theorem ml_X6_360 : Cond.methodLink RX6 360 yX5_readEntry ∈ gl := gl_5 (i := 123) (by decide +kernel) rfl
theorem mi_X5_readEntry : Cond.instanceMethod yX5_readEntry ∈ gl := gl_5 (i := 41) (by decide +kernel) rfl
theorem ms_X5_readEntry : Cond.selects RX5 yX5_readEntry yX5_readEntry ∈ gl := gl_5 (i := 42) (by decide +kernel) rfl
theorem ok_X6_360 : g_okV RX6 360 RX5 yX5_readEntry cX5_readEntry 3 (some .boolean) 0 := ⟨mc_X5_readEntry, ml_X6_360, mi_X5_readEntry, ms_X5_readEntry, ii_X5, by decide +kernel⟩
theorem mc_X6_doEntry : Cond.code yX6_doEntry cX6_doEntry 4 (some .boolean) ∈ gl := gl_5 (i := 127) (rfl) rfl
theorem ml_X6_364 : Cond.methodLink RX6 364 yX6_doEntry ∈ gl := gl_5 (i := 124) (by decide +kernel) rfl
theorem ii_X6 : Cond.initialized RX6 ∈ gl := gl_1 (i := 1) (by decide +kernel) rfl
theorem mi_X6_doEntry : Cond.instanceMethod yX6_doEntry ∈ gl := gl_5 (i := 126) (by decide +kernel) rfl
theorem ms_X6_doEntry : Cond.selects RX6 yX6_doEntry yX6_doEntry ∈ gl := gl_p (i := 10) (q := (yX6_doEntry, 11)) (by decide +kernel)
theorem ok_X6_364 : g_okV RX6 364 RX6 yX6_doEntry cX6_doEntry 4 (some .boolean) 0 := ⟨mc_X6_doEntry, ml_X6_364, mi_X6_doEntry, ms_X6_doEntry, ii_X6, by decide +kernel⟩
theorem mc_X4_takeBack : Cond.code yX4_takeBack cX4_takeBack 2 none ∈ gl := gl_5 (i := 164) (rfl) rfl
theorem ml_X6_376 : Cond.methodLink RX6 376 yX4_takeBack ∈ gl := gl_5 (i := 161) (by decide +kernel) rfl
theorem mi_X4_takeBack : Cond.instanceMethod yX4_takeBack ∈ gl := gl_5 (i := 162) (by decide +kernel) rfl
theorem ms_X4_takeBack : Cond.selects RX4 yX4_takeBack yX4_takeBack ∈ gl := gl_5 (i := 163) (by decide +kernel) rfl
theorem ok_X6_376 : g_okV RX6 376 RX4 yX4_takeBack cX4_takeBack 2 none 1 := ⟨mc_X4_takeBack, ml_X6_376, mi_X4_takeBack, ms_X4_takeBack, ii_X4, by decide +kernel⟩
theorem mc_X6_placeInTrial : Cond.code yX6_placeInTrial cX6_placeInTrial 5 (some .boolean) ∈ gl := gl_5 (i := 131) (rfl) rfl
theorem ml_X6_388 : Cond.methodLink RX6 388 yX6_placeInTrial ∈ gl := gl_5 (i := 128) (by decide +kernel) rfl
theorem mi_X6_placeInTrial : Cond.instanceMethod yX6_placeInTrial ∈ gl := gl_5 (i := 130) (by decide +kernel) rfl
theorem ms_X6_placeInTrial : Cond.selects RX6 yX6_placeInTrial yX6_placeInTrial ∈ gl := gl_p (i := 11) (q := (yX6_placeInTrial, 11)) (by decide +kernel)
theorem ok_X6_388 : g_okV RX6 388 RX6 yX6_placeInTrial cX6_placeInTrial 5 (some .boolean) 3 := ⟨mc_X6_placeInTrial, ml_X6_388, mi_X6_placeInTrial, ms_X6_placeInTrial, ii_X6, by decide +kernel⟩
theorem mc_X6_liftInTrial : Cond.code yX6_liftInTrial cX6_liftInTrial 3 (some .boolean) ∈ gl := gl_5 (i := 135) (rfl) rfl
theorem ml_X6_392 : Cond.methodLink RX6 392 yX6_liftInTrial ∈ gl := gl_5 (i := 132) (by decide +kernel) rfl
theorem mi_X6_liftInTrial : Cond.instanceMethod yX6_liftInTrial ∈ gl := gl_5 (i := 134) (by decide +kernel) rfl
theorem ms_X6_liftInTrial : Cond.selects RX6 yX6_liftInTrial yX6_liftInTrial ∈ gl := gl_p (i := 12) (q := (yX6_liftInTrial, 11)) (by decide +kernel)
theorem ok_X6_392 : g_okV RX6 392 RX6 yX6_liftInTrial cX6_liftInTrial 3 (some .boolean) 2 := ⟨mc_X6_liftInTrial, ml_X6_392, mi_X6_liftInTrial, ms_X6_liftInTrial, ii_X6, by decide +kernel⟩
theorem mc_X6_delayInTrial : Cond.code yX6_delayInTrial cX6_delayInTrial 3 (some .boolean) ∈ gl := gl_5 (i := 139) (rfl) rfl
theorem ml_X6_395 : Cond.methodLink RX6 395 yX6_delayInTrial ∈ gl := gl_5 (i := 136) (by decide +kernel) rfl
theorem mi_X6_delayInTrial : Cond.instanceMethod yX6_delayInTrial ∈ gl := gl_5 (i := 138) (by decide +kernel) rfl
theorem ms_X6_delayInTrial : Cond.selects RX6 yX6_delayInTrial yX6_delayInTrial ∈ gl := gl_p (i := 13) (q := (yX6_delayInTrial, 11)) (by decide +kernel)
theorem ok_X6_395 : g_okV RX6 395 RX6 yX6_delayInTrial cX6_delayInTrial 3 (some .boolean) 2 := ⟨mc_X6_delayInTrial, ml_X6_395, mi_X6_delayInTrial, ms_X6_delayInTrial, ii_X6, by decide +kernel⟩
theorem mc_X6_towInTrial : Cond.code yX6_towInTrial cX6_towInTrial 3 (some .boolean) ∈ gl := gl_5 (i := 143) (rfl) rfl
theorem ml_X6_398 : Cond.methodLink RX6 398 yX6_towInTrial ∈ gl := gl_5 (i := 140) (by decide +kernel) rfl
theorem mi_X6_towInTrial : Cond.instanceMethod yX6_towInTrial ∈ gl := gl_5 (i := 142) (by decide +kernel) rfl
theorem ms_X6_towInTrial : Cond.selects RX6 yX6_towInTrial yX6_towInTrial ∈ gl := gl_p (i := 14) (q := (yX6_towInTrial, 11)) (by decide +kernel)
theorem ok_X6_398 : g_okV RX6 398 RX6 yX6_towInTrial cX6_towInTrial 3 (some .boolean) 2 := ⟨mc_X6_towInTrial, ml_X6_398, mi_X6_towInTrial, ms_X6_towInTrial, ii_X6, by decide +kernel⟩
theorem ml_X0_49 : Cond.methodLink RX0 49 yJ7_fill_53178 ∈ gl := gl_1 (i := 41) (by decide +kernel) rfl
theorem ok_X0_49 : g_okS RX0 49 yJ7_fill_53178 cJ7_fill_53178 4 none 2 := ⟨mc_J7_fill_53178, ml_X0_49, mt_J7_fill_53178, ii_J7, by decide +kernel⟩
theorem ml_X0_73 : Cond.methodLink RX0 73 yX0_hasTurn ∈ gl := gl_3 (i := 213) (by decide +kernel) rfl
theorem ok_X0_73 : g_okV RX0 73 RX0 yX0_hasTurn cX0_hasTurn 2 (some .boolean) 1 := ⟨mc_X0_hasTurn, ml_X0_73, mi_X0_hasTurn, ms_X0_hasTurn, ii_X0, by decide +kernel⟩
theorem ml_X0_77 : Cond.methodLink RX0 77 yX0_hasTow ∈ gl := gl_2 (i := 67) (by decide +kernel) rfl
theorem ok_X0_77 : g_okV RX0 77 RX0 yX0_hasTow cX0_hasTow 2 (some .boolean) 1 := ⟨mc_X0_hasTow, ml_X0_77, mi_X0_hasTow, ms_X0_hasTow, ii_X0, by decide +kernel⟩
theorem ml_X0_80 : Cond.methodLink RX0 80 yX0_isOpened ∈ gl := gl_2 (i := 95) (by decide +kernel) rfl
theorem ok_X0_80 : g_okV RX0 80 RX0 yX0_isOpened cX0_isOpened 2 (some .boolean) 1 := ⟨mc_X0_isOpened, ml_X0_80, mi_X0_isOpened, ms_X0_isOpened, ii_X0, by decide +kernel⟩
theorem mc_X0_setStays : Cond.code yX0_setStays cX0_setStays 4 none ∈ gl := gl_3 (i := 177) (rfl) rfl
theorem ml_X0_83 : Cond.methodLink RX0 83 yX0_setStays ∈ gl := gl_3 (i := 174) (by decide +kernel) rfl
theorem mi_X0_setStays : Cond.instanceMethod yX0_setStays ∈ gl := gl_3 (i := 176) (by decide +kernel) rfl
theorem ms_X0_setStays : Cond.selects RX0 yX0_setStays yX0_setStays ∈ gl := gl_p (i := 1) (q := (yX0_setStays, 16)) (by decide +kernel)
theorem ok_X0_83 : g_okV RX0 83 RX0 yX0_setStays cX0_setStays 4 none 1 := ⟨mc_X0_setStays, ml_X0_83, mi_X0_setStays, ms_X0_setStays, ii_X0, by decide +kernel⟩
theorem mc_J9_max_7cf53 : Cond.code yJ9_max_7cf53 cJ9_max_7cf53 2 (some .int) ∈ gl := gl_4 (i := 90) (rfl) rfl
theorem ml_X0_87 : Cond.methodLink RX0 87 yJ9_max_7cf53 ∈ gl := gl_4 (i := 88) (by decide +kernel) rfl
theorem ii_J9 : Cond.initialized RJ9 ∈ gl := gl_1 (i := 21) (by decide +kernel) rfl
theorem mt_J9_max_7cf53 : Cond.static yJ9_max_7cf53 ∈ gl := gl_4 (i := 89) (by decide +kernel) rfl
theorem ok_X0_87 : g_okS RX0 87 yJ9_max_7cf53 cJ9_max_7cf53 2 (some .int) 2 := ⟨mc_J9_max_7cf53, ml_X0_87, mt_J9_max_7cf53, ii_J9, by decide +kernel⟩
theorem mc_X0_towAfter : Cond.code yX0_towAfter cX0_towAfter 3 (some .int) ∈ gl := gl_4 (i := 94) (rfl) rfl
theorem ml_X0_93 : Cond.methodLink RX0 93 yX0_towAfter ∈ gl := gl_4 (i := 91) (by decide +kernel) rfl
theorem mi_X0_towAfter : Cond.instanceMethod yX0_towAfter ∈ gl := gl_4 (i := 92) (by decide +kernel) rfl
theorem ms_X0_towAfter : Cond.selects RX0 yX0_towAfter yX0_towAfter ∈ gl := gl_4 (i := 93) (by decide +kernel) rfl
theorem ok_X0_93 : g_okV RX0 93 RX0 yX0_towAfter cX0_towAfter 3 (some .int) 2 := ⟨mc_X0_towAfter, ml_X0_93, mi_X0_towAfter, ms_X0_towAfter, ii_X0, by decide +kernel⟩
theorem ml_X0_96 : Cond.methodLink RX0 96 yX0_departureAfter ∈ gl := gl_4 (i := 100) (by decide +kernel) rfl
theorem ok_X0_96 : g_okV RX0 96 RX0 yX0_departureAfter cX0_departureAfter 4 (some .int) 2 := ⟨mc_X0_departureAfter, ml_X0_96, mi_X0_departureAfter, ms_X0_departureAfter, ii_X0, by decide +kernel⟩
theorem ml_X0_99 : Cond.methodLink RX0 99 yX0_isOnStand ∈ gl := gl_2 (i := 75) (by decide +kernel) rfl
theorem ok_X0_99 : g_okV RX0 99 RX0 yX0_isOnStand cX0_isOnStand 2 (some .boolean) 1 := ⟨mc_X0_isOnStand, ml_X0_99, mi_X0_isOnStand, ms_X0_isOnStand, ii_X0, by decide +kernel⟩
theorem ml_X0_102 : Cond.methodLink RX0 102 yX0_isHindered ∈ gl := gl_3 (i := 110) (by decide +kernel) rfl
theorem ok_X0_102 : g_okV RX0 102 RX0 yX0_isHindered cX0_isHindered 3 (some .boolean) 1 := ⟨mc_X0_isHindered, ml_X0_102, mi_X0_isHindered, ms_X0_isHindered, ii_X0, by decide +kernel⟩
theorem mc_X0_isTroubled : Cond.code yX0_isTroubled cX0_isTroubled 2 (some .boolean) ∈ gl := gl_3 (i := 109) (rfl) rfl
theorem ml_X0_105 : Cond.methodLink RX0 105 yX0_isTroubled ∈ gl := gl_3 (i := 106) (by decide +kernel) rfl
theorem mi_X0_isTroubled : Cond.instanceMethod yX0_isTroubled ∈ gl := gl_3 (i := 107) (by decide +kernel) rfl
theorem ms_X0_isTroubled : Cond.selects RX0 yX0_isTroubled yX0_isTroubled ∈ gl := gl_3 (i := 108) (by decide +kernel) rfl
theorem ok_X0_105 : g_okV RX0 105 RX0 yX0_isTroubled cX0_isTroubled 2 (some .boolean) 1 := ⟨mc_X0_isTroubled, ml_X0_105, mi_X0_isTroubled, ms_X0_isTroubled, ii_X0, by decide +kernel⟩
theorem mc_X0_isThere : Cond.code yX0_isThere cX0_isThere 3 (some .boolean) ∈ gl := gl_2 (i := 146) (rfl) rfl
theorem ml_X0_108 : Cond.methodLink RX0 108 yX0_isThere ∈ gl := gl_2 (i := 143) (by decide +kernel) rfl
theorem mi_X0_isThere : Cond.instanceMethod yX0_isThere ∈ gl := gl_2 (i := 144) (by decide +kernel) rfl
theorem ms_X0_isThere : Cond.selects RX0 yX0_isThere yX0_isThere ∈ gl := gl_2 (i := 145) (by decide +kernel) rfl
theorem ok_X0_108 : g_okV RX0 108 RX0 yX0_isThere cX0_isThere 3 (some .boolean) 2 := ⟨mc_X0_isThere, ml_X0_108, mi_X0_isThere, ms_X0_isThere, ii_X0, by decide +kernel⟩
theorem ml_X0_112 : Cond.methodLink RX0 112 yX0_stayAt ∈ gl := gl_3 (i := 156) (by decide +kernel) rfl
theorem ok_X0_112 : g_okV RX0 112 RX0 yX0_stayAt cX0_stayAt 4 (some .int) 2 := ⟨mc_X0_stayAt, ml_X0_112, mi_X0_stayAt, ms_X0_stayAt, ii_X0, by decide +kernel⟩
theorem mc_J9_min_7cf53 : Cond.code yJ9_min_7cf53 cJ9_min_7cf53 2 (some .int) ∈ gl := gl_3 (i := 159) (rfl) rfl
theorem ml_X0_115 : Cond.methodLink RX0 115 yJ9_min_7cf53 ∈ gl := gl_3 (i := 157) (by decide +kernel) rfl
theorem mt_J9_min_7cf53 : Cond.static yJ9_min_7cf53 ∈ gl := gl_3 (i := 158) (by decide +kernel) rfl
theorem ok_X0_115 : g_okS RX0 115 yJ9_min_7cf53 cJ9_min_7cf53 2 (some .int) 2 := ⟨mc_J9_min_7cf53, ml_X0_115, mt_J9_min_7cf53, ii_J9, by decide +kernel⟩
theorem mc_X0_isLargeEnough : Cond.code yX0_isLargeEnough cX0_isLargeEnough 3 (some .boolean) ∈ gl := gl_2 (i := 102) (rfl) rfl
theorem ml_X0_118 : Cond.methodLink RX0 118 yX0_isLargeEnough ∈ gl := gl_2 (i := 99) (by decide +kernel) rfl
theorem mi_X0_isLargeEnough : Cond.instanceMethod yX0_isLargeEnough ∈ gl := gl_2 (i := 100) (by decide +kernel) rfl
theorem ms_X0_isLargeEnough : Cond.selects RX0 yX0_isLargeEnough yX0_isLargeEnough ∈ gl := gl_2 (i := 101) (by decide +kernel) rfl
theorem ok_X0_118 : g_okV RX0 118 RX0 yX0_isLargeEnough cX0_isLargeEnough 3 (some .boolean) 2 := ⟨mc_X0_isLargeEnough, ml_X0_118, mi_X0_isLargeEnough, ms_X0_isLargeEnough, ii_X0, by decide +kernel⟩
theorem ml_X0_121 : Cond.methodLink RX0 121 yX0_conflictsOf ∈ gl := gl_3 (i := 114) (by decide +kernel) rfl
theorem ok_X0_121 : g_okV RX0 121 RX0 yX0_conflictsOf cX0_conflictsOf 2 (some .int) 1 := ⟨mc_X0_conflictsOf, ml_X0_121, mi_X0_conflictsOf, ms_X0_conflictsOf, ii_X0, by decide +kernel⟩
theorem mc_X0_wouldClash : Cond.code yX0_wouldClash cX0_wouldClash 6 (some .boolean) ∈ gl := gl_2 (i := 110) (rfl) rfl
theorem ml_X0_125 : Cond.methodLink RX0 125 yX0_wouldClash ∈ gl := gl_2 (i := 107) (by decide +kernel) rfl
theorem mi_X0_wouldClash : Cond.instanceMethod yX0_wouldClash ∈ gl := gl_2 (i := 108) (by decide +kernel) rfl
theorem ms_X0_wouldClash : Cond.selects RX0 yX0_wouldClash yX0_wouldClash ∈ gl := gl_2 (i := 109) (by decide +kernel) rfl
theorem ok_X0_125 : g_okV RX0 125 RX0 yX0_wouldClash cX0_wouldClash 6 (some .boolean) 4 := ⟨mc_X0_wouldClash, ml_X0_125, mi_X0_wouldClash, ms_X0_wouldClash, ii_X0, by decide +kernel⟩
theorem mc_X0_clashesOn : Cond.code yX0_clashesOn cX0_clashesOn 6 (some .int) ∈ gl := gl_2 (i := 106) (rfl) rfl
theorem ml_X0_129 : Cond.methodLink RX0 129 yX0_clashesOn ∈ gl := gl_2 (i := 103) (by decide +kernel) rfl
theorem mi_X0_clashesOn : Cond.instanceMethod yX0_clashesOn ∈ gl := gl_2 (i := 104) (by decide +kernel) rfl
theorem ms_X0_clashesOn : Cond.selects RX0 yX0_clashesOn yX0_clashesOn ∈ gl := gl_2 (i := 105) (by decide +kernel) rfl
theorem ok_X0_129 : g_okV RX0 129 RX0 yX0_clashesOn cX0_clashesOn 6 (some .int) 2 := ⟨mc_X0_clashesOn, ml_X0_129, mi_X0_clashesOn, ms_X0_clashesOn, ii_X0, by decide +kernel⟩
theorem ml_X0_132 : Cond.methodLink RX0 132 yX0_staysOn ∈ gl := gl_2 (i := 111) (by decide +kernel) rfl
theorem ok_X0_132 : g_okV RX0 132 RX0 yX0_staysOn cX0_staysOn 4 (some .int) 1 := ⟨mc_X0_staysOn, ml_X0_132, mi_X0_staysOn, ms_X0_staysOn, ii_X0, by decide +kernel⟩
theorem ml_X0_135 : Cond.methodLink RX0 135 yX0_refusal ∈ gl := gl_2 (i := 91) (by decide +kernel) rfl
theorem ok_X0_135 : g_okV RX0 135 RX0 yX0_refusal cX0_refusal 4 (some .int) 2 := ⟨mc_X0_refusal, ml_X0_135, mi_X0_refusal, ms_X0_refusal, ii_X0, by decide +kernel⟩
theorem mc_X0_rateOf : Cond.code yX0_rateOf cX0_rateOf 1 (some .int) ∈ gl := gl_3 (i := 200) (rfl) rfl
theorem ml_X0_138 : Cond.methodLink RX0 138 yX0_rateOf ∈ gl := gl_3 (i := 198) (by decide +kernel) rfl
theorem mt_X0_rateOf : Cond.static yX0_rateOf ∈ gl := gl_3 (i := 199) (by decide +kernel) rfl
theorem ok_X0_138 : g_okS RX0 138 yX0_rateOf cX0_rateOf 1 (some .int) 1 := ⟨mc_X0_rateOf, ml_X0_138, mt_X0_rateOf, ii_X0, by decide +kernel⟩
theorem ml_X0_141 : Cond.methodLink RX0 141 yX0_costOfStay ∈ gl := gl_3 (i := 194) (by decide +kernel) rfl
theorem ok_X0_141 : g_okV RX0 141 RX0 yX0_costOfStay cX0_costOfStay 4 (some .int) 1 := ⟨mc_X0_costOfStay, ml_X0_141, mi_X0_costOfStay, ms_X0_costOfStay, ii_X0, by decide +kernel⟩
theorem ml_X0_144 : Cond.methodLink RX0 144 yX0_costOfTurn ∈ gl := gl_4 (i := 112) (by decide +kernel) rfl
theorem ok_X0_144 : g_okV RX0 144 RX0 yX0_costOfTurn cX0_costOfTurn 3 (some .int) 1 := ⟨mc_X0_costOfTurn, ml_X0_144, mi_X0_costOfTurn, ms_X0_costOfTurn, ii_X0, by decide +kernel⟩
theorem mc_X0_isOnRemote : Cond.code yX0_isOnRemote cX0_isOnRemote 2 (some .boolean) ∈ gl := gl_4 (i := 226) (rfl) rfl
theorem ml_X0_147 : Cond.methodLink RX0 147 yX0_isOnRemote ∈ gl := gl_4 (i := 223) (by decide +kernel) rfl
theorem mi_X0_isOnRemote : Cond.instanceMethod yX0_isOnRemote ∈ gl := gl_4 (i := 224) (by decide +kernel) rfl
theorem ms_X0_isOnRemote : Cond.selects RX0 yX0_isOnRemote yX0_isOnRemote ∈ gl := gl_4 (i := 225) (by decide +kernel) rfl
theorem ok_X0_147 : g_okV RX0 147 RX0 yX0_isOnRemote cX0_isOnRemote 2 (some .boolean) 1 := ⟨mc_X0_isOnRemote, ml_X0_147, mi_X0_isOnRemote, ms_X0_isOnRemote, ii_X0, by decide +kernel⟩
theorem mc_X0_comesBefore : Cond.code yX0_comesBefore cX0_comesBefore 3 (some .boolean) ∈ gl := gl_2 (i := 86) (rfl) rfl
theorem ml_X0_150 : Cond.methodLink RX0 150 yX0_comesBefore ∈ gl := gl_2 (i := 83) (by decide +kernel) rfl
theorem mi_X0_comesBefore : Cond.instanceMethod yX0_comesBefore ∈ gl := gl_2 (i := 84) (by decide +kernel) rfl
theorem ms_X0_comesBefore : Cond.selects RX0 yX0_comesBefore yX0_comesBefore ∈ gl := gl_2 (i := 85) (by decide +kernel) rfl
theorem ok_X0_150 : g_okV RX0 150 RX0 yX0_comesBefore cX0_comesBefore 3 (some .boolean) 2 := ⟨mc_X0_comesBefore, ml_X0_150, mi_X0_comesBefore, ms_X0_comesBefore, ii_X0, by decide +kernel⟩
theorem ml_X0_153 : Cond.methodLink RX0 153 yX0_allStays ∈ gl := gl_2 (i := 63) (by decide +kernel) rfl
theorem ok_X0_153 : g_okV RX0 153 RX0 yX0_allStays cX0_allStays 3 (some .int) 0 := ⟨mc_X0_allStays, ml_X0_153, mi_X0_allStays, ms_X0_allStays, ii_X0, by decide +kernel⟩
theorem ml_X0_157 : Cond.methodLink RX0 157 yX0_staysOnStands ∈ gl := gl_2 (i := 71) (by decide +kernel) rfl
theorem ok_X0_157 : g_okV RX0 157 RX0 yX0_staysOnStands cX0_staysOnStands 3 (some .int) 0 := ⟨mc_X0_staysOnStands, ml_X0_157, mi_X0_staysOnStands, ms_X0_staysOnStands, ii_X0, by decide +kernel⟩
theorem mc_X0_firstOf : Cond.code yX0_firstOf cX0_firstOf 4 (some .int) ∈ gl := gl_2 (i := 82) (rfl) rfl
theorem ml_X0_160 : Cond.methodLink RX0 160 yX0_firstOf ∈ gl := gl_2 (i := 79) (by decide +kernel) rfl
theorem mi_X0_firstOf : Cond.instanceMethod yX0_firstOf ∈ gl := gl_2 (i := 80) (by decide +kernel) rfl
theorem ms_X0_firstOf : Cond.selects RX0 yX0_firstOf yX0_firstOf ∈ gl := gl_2 (i := 81) (by decide +kernel) rfl
theorem ok_X0_160 : g_okV RX0 160 RX0 yX0_firstOf cX0_firstOf 4 (some .int) 1 := ⟨mc_X0_firstOf, ml_X0_160, mi_X0_firstOf, ms_X0_firstOf, ii_X0, by decide +kernel⟩
theorem ml_X0_163 : Cond.methodLink RX0 163 yX0_cheapestFor ∈ gl := gl_2 (i := 87) (by decide +kernel) rfl
theorem ok_X0_163 : g_okV RX0 163 RX0 yX0_cheapestFor cX0_cheapestFor 4 (some .int) 1 := ⟨mc_X0_cheapestFor, ml_X0_163, mi_X0_cheapestFor, ms_X0_cheapestFor, ii_X0, by decide +kernel⟩
theorem ml_X1_24 : Cond.methodLink RX1 24 yX0_hinderedStays ∈ gl := gl_4 (i := 132) (by decide +kernel) rfl
theorem ok_X1_24 : g_okV RX1 24 RX0 yX0_hinderedStays cX0_hinderedStays 3 (some .int) 0 := ⟨mc_X0_hinderedStays, ml_X1_24, mi_X0_hinderedStays, ms_X0_hinderedStays, ii_X0, by decide +kernel⟩
theorem ml_X1_41 : Cond.methodLink RX1 41 yX0_isOnStand ∈ gl := gl_4 (i := 136) (by decide +kernel) rfl
theorem ok_X1_41 : g_okV RX1 41 RX0 yX0_isOnStand cX0_isOnStand 2 (some .boolean) 1 := ⟨mc_X0_isOnStand, ml_X1_41, mi_X0_isOnStand, ms_X0_isOnStand, ii_X0, by decide +kernel⟩
theorem mc_X1_lookAtStay : Cond.code yX1_lookAtStay cX1_lookAtStay 5 none ∈ gl := gl_4 (i := 140) (rfl) rfl
theorem ml_X1_45 : Cond.methodLink RX1 45 yX1_lookAtStay ∈ gl := gl_4 (i := 137) (by decide +kernel) rfl
theorem ii_X1 : Cond.initialized RX1 ∈ gl := gl_1 (i := 7) (by decide +kernel) rfl
theorem mi_X1_lookAtStay : Cond.instanceMethod yX1_lookAtStay ∈ gl := gl_4 (i := 139) (by decide +kernel) rfl
theorem ms_X1_lookAtStay : Cond.selects RX1 yX1_lookAtStay yX1_lookAtStay ∈ gl := gl_p (i := 2) (q := (yX1_lookAtStay, 7)) (by decide +kernel)
theorem ok_X1_45 : g_okV RX1 45 RX1 yX1_lookAtStay cX1_lookAtStay 5 none 2 := ⟨mc_X1_lookAtStay, ml_X1_45, mi_X1_lookAtStay, ms_X1_lookAtStay, ii_X1, by decide +kernel⟩
theorem ml_X1_52 : Cond.methodLink RX1 52 yX0_clashesOn ∈ gl := gl_4 (i := 141) (by decide +kernel) rfl
theorem ok_X1_52 : g_okV RX1 52 RX0 yX0_clashesOn cX0_clashesOn 6 (some .int) 2 := ⟨mc_X0_clashesOn, ml_X1_52, mi_X0_clashesOn, ms_X0_clashesOn, ii_X0, by decide +kernel⟩
theorem ml_X1_56 : Cond.methodLink RX1 56 yX0_isOpened ∈ gl := gl_4 (i := 142) (by decide +kernel) rfl
theorem ok_X1_56 : g_okV RX1 56 RX0 yX0_isOpened cX0_isOpened 2 (some .boolean) 1 := ⟨mc_X0_isOpened, ml_X1_56, mi_X0_isOpened, ms_X0_isOpened, ii_X0, by decide +kernel⟩
theorem ml_X1_59 : Cond.methodLink RX1 59 yX0_isLargeEnough ∈ gl := gl_4 (i := 143) (by decide +kernel) rfl
theorem ok_X1_59 : g_okV RX1 59 RX0 yX0_isLargeEnough cX0_isLargeEnough 3 (some .boolean) 2 := ⟨mc_X0_isLargeEnough, ml_X1_59, mi_X0_isLargeEnough, ms_X0_isLargeEnough, ii_X0, by decide +kernel⟩
theorem mc_X1_init : Cond.code yX1_init cX1_init 1 none ∈ gl := gl_1 (i := 170) (rfl) rfl
theorem ml_X2_11 : Cond.methodLink RX2 11 yX1_init ∈ gl := gl_1 (i := 224) (by decide +kernel) rfl
theorem mi_X1_init : Cond.instanceMethod yX1_init ∈ gl := gl_1 (i := 169) (by decide +kernel) rfl
theorem mc_X1_lookAt : Cond.code yX1_lookAt cX1_lookAt 3 none ∈ gl := gl_4 (i := 131) (rfl) rfl
theorem ml_X2_25 : Cond.methodLink RX2 25 yX1_lookAt ∈ gl := gl_4 (i := 179) (by decide +kernel) rfl
theorem mi_X1_lookAt : Cond.instanceMethod yX1_lookAt ∈ gl := gl_4 (i := 129) (by decide +kernel) rfl
theorem ms_X1_lookAt : Cond.selects RX1 yX1_lookAt yX1_lookAt ∈ gl := gl_4 (i := 130) (by decide +kernel) rfl
theorem ok_X2_25 : g_okV RX2 25 RX1 yX1_lookAt cX1_lookAt 3 none 1 := ⟨mc_X1_lookAt, ml_X2_25, mi_X1_lookAt, ms_X1_lookAt, ii_X1, by decide +kernel⟩
theorem mc_X2_trySet : Cond.code yX2_trySet cX2_trySet 6 none ∈ gl := gl_4 (i := 183) (rfl) rfl
theorem ml_X2_33 : Cond.methodLink RX2 33 yX2_trySet ∈ gl := gl_4 (i := 180) (by decide +kernel) rfl
theorem mi_X2_trySet : Cond.instanceMethod yX2_trySet ∈ gl := gl_4 (i := 182) (by decide +kernel) rfl
theorem ms_X2_trySet : Cond.selects RX2 yX2_trySet yX2_trySet ∈ gl := gl_p (i := 5) (q := (yX2_trySet, 4)) (by decide +kernel)
theorem ok_X2_33 : g_okV RX2 33 RX2 yX2_trySet cX2_trySet 6 none 2 := ⟨mc_X2_trySet, ml_X2_33, mi_X2_trySet, ms_X2_trySet, ii_X2, by decide +kernel⟩
theorem mc_X1_isRestSound : Cond.code yX1_isRestSound cX1_isRestSound 4 (some .boolean) ∈ gl := gl_4 (i := 154) (rfl) rfl
theorem ml_X2_43 : Cond.methodLink RX2 43 yX1_isRestSound ∈ gl := gl_4 (i := 184) (by decide +kernel) rfl
theorem mi_X1_isRestSound : Cond.instanceMethod yX1_isRestSound ∈ gl := gl_4 (i := 152) (by decide +kernel) rfl
theorem ms_X1_isRestSound : Cond.selects RX1 yX1_isRestSound yX1_isRestSound ∈ gl := gl_4 (i := 153) (by decide +kernel) rfl
theorem ok_X2_43 : g_okV RX2 43 RX1 yX1_isRestSound cX1_isRestSound 4 (some .boolean) 1 := ⟨mc_X1_isRestSound, ml_X2_43, mi_X1_isRestSound, ms_X1_isRestSound, ii_X1, by decide +kernel⟩
theorem mc_X1_freeFor : Cond.code yX1_freeFor cX1_freeFor 5 (some .int) ∈ gl := gl_4 (i := 158) (rfl) rfl
theorem ml_X2_47 : Cond.methodLink RX2 47 yX1_freeFor ∈ gl := gl_4 (i := 185) (by decide +kernel) rfl
theorem mi_X1_freeFor : Cond.instanceMethod yX1_freeFor ∈ gl := gl_4 (i := 156) (by decide +kernel) rfl
theorem ms_X1_freeFor : Cond.selects RX1 yX1_freeFor yX1_freeFor ∈ gl := gl_4 (i := 157) (by decide +kernel) rfl
theorem ok_X2_47 : g_okV RX2 47 RX1 yX1_freeFor cX1_freeFor 5 (some .int) 2 := ⟨mc_X1_freeFor, ml_X2_47, mi_X1_freeFor, ms_X1_freeFor, ii_X1, by decide +kernel⟩
theorem mc_X2_isRowSound : Cond.code yX2_isRowSound cX2_isRowSound 7 (some .boolean) ∈ gl := gl_4 (i := 189) (rfl) rfl
theorem ml_X2_51 : Cond.methodLink RX2 51 yX2_isRowSound ∈ gl := gl_4 (i := 186) (by decide +kernel) rfl
theorem mi_X2_isRowSound : Cond.instanceMethod yX2_isRowSound ∈ gl := gl_4 (i := 188) (by decide +kernel) rfl
theorem ms_X2_isRowSound : Cond.selects RX2 yX2_isRowSound yX2_isRowSound ∈ gl := gl_p (i := 6) (q := (yX2_isRowSound, 4)) (by decide +kernel)
theorem ok_X2_51 : g_okV RX2 51 RX2 yX2_isRowSound cX2_isRowSound 7 (some .boolean) 3 := ⟨mc_X2_isRowSound, ml_X2_51, mi_X2_isRowSound, ms_X2_isRowSound, ii_X2, by decide +kernel⟩
theorem mc_X2_standIn : Cond.code yX2_standIn cX2_standIn 2 (some .int) ∈ gl := gl_4 (i := 192) (rfl) rfl
theorem ml_X2_55 : Cond.methodLink RX2 55 yX2_standIn ∈ gl := gl_4 (i := 190) (by decide +kernel) rfl
theorem mt_X2_standIn : Cond.static yX2_standIn ∈ gl := gl_4 (i := 191) (by decide +kernel) rfl
theorem ok_X2_55 : g_okS RX2 55 yX2_standIn cX2_standIn 2 (some .int) 2 := ⟨mc_X2_standIn, ml_X2_55, mt_X2_standIn, ii_X2, by decide +kernel⟩
theorem ml_X2_58 : Cond.methodLink RX2 58 yX0_wouldClash ∈ gl := gl_4 (i := 193) (by decide +kernel) rfl
theorem ok_X2_58 : g_okV RX2 58 RX0 yX0_wouldClash cX0_wouldClash 6 (some .boolean) 4 := ⟨mc_X0_wouldClash, ml_X2_58, mi_X0_wouldClash, ms_X0_wouldClash, ii_X0, by decide +kernel⟩
theorem ml_X3_11 : Cond.methodLink RX3 11 yX1_init ∈ gl := gl_1 (i := 168) (by decide +kernel) rfl
theorem mc_X0_isSound : Cond.code yX0_isSound cX0_isSound 2 (some .boolean) ∈ gl := gl_4 (i := 127) (rfl) rfl
theorem ml_X3_32 : Cond.methodLink RX3 32 yX0_isSound ∈ gl := gl_4 (i := 124) (by decide +kernel) rfl
theorem mi_X0_isSound : Cond.instanceMethod yX0_isSound ∈ gl := gl_4 (i := 125) (by decide +kernel) rfl
theorem ms_X0_isSound : Cond.selects RX0 yX0_isSound yX0_isSound ∈ gl := gl_4 (i := 126) (by decide +kernel) rfl
theorem ok_X3_32 : g_okV RX3 32 RX0 yX0_isSound cX0_isSound 2 (some .boolean) 0 := ⟨mc_X0_isSound, ml_X3_32, mi_X0_isSound, ms_X0_isSound, ii_X0, by decide +kernel⟩
theorem ml_X3_38 : Cond.methodLink RX3 38 yX1_lookAt ∈ gl := gl_4 (i := 128) (by decide +kernel) rfl
theorem ok_X3_38 : g_okV RX3 38 RX1 yX1_lookAt cX1_lookAt 3 none 1 := ⟨mc_X1_lookAt, ml_X3_38, mi_X1_lookAt, ms_X1_lookAt, ii_X1, by decide +kernel⟩
theorem mc_X3_chooseStays : Cond.code yX3_chooseStays cX3_chooseStays 5 (some .boolean) ∈ gl := gl_4 (i := 146) (rfl) rfl
theorem ml_X3_42 : Cond.methodLink RX3 42 yX3_chooseStays ∈ gl := gl_4 (i := 144) (by decide +kernel) rfl
theorem mt_X3_chooseStays : Cond.static yX3_chooseStays ∈ gl := gl_4 (i := 145) (by decide +kernel) rfl
theorem ok_X3_42 : g_okS RX3 42 yX3_chooseStays cX3_chooseStays 5 (some .boolean) 4 := ⟨mc_X3_chooseStays, ml_X3_42, mt_X3_chooseStays, ii_X3, by decide +kernel⟩
theorem mc_X3_canBeMoved : Cond.code yX3_canBeMoved cX3_canBeMoved 3 (some .boolean) ∈ gl := gl_4 (i := 150) (rfl) rfl
theorem ml_X3_46 : Cond.methodLink RX3 46 yX3_canBeMoved ∈ gl := gl_4 (i := 147) (by decide +kernel) rfl
theorem mi_X3_canBeMoved : Cond.instanceMethod yX3_canBeMoved ∈ gl := gl_4 (i := 149) (by decide +kernel) rfl
theorem ms_X3_canBeMoved : Cond.selects RX3 yX3_canBeMoved yX3_canBeMoved ∈ gl := gl_p (i := 3) (q := (yX3_canBeMoved, 5)) (by decide +kernel)
theorem ok_X3_46 : g_okV RX3 46 RX3 yX3_canBeMoved cX3_canBeMoved 3 (some .boolean) 0 := ⟨mc_X3_canBeMoved, ml_X3_46, mi_X3_canBeMoved, ms_X3_canBeMoved, ii_X3, by decide +kernel⟩
theorem mc_X3_chooseStands : Cond.code yX3_chooseStands cX3_chooseStands 4 (some .boolean) ∈ gl := gl_4 (i := 161) (rfl) rfl
theorem ml_X3_49 : Cond.methodLink RX3 49 yX3_chooseStands ∈ gl := gl_4 (i := 159) (by decide +kernel) rfl
theorem mt_X3_chooseStands : Cond.static yX3_chooseStands ∈ gl := gl_4 (i := 160) (by decide +kernel) rfl
theorem ok_X3_49 : g_okS RX3 49 yX3_chooseStands cX3_chooseStands 4 (some .boolean) 3 := ⟨mc_X3_chooseStands, ml_X3_49, mt_X3_chooseStands, ii_X3, by decide +kernel⟩
theorem ml_X3_59 : Cond.methodLink RX3 59 yX1_isRestSound ∈ gl := gl_4 (i := 151) (by decide +kernel) rfl
theorem ok_X3_59 : g_okV RX3 59 RX1 yX1_isRestSound cX1_isRestSound 4 (some .boolean) 1 := ⟨mc_X1_isRestSound, ml_X3_59, mi_X1_isRestSound, ms_X1_isRestSound, ii_X1, by decide +kernel⟩
theorem ml_X3_63 : Cond.methodLink RX3 63 yX1_freeFor ∈ gl := gl_4 (i := 155) (by decide +kernel) rfl
theorem ok_X3_63 : g_okV RX3 63 RX1 yX1_freeFor cX1_freeFor 5 (some .int) 2 := ⟨mc_X1_freeFor, ml_X3_63, mi_X1_freeFor, ms_X1_freeFor, ii_X1, by decide +kernel⟩
theorem mc_X3_agreesWithEarlier : Cond.code yX3_agreesWithEarlier cX3_agreesWithEarlier 5 (some .boolean) ∈ gl := gl_4 (i := 165) (rfl) rfl
theorem ml_X3_67 : Cond.methodLink RX3 67 yX3_agreesWithEarlier ∈ gl := gl_4 (i := 162) (by decide +kernel) rfl
theorem mi_X3_agreesWithEarlier : Cond.instanceMethod yX3_agreesWithEarlier ∈ gl := gl_4 (i := 164) (by decide +kernel) rfl
theorem ms_X3_agreesWithEarlier : Cond.selects RX3 yX3_agreesWithEarlier yX3_agreesWithEarlier ∈ gl := gl_p (i := 4) (q := (yX3_agreesWithEarlier, 5)) (by decide +kernel)
theorem ok_X3_67 : g_okV RX3 67 RX3 yX3_agreesWithEarlier cX3_agreesWithEarlier 5 (some .boolean) 3 := ⟨mc_X3_agreesWithEarlier, ml_X3_67, mi_X3_agreesWithEarlier, ms_X3_agreesWithEarlier, ii_X3, by decide +kernel⟩
theorem ml_X3_71 : Cond.methodLink RX3 71 yX0_wouldClash ∈ gl := gl_4 (i := 166) (by decide +kernel) rfl
theorem ok_X3_71 : g_okV RX3 71 RX0 yX0_wouldClash cX0_wouldClash 6 (some .boolean) 4 := ⟨mc_X0_wouldClash, ml_X3_71, mi_X0_wouldClash, ms_X0_wouldClash, ii_X0, by decide +kernel⟩
theorem ml_X4_17 : Cond.methodLink RX4 17 yX0_init ∈ gl := gl_1 (i := 118) (by decide +kernel) rfl
theorem ml_X4_25 : Cond.methodLink RX4 25 yX0_copyFrom ∈ gl := gl_2 (i := 52) (by decide +kernel) rfl
theorem ok_X4_25 : g_okV RX4 25 RX0 yX0_copyFrom cX0_copyFrom 2 none 1 := ⟨mc_X0_copyFrom, ml_X4_25, mi_X0_copyFrom, ms_X0_copyFrom, ii_X0, by decide +kernel⟩
theorem ml_X5_26 : Cond.methodLink RX5 26 yX5_goToStart ∈ gl := gl_5 (i := 36) (by decide +kernel) rfl
theorem ok_X5_26 : g_okV RX5 26 RX5 yX5_goToStart cX5_goToStart 1 none 0 := ⟨mc_X5_goToStart, ml_X5_26, mi_X5_goToStart, ms_X5_goToStart, ii_X5, by decide +kernel⟩
theorem ml_X5_29 : Cond.methodLink RX5 29 yX5_readEntry ∈ gl := gl_5 (i := 40) (by decide +kernel) rfl
theorem ok_X5_29 : g_okV RX5 29 RX5 yX5_readEntry cX5_readEntry 3 (some .boolean) 0 := ⟨mc_X5_readEntry, ml_X5_29, mi_X5_readEntry, ms_X5_readEntry, ii_X5, by decide +kernel⟩
theorem mc_X5_shapeOf : Cond.code yX5_shapeOf cX5_shapeOf 1 (some (.object "java/lang/String")) ∈ gl := gl_5 (i := 46) (rfl) rfl
theorem ml_X5_37 : Cond.methodLink RX5 37 yX5_shapeOf ∈ gl := gl_5 (i := 44) (by decide +kernel) rfl
theorem mt_X5_shapeOf : Cond.static yX5_shapeOf ∈ gl := gl_5 (i := 45) (by decide +kernel) rfl
theorem ok_X5_37 : g_okS RX5 37 yX5_shapeOf cX5_shapeOf 1 (some (.object "java/lang/String")) 1 := ⟨mc_X5_shapeOf, ml_X5_37, mt_X5_shapeOf, ii_X5, by decide +kernel⟩
theorem mc_J0_isEmpty_aae02 : Cond.code yJ0_isEmpty_aae02 cJ0_isEmpty_aae02 1 (some .boolean) ∈ gl := gl_5 (i := 56) (rfl) rfl
theorem ml_X5_41 : Cond.methodLink RX5 41 yJ0_isEmpty_aae02 ∈ gl := gl_5 (i := 53) (by decide +kernel) rfl
theorem ii_J0 : Cond.initialized RJ0 ∈ gl := gl_1 (i := 18) (by decide +kernel) rfl
theorem mi_J0_isEmpty_aae02 : Cond.instanceMethod yJ0_isEmpty_aae02 ∈ gl := gl_5 (i := 54) (by decide +kernel) rfl
theorem ms_J0_isEmpty_aae02 : Cond.selects RJ0 yJ0_isEmpty_aae02 yJ0_isEmpty_aae02 ∈ gl := gl_5 (i := 55) (by decide +kernel) rfl
theorem ok_X5_41 : g_okV RX5 41 RJ0 yJ0_isEmpty_aae02 cJ0_isEmpty_aae02 1 (some .boolean) 0 := ⟨mc_J0_isEmpty_aae02, ml_X5_41, mi_J0_isEmpty_aae02, ms_J0_isEmpty_aae02, ii_J0, by decide +kernel⟩
theorem mc_J0_length_8abf5 : Cond.code yJ0_length_8abf5 cJ0_length_8abf5 1 (some .int) ∈ gl := gl_5 (i := 60) (rfl) rfl
theorem ml_X5_49 : Cond.methodLink RX5 49 yJ0_length_8abf5 ∈ gl := gl_5 (i := 57) (by decide +kernel) rfl
theorem mi_J0_length_8abf5 : Cond.instanceMethod yJ0_length_8abf5 ∈ gl := gl_5 (i := 58) (by decide +kernel) rfl
theorem ms_J0_length_8abf5 : Cond.selects RJ0 yJ0_length_8abf5 yJ0_length_8abf5 ∈ gl := gl_5 (i := 59) (by decide +kernel) rfl
theorem ok_X5_49 : g_okV RX5 49 RJ0 yJ0_length_8abf5 cJ0_length_8abf5 1 (some .int) 0 := ⟨mc_J0_length_8abf5, ml_X5_49, mi_J0_length_8abf5, ms_J0_length_8abf5, ii_J0, by decide +kernel⟩
theorem mc_J0_charAt_5068e : Cond.code yJ0_charAt_5068e cJ0_charAt_5068e 2 (some .char) ∈ gl := gl_5 (i := 70) (rfl) rfl
theorem ml_X5_52 : Cond.methodLink RX5 52 yJ0_charAt_5068e ∈ gl := gl_5 (i := 67) (by decide +kernel) rfl
theorem mi_J0_charAt_5068e : Cond.instanceMethod yJ0_charAt_5068e ∈ gl := gl_5 (i := 68) (by decide +kernel) rfl
theorem ms_J0_charAt_5068e : Cond.selects RJ0 yJ0_charAt_5068e yJ0_charAt_5068e ∈ gl := gl_5 (i := 69) (by decide +kernel) rfl
theorem ok_X5_52 : g_okV RX5 52 RJ0 yJ0_charAt_5068e cJ0_charAt_5068e 2 (some .char) 1 := ⟨mc_J0_charAt_5068e, ml_X5_52, mi_J0_charAt_5068e, ms_J0_charAt_5068e, ii_J0, by decide +kernel⟩
theorem mc_X5_readSign : Cond.code yX5_readSign cX5_readSign 2 (some .boolean) ∈ gl := gl_5 (i := 108) (rfl) rfl
theorem ml_X5_56 : Cond.methodLink RX5 56 yX5_readSign ∈ gl := gl_5 (i := 105) (by decide +kernel) rfl
theorem mi_X5_readSign : Cond.instanceMethod yX5_readSign ∈ gl := gl_5 (i := 107) (by decide +kernel) rfl
theorem ms_X5_readSign : Cond.selects RX5 yX5_readSign yX5_readSign ∈ gl := gl_p (i := 7) (q := (yX5_readSign, 6)) (by decide +kernel)
theorem ok_X5_56 : g_okV RX5 56 RX5 yX5_readSign cX5_readSign 2 (some .boolean) 1 := ⟨mc_X5_readSign, ml_X5_56, mi_X5_readSign, ms_X5_readSign, ii_X5, by decide +kernel⟩
theorem mc_X5_readNumber : Cond.code yX5_readNumber cX5_readNumber 4 (some .boolean) ∈ gl := gl_5 (i := 112) (rfl) rfl
theorem ml_X5_72 : Cond.methodLink RX5 72 yX5_readNumber ∈ gl := gl_5 (i := 109) (by decide +kernel) rfl
theorem mi_X5_readNumber : Cond.instanceMethod yX5_readNumber ∈ gl := gl_5 (i := 111) (by decide +kernel) rfl
theorem ms_X5_readNumber : Cond.selects RX5 yX5_readNumber yX5_readNumber ∈ gl := gl_p (i := 8) (q := (yX5_readNumber, 6)) (by decide +kernel)
theorem ok_X5_72 : g_okV RX5 72 RX5 yX5_readNumber cX5_readNumber 4 (some .boolean) 1 := ⟨mc_X5_readNumber, ml_X5_72, mi_X5_readNumber, ms_X5_readNumber, ii_X5, by decide +kernel⟩
theorem mc_X5_isDigitNext : Cond.code yX5_isDigitNext cX5_isDigitNext 1 (some .boolean) ∈ gl := gl_5 (i := 116) (rfl) rfl
theorem ml_X5_76 : Cond.methodLink RX5 76 yX5_isDigitNext ∈ gl := gl_5 (i := 113) (by decide +kernel) rfl
theorem mi_X5_isDigitNext : Cond.instanceMethod yX5_isDigitNext ∈ gl := gl_5 (i := 115) (by decide +kernel) rfl
theorem ms_X5_isDigitNext : Cond.selects RX5 yX5_isDigitNext yX5_isDigitNext ∈ gl := gl_p (i := 9) (q := (yX5_isDigitNext, 6)) (by decide +kernel)
theorem ok_X5_76 : g_okV RX5 76 RX5 yX5_isDigitNext cX5_isDigitNext 1 (some .boolean) 0 := ⟨mc_X5_isDigitNext, ml_X5_76, mi_X5_isDigitNext, ms_X5_isDigitNext, ii_X5, by decide +kernel⟩
theorem mc_X6_addStand : Cond.code yX6_addStand cX6_addStand 3 (some .int) ∈ gl := gl_2 (i := 160) (rfl) rfl
theorem ml_L_7 : Cond.methodLink RL 7 yX6_addStand ∈ gl := gl_2 (i := 157) (by decide +kernel) rfl
theorem mi_X6_addStand : Cond.instanceMethod yX6_addStand ∈ gl := gl_2 (i := 158) (by decide +kernel) rfl
theorem ms_X6_addStand : Cond.selects RX6 yX6_addStand yX6_addStand ∈ gl := gl_2 (i := 159) (by decide +kernel) rfl
theorem ok_L_7 : g_okV RL 7 RX6 yX6_addStand cX6_addStand 3 (some .int) 2 := ⟨mc_X6_addStand, ml_L_7, mi_X6_addStand, ms_X6_addStand, ii_X6, by decide +kernel⟩
theorem mc_X6_pair : Cond.code yX6_pair cX6_pair 4 (some .int) ∈ gl := gl_3 (i := 43) (rfl) rfl
theorem ml_L_17 : Cond.methodLink RL 17 yX6_pair ∈ gl := gl_3 (i := 40) (by decide +kernel) rfl
theorem mi_X6_pair : Cond.instanceMethod yX6_pair ∈ gl := gl_3 (i := 41) (by decide +kernel) rfl
theorem ms_X6_pair : Cond.selects RX6 yX6_pair yX6_pair ∈ gl := gl_3 (i := 42) (by decide +kernel) rfl
theorem ok_L_17 : g_okV RL 17 RX6 yX6_pair cX6_pair 4 (some .int) 3 := ⟨mc_X6_pair, ml_L_17, mi_X6_pair, ms_X6_pair, ii_X6, by decide +kernel⟩
theorem mc_X6_setOpen : Cond.code yX6_setOpen cX6_setOpen 3 (some .boolean) ∈ gl := gl_3 (i := 72) (rfl) rfl
theorem ml_L_23 : Cond.methodLink RL 23 yX6_setOpen ∈ gl := gl_3 (i := 69) (by decide +kernel) rfl
theorem mi_X6_setOpen : Cond.instanceMethod yX6_setOpen ∈ gl := gl_3 (i := 70) (by decide +kernel) rfl
theorem ms_X6_setOpen : Cond.selects RX6 yX6_setOpen yX6_setOpen ∈ gl := gl_3 (i := 71) (by decide +kernel) rfl
theorem ok_L_23 : g_okV RL 23 RX6 yX6_setOpen cX6_setOpen 3 (some .boolean) 2 := ⟨mc_X6_setOpen, ml_L_23, mi_X6_setOpen, ms_X6_setOpen, ii_X6, by decide +kernel⟩
theorem mc_X6_setBuffer : Cond.code yX6_setBuffer cX6_setBuffer 3 (some .int) ∈ gl := gl_3 (i := 83) (rfl) rfl
theorem ml_L_27 : Cond.methodLink RL 27 yX6_setBuffer ∈ gl := gl_3 (i := 80) (by decide +kernel) rfl
theorem mi_X6_setBuffer : Cond.instanceMethod yX6_setBuffer ∈ gl := gl_3 (i := 81) (by decide +kernel) rfl
theorem ms_X6_setBuffer : Cond.selects RX6 yX6_setBuffer yX6_setBuffer ∈ gl := gl_3 (i := 82) (by decide +kernel) rfl
theorem ok_L_27 : g_okV RL 27 RX6 yX6_setBuffer cX6_setBuffer 3 (some .int) 1 := ⟨mc_X6_setBuffer, ml_L_27, mi_X6_setBuffer, ms_X6_setBuffer, ii_X6, by decide +kernel⟩
theorem mc_X6_stand : Cond.code yX6_stand cX6_stand 3 (some .int) ∈ gl := gl_3 (i := 91) (rfl) rfl
theorem ml_L_31 : Cond.methodLink RL 31 yX6_stand ∈ gl := gl_3 (i := 88) (by decide +kernel) rfl
theorem mi_X6_stand : Cond.instanceMethod yX6_stand ∈ gl := gl_3 (i := 89) (by decide +kernel) rfl
theorem ms_X6_stand : Cond.selects RX6 yX6_stand yX6_stand ∈ gl := gl_3 (i := 90) (by decide +kernel) rfl
theorem ok_L_31 : g_okV RL 31 RX6 yX6_stand cX6_stand 3 (some .int) 2 := ⟨mc_X6_stand, ml_L_31, mi_X6_stand, ms_X6_stand, ii_X6, by decide +kernel⟩
theorem mc_X6_at : Cond.code yX6_at cX6_at 4 (some .int) ∈ gl := gl_3 (i := 123) (rfl) rfl
theorem ml_L_34 : Cond.methodLink RL 34 yX6_at ∈ gl := gl_3 (i := 120) (by decide +kernel) rfl
theorem mi_X6_at : Cond.instanceMethod yX6_at ∈ gl := gl_3 (i := 121) (by decide +kernel) rfl
theorem ms_X6_at : Cond.selects RX6 yX6_at yX6_at ∈ gl := gl_3 (i := 122) (by decide +kernel) rfl
theorem ok_L_34 : g_okV RL 34 RX6 yX6_at cX6_at 4 (some .int) 2 := ⟨mc_X6_at, ml_L_34, mi_X6_at, ms_X6_at, ii_X6, by decide +kernel⟩
theorem mc_X6_gap : Cond.code yX6_gap cX6_gap 3 (some .int) ∈ gl := gl_3 (i := 151) (rfl) rfl
theorem ml_L_39 : Cond.methodLink RL 39 yX6_gap ∈ gl := gl_3 (i := 148) (by decide +kernel) rfl
theorem mi_X6_gap : Cond.instanceMethod yX6_gap ∈ gl := gl_3 (i := 149) (by decide +kernel) rfl
theorem ms_X6_gap : Cond.selects RX6 yX6_gap yX6_gap ∈ gl := gl_3 (i := 150) (by decide +kernel) rfl
theorem ok_L_39 : g_okV RL 39 RX6 yX6_gap cX6_gap 3 (some .int) 2 := ⟨mc_X6_gap, ml_L_39, mi_X6_gap, ms_X6_gap, ii_X6, by decide +kernel⟩
theorem mc_X6_addTurn : Cond.code yX6_addTurn cX6_addTurn 5 (some .int) ∈ gl := gl_3 (i := 166) (rfl) rfl
theorem ml_L_42 : Cond.methodLink RL 42 yX6_addTurn ∈ gl := gl_3 (i := 163) (by decide +kernel) rfl
theorem mi_X6_addTurn : Cond.instanceMethod yX6_addTurn ∈ gl := gl_3 (i := 164) (by decide +kernel) rfl
theorem ms_X6_addTurn : Cond.selects RX6 yX6_addTurn yX6_addTurn ∈ gl := gl_3 (i := 165) (by decide +kernel) rfl
theorem ok_L_42 : g_okV RL 42 RX6 yX6_addTurn cX6_addTurn 5 (some .int) 4 := ⟨mc_X6_addTurn, ml_L_42, mi_X6_addTurn, ms_X6_addTurn, ii_X6, by decide +kernel⟩
theorem mc_X6_turn : Cond.code yX6_turn cX6_turn 3 (some .int) ∈ gl := gl_3 (i := 184) (rfl) rfl
theorem ml_L_46 : Cond.methodLink RL 46 yX6_turn ∈ gl := gl_3 (i := 181) (by decide +kernel) rfl
theorem mi_X6_turn : Cond.instanceMethod yX6_turn ∈ gl := gl_3 (i := 182) (by decide +kernel) rfl
theorem ms_X6_turn : Cond.selects RX6 yX6_turn yX6_turn ∈ gl := gl_3 (i := 183) (by decide +kernel) rfl
theorem ok_L_46 : g_okV RL 46 RX6 yX6_turn cX6_turn 3 (some .int) 2 := ⟨mc_X6_turn, ml_L_46, mi_X6_turn, ms_X6_turn, ii_X6, by decide +kernel⟩
theorem mc_X6_ofStay : Cond.code yX6_ofStay cX6_ofStay 5 (some .int) ∈ gl := gl_3 (i := 208) (rfl) rfl
theorem ml_L_49 : Cond.methodLink RL 49 yX6_ofStay ∈ gl := gl_3 (i := 205) (by decide +kernel) rfl
theorem mi_X6_ofStay : Cond.instanceMethod yX6_ofStay ∈ gl := gl_3 (i := 206) (by decide +kernel) rfl
theorem ms_X6_ofStay : Cond.selects RX6 yX6_ofStay yX6_ofStay ∈ gl := gl_3 (i := 207) (by decide +kernel) rfl
theorem ok_L_49 : g_okV RL 49 RX6 yX6_ofStay cX6_ofStay 5 (some .int) 3 := ⟨mc_X6_ofStay, ml_L_49, mi_X6_ofStay, ms_X6_ofStay, ii_X6, by decide +kernel⟩
theorem mc_X6_place : Cond.code yX6_place cX6_place 7 (some .int) ∈ gl := gl_3 (i := 224) (rfl) rfl
theorem ml_L_52 : Cond.methodLink RL 52 yX6_place ∈ gl := gl_3 (i := 221) (by decide +kernel) rfl
theorem mi_X6_place : Cond.instanceMethod yX6_place ∈ gl := gl_3 (i := 222) (by decide +kernel) rfl
theorem ms_X6_place : Cond.selects RX6 yX6_place yX6_place ∈ gl := gl_3 (i := 223) (by decide +kernel) rfl
theorem ok_L_52 : g_okV RL 52 RX6 yX6_place cX6_place 7 (some .int) 3 := ⟨mc_X6_place, ml_L_52, mi_X6_place, ms_X6_place, ii_X6, by decide +kernel⟩
theorem mc_X6_whyNot : Cond.code yX6_whyNot cX6_whyNot 4 (some .int) ∈ gl := gl_4 (i := 9) (rfl) rfl
theorem ml_L_57 : Cond.methodLink RL 57 yX6_whyNot ∈ gl := gl_4 (i := 6) (by decide +kernel) rfl
theorem mi_X6_whyNot : Cond.instanceMethod yX6_whyNot ∈ gl := gl_4 (i := 7) (by decide +kernel) rfl
theorem ms_X6_whyNot : Cond.selects RX6 yX6_whyNot yX6_whyNot ∈ gl := gl_4 (i := 8) (by decide +kernel) rfl
theorem ok_L_57 : g_okV RL 57 RX6 yX6_whyNot cX6_whyNot 4 (some .int) 3 := ⟨mc_X6_whyNot, ml_L_57, mi_X6_whyNot, ms_X6_whyNot, ii_X6, by decide +kernel⟩
theorem mc_X6_options : Cond.code yX6_options cX6_options 3 (some .int) ∈ gl := gl_4 (i := 16) (rfl) rfl
theorem ml_L_60 : Cond.methodLink RL 60 yX6_options ∈ gl := gl_4 (i := 13) (by decide +kernel) rfl
theorem mi_X6_options : Cond.instanceMethod yX6_options ∈ gl := gl_4 (i := 14) (by decide +kernel) rfl
theorem ms_X6_options : Cond.selects RX6 yX6_options yX6_options ∈ gl := gl_4 (i := 15) (by decide +kernel) rfl
theorem ok_L_60 : g_okV RL 60 RX6 yX6_options cX6_options 3 (some .int) 2 := ⟨mc_X6_options, ml_L_60, mi_X6_options, ms_X6_options, ii_X6, by decide +kernel⟩
theorem mc_X6_cheapest : Cond.code yX6_cheapest cX6_cheapest 4 (some .int) ∈ gl := gl_4 (i := 27) (rfl) rfl
theorem ml_L_63 : Cond.methodLink RL 63 yX6_cheapest ∈ gl := gl_4 (i := 24) (by decide +kernel) rfl
theorem mi_X6_cheapest : Cond.instanceMethod yX6_cheapest ∈ gl := gl_4 (i := 25) (by decide +kernel) rfl
theorem ms_X6_cheapest : Cond.selects RX6 yX6_cheapest yX6_cheapest ∈ gl := gl_4 (i := 26) (by decide +kernel) rfl
theorem ok_L_63 : g_okV RL 63 RX6 yX6_cheapest cX6_cheapest 4 (some .int) 2 := ⟨mc_X6_cheapest, ml_L_63, mi_X6_cheapest, ms_X6_cheapest, ii_X6, by decide +kernel⟩
theorem mc_X6_lift : Cond.code yX6_lift cX6_lift 5 (some .int) ∈ gl := gl_4 (i := 36) (rfl) rfl
theorem ml_L_66 : Cond.methodLink RL 66 yX6_lift ∈ gl := gl_4 (i := 33) (by decide +kernel) rfl
theorem mi_X6_lift : Cond.instanceMethod yX6_lift ∈ gl := gl_4 (i := 34) (by decide +kernel) rfl
theorem ms_X6_lift : Cond.selects RX6 yX6_lift yX6_lift ∈ gl := gl_4 (i := 35) (by decide +kernel) rfl
theorem ok_L_66 : g_okV RL 66 RX6 yX6_lift cX6_lift 5 (some .int) 2 := ⟨mc_X6_lift, ml_L_66, mi_X6_lift, ms_X6_lift, ii_X6, by decide +kernel⟩
theorem mc_X6_reason : Cond.code yX6_reason cX6_reason 1 (some .int) ∈ gl := gl_4 (i := 44) (rfl) rfl
theorem ml_L_69 : Cond.methodLink RL 69 yX6_reason ∈ gl := gl_4 (i := 41) (by decide +kernel) rfl
theorem mi_X6_reason : Cond.instanceMethod yX6_reason ∈ gl := gl_4 (i := 42) (by decide +kernel) rfl
theorem ms_X6_reason : Cond.selects RX6 yX6_reason yX6_reason ∈ gl := gl_4 (i := 43) (by decide +kernel) rfl
theorem ok_L_69 : g_okV RL 69 RX6 yX6_reason cX6_reason 1 (some .int) 0 := ⟨mc_X6_reason, ml_L_69, mi_X6_reason, ms_X6_reason, ii_X6, by decide +kernel⟩
theorem mc_X6_tow : Cond.code yX6_tow cX6_tow 3 (some .int) ∈ gl := gl_4 (i := 52) (rfl) rfl
theorem ml_L_73 : Cond.methodLink RL 73 yX6_tow ∈ gl := gl_4 (i := 49) (by decide +kernel) rfl
theorem mi_X6_tow : Cond.instanceMethod yX6_tow ∈ gl := gl_4 (i := 50) (by decide +kernel) rfl
theorem ms_X6_tow : Cond.selects RX6 yX6_tow yX6_tow ∈ gl := gl_4 (i := 51) (by decide +kernel) rfl
theorem ok_L_73 : g_okV RL 73 RX6 yX6_tow cX6_tow 3 (some .int) 2 := ⟨mc_X6_tow, ml_L_73, mi_X6_tow, ms_X6_tow, ii_X6, by decide +kernel⟩
theorem mc_X6_untow : Cond.code yX6_untow cX6_untow 2 (some .int) ∈ gl := gl_4 (i := 70) (rfl) rfl
theorem ml_L_76 : Cond.methodLink RL 76 yX6_untow ∈ gl := gl_4 (i := 67) (by decide +kernel) rfl
theorem mi_X6_untow : Cond.instanceMethod yX6_untow ∈ gl := gl_4 (i := 68) (by decide +kernel) rfl
theorem ms_X6_untow : Cond.selects RX6 yX6_untow yX6_untow ∈ gl := gl_4 (i := 69) (by decide +kernel) rfl
theorem ok_L_76 : g_okV RL 76 RX6 yX6_untow cX6_untow 2 (some .int) 1 := ⟨mc_X6_untow, ml_L_76, mi_X6_untow, ms_X6_untow, ii_X6, by decide +kernel⟩
theorem mc_X6_delay : Cond.code yX6_delay cX6_delay 3 (some .int) ∈ gl := gl_4 (i := 82) (rfl) rfl
theorem ml_L_79 : Cond.methodLink RL 79 yX6_delay ∈ gl := gl_4 (i := 79) (by decide +kernel) rfl
theorem mi_X6_delay : Cond.instanceMethod yX6_delay ∈ gl := gl_4 (i := 80) (by decide +kernel) rfl
theorem ms_X6_delay : Cond.selects RX6 yX6_delay yX6_delay ∈ gl := gl_4 (i := 81) (by decide +kernel) rfl
theorem ok_L_79 : g_okV RL 79 RX6 yX6_delay cX6_delay 3 (some .int) 2 := ⟨mc_X6_delay, ml_L_79, mi_X6_delay, ms_X6_delay, ii_X6, by decide +kernel⟩
theorem mc_X6_towGain : Cond.code yX6_towGain cX6_towGain 4 (some .int) ∈ gl := gl_4 (i := 107) (rfl) rfl
theorem ml_L_82 : Cond.methodLink RL 82 yX6_towGain ∈ gl := gl_4 (i := 104) (by decide +kernel) rfl
theorem mi_X6_towGain : Cond.instanceMethod yX6_towGain ∈ gl := gl_4 (i := 105) (by decide +kernel) rfl
theorem ms_X6_towGain : Cond.selects RX6 yX6_towGain yX6_towGain ∈ gl := gl_4 (i := 106) (by decide +kernel) rfl
theorem ok_L_82 : g_okV RL 82 RX6 yX6_towGain cX6_towGain 4 (some .int) 2 := ⟨mc_X6_towGain, ml_L_82, mi_X6_towGain, ms_X6_towGain, ii_X6, by decide +kernel⟩
theorem mc_X6_leastMoves : Cond.code yX6_leastMoves cX6_leastMoves 1 (some .int) ∈ gl := gl_4 (i := 119) (rfl) rfl
theorem ml_L_85 : Cond.methodLink RL 85 yX6_leastMoves ∈ gl := gl_4 (i := 116) (by decide +kernel) rfl
theorem mi_X6_leastMoves : Cond.instanceMethod yX6_leastMoves ∈ gl := gl_4 (i := 117) (by decide +kernel) rfl
theorem ms_X6_leastMoves : Cond.selects RX6 yX6_leastMoves yX6_leastMoves ∈ gl := gl_4 (i := 118) (by decide +kernel) rfl
theorem ok_L_85 : g_okV RL 85 RX6 yX6_leastMoves cX6_leastMoves 1 (some .int) 0 := ⟨mc_X6_leastMoves, ml_L_85, mi_X6_leastMoves, ms_X6_leastMoves, ii_X6, by decide +kernel⟩
theorem mc_X6_leastAgain : Cond.code yX6_leastAgain cX6_leastAgain 2 (some .int) ∈ gl := gl_4 (i := 174) (rfl) rfl
theorem ml_L_88 : Cond.methodLink RL 88 yX6_leastAgain ∈ gl := gl_4 (i := 171) (by decide +kernel) rfl
theorem mi_X6_leastAgain : Cond.instanceMethod yX6_leastAgain ∈ gl := gl_4 (i := 172) (by decide +kernel) rfl
theorem ms_X6_leastAgain : Cond.selects RX6 yX6_leastAgain yX6_leastAgain ∈ gl := gl_4 (i := 173) (by decide +kernel) rfl
theorem ok_L_88 : g_okV RL 88 RX6 yX6_leastAgain cX6_leastAgain 2 (some .int) 0 := ⟨mc_X6_leastAgain, ml_L_88, mi_X6_leastAgain, ms_X6_leastAgain, ii_X6, by decide +kernel⟩
theorem mc_X6_moveOf : Cond.code yX6_moveOf cX6_moveOf 3 (some .int) ∈ gl := gl_4 (i := 200) (rfl) rfl
theorem ml_L_91 : Cond.methodLink RL 91 yX6_moveOf ∈ gl := gl_4 (i := 197) (by decide +kernel) rfl
theorem mi_X6_moveOf : Cond.instanceMethod yX6_moveOf ∈ gl := gl_4 (i := 198) (by decide +kernel) rfl
theorem ms_X6_moveOf : Cond.selects RX6 yX6_moveOf yX6_moveOf ∈ gl := gl_4 (i := 199) (by decide +kernel) rfl
theorem ok_L_91 : g_okV RL 91 RX6 yX6_moveOf cX6_moveOf 3 (some .int) 2 := ⟨mc_X6_moveOf, ml_L_91, mi_X6_moveOf, ms_X6_moveOf, ii_X6, by decide +kernel⟩
theorem mc_X6_repair : Cond.code yX6_repair cX6_repair 2 (some .int) ∈ gl := gl_4 (i := 208) (rfl) rfl
theorem ml_L_95 : Cond.methodLink RL 95 yX6_repair ∈ gl := gl_4 (i := 205) (by decide +kernel) rfl
theorem mi_X6_repair : Cond.instanceMethod yX6_repair ∈ gl := gl_4 (i := 206) (by decide +kernel) rfl
theorem ms_X6_repair : Cond.selects RX6 yX6_repair yX6_repair ∈ gl := gl_4 (i := 207) (by decide +kernel) rfl
theorem ok_L_95 : g_okV RL 95 RX6 yX6_repair cX6_repair 2 (some .int) 0 := ⟨mc_X6_repair, ml_L_95, mi_X6_repair, ms_X6_repair, ii_X6, by decide +kernel⟩
theorem mc_X6_account : Cond.code yX6_account cX6_account 2 (some .int) ∈ gl := gl_4 (i := 215) (rfl) rfl
theorem ml_L_98 : Cond.methodLink RL 98 yX6_account ∈ gl := gl_4 (i := 212) (by decide +kernel) rfl
theorem mi_X6_account : Cond.instanceMethod yX6_account ∈ gl := gl_4 (i := 213) (by decide +kernel) rfl
theorem ms_X6_account : Cond.selects RX6 yX6_account yX6_account ∈ gl := gl_4 (i := 214) (by decide +kernel) rfl
theorem ok_L_98 : g_okV RL 98 RX6 yX6_account cX6_account 2 (some .int) 1 := ⟨mc_X6_account, ml_L_98, mi_X6_account, ms_X6_account, ii_X6, by decide +kernel⟩
theorem mc_X6_meanCost : Cond.code yX6_meanCost cX6_meanCost 2 (some .float) ∈ gl := gl_5 (i := 8) (rfl) rfl
theorem ml_L_101 : Cond.methodLink RL 101 yX6_meanCost ∈ gl := gl_5 (i := 5) (by decide +kernel) rfl
theorem mi_X6_meanCost : Cond.instanceMethod yX6_meanCost ∈ gl := gl_5 (i := 6) (by decide +kernel) rfl
theorem ms_X6_meanCost : Cond.selects RX6 yX6_meanCost yX6_meanCost ∈ gl := gl_5 (i := 7) (by decide +kernel) rfl
theorem ok_L_101 : g_okV RL 101 RX6 yX6_meanCost cX6_meanCost 2 (some .float) 0 := ⟨mc_X6_meanCost, ml_L_101, mi_X6_meanCost, ms_X6_meanCost, ii_X6, by decide +kernel⟩
theorem mc_X6_append : Cond.code yX6_append cX6_append 2 (some .int) ∈ gl := gl_5 (i := 18) (rfl) rfl
theorem ml_L_107 : Cond.methodLink RL 107 yX6_append ∈ gl := gl_5 (i := 15) (by decide +kernel) rfl
theorem mi_X6_append : Cond.instanceMethod yX6_append ∈ gl := gl_5 (i := 16) (by decide +kernel) rfl
theorem ms_X6_append : Cond.selects RX6 yX6_append yX6_append ∈ gl := gl_5 (i := 17) (by decide +kernel) rfl
theorem ok_L_107 : g_okV RL 107 RX6 yX6_append cX6_append 2 (some .int) 1 := ⟨mc_X6_append, ml_L_107, mi_X6_append, ms_X6_append, ii_X6, by decide +kernel⟩
theorem mc_X6_read : Cond.code yX6_read cX6_read 4 (some .int) ∈ gl := gl_5 (i := 31) (rfl) rfl
theorem ml_L_111 : Cond.methodLink RL 111 yX6_read ∈ gl := gl_5 (i := 28) (by decide +kernel) rfl
theorem mi_X6_read : Cond.instanceMethod yX6_read ∈ gl := gl_5 (i := 29) (by decide +kernel) rfl
theorem ms_X6_read : Cond.selects RX6 yX6_read yX6_read ∈ gl := gl_5 (i := 30) (by decide +kernel) rfl
theorem ok_L_111 : g_okV RL 111 RX6 yX6_read cX6_read 4 (some .int) 0 := ⟨mc_X6_read, ml_L_111, mi_X6_read, ms_X6_read, ii_X6, by decide +kernel⟩
theorem mc_X6_errorPosition : Cond.code yX6_errorPosition cX6_errorPosition 1 (some .int) ∈ gl := gl_5 (i := 151) (rfl) rfl
theorem ml_L_114 : Cond.methodLink RL 114 yX6_errorPosition ∈ gl := gl_5 (i := 148) (by decide +kernel) rfl
theorem mi_X6_errorPosition : Cond.instanceMethod yX6_errorPosition ∈ gl := gl_5 (i := 149) (by decide +kernel) rfl
theorem ms_X6_errorPosition : Cond.selects RX6 yX6_errorPosition yX6_errorPosition ∈ gl := gl_5 (i := 150) (by decide +kernel) rfl
theorem ok_L_114 : g_okV RL 114 RX6 yX6_errorPosition cX6_errorPosition 1 (some .int) 0 := ⟨mc_X6_errorPosition, ml_L_114, mi_X6_errorPosition, ms_X6_errorPosition, ii_X6, by decide +kernel⟩
theorem mc_X6_undo : Cond.code yX6_undo cX6_undo 1 (some .int) ∈ gl := gl_5 (i := 159) (rfl) rfl
theorem ml_L_117 : Cond.methodLink RL 117 yX6_undo ∈ gl := gl_5 (i := 156) (by decide +kernel) rfl
theorem mi_X6_undo : Cond.instanceMethod yX6_undo ∈ gl := gl_5 (i := 157) (by decide +kernel) rfl
theorem ms_X6_undo : Cond.selects RX6 yX6_undo yX6_undo ∈ gl := gl_5 (i := 158) (by decide +kernel) rfl
theorem ok_L_117 : g_okV RL 117 RX6 yX6_undo cX6_undo 1 (some .int) 0 := ⟨mc_X6_undo, ml_L_117, mi_X6_undo, ms_X6_undo, ii_X6, by decide +kernel⟩
theorem mc_X6_restore : Cond.code yX6_restore cX6_restore 1 (some .int) ∈ gl := gl_5 (i := 171) (rfl) rfl
theorem ml_L_120 : Cond.methodLink RL 120 yX6_restore ∈ gl := gl_5 (i := 168) (by decide +kernel) rfl
theorem mi_X6_restore : Cond.instanceMethod yX6_restore ∈ gl := gl_5 (i := 169) (by decide +kernel) rfl
theorem ms_X6_restore : Cond.selects RX6 yX6_restore yX6_restore ∈ gl := gl_5 (i := 170) (by decide +kernel) rfl
theorem ok_L_120 : g_okV RL 120 RX6 yX6_restore cX6_restore 1 (some .int) 0 := ⟨mc_X6_restore, ml_L_120, mi_X6_restore, ms_X6_restore, ii_X6, by decide +kernel⟩
theorem mc_X6_init : Cond.code yX6_init cX6_init 1 none ∈ gl := gl_1 (i := 31) (rfl) rfl
theorem ml_L_123 : Cond.methodLink RL 123 yX6_init ∈ gl := gl_1 (i := 29) (by decide +kernel) rfl
theorem mi_X6_init : Cond.instanceMethod yX6_init ∈ gl := gl_1 (i := 30) (by decide +kernel) rfl
theorem mc_X7_init : Cond.code yX7_init cX7_init 1 none ∈ gl := gl_5 (i := 177) (rfl) rfl
theorem ml_L_126 : Cond.methodLink RL 126 yX7_init ∈ gl := gl_5 (i := 175) (by decide +kernel) rfl
theorem ii_X7 : Cond.initialized RX7 ∈ gl := gl_1 (i := 9) (by decide +kernel) rfl
theorem mi_X7_init : Cond.instanceMethod yX7_init ∈ gl := gl_5 (i := 176) (by decide +kernel) rfl
theorem mc_X6_clear : Cond.code yX6_clear cX6_clear 2 (some .int) ∈ gl := gl_2 (i := 35) (rfl) rfl
theorem ml_L_127 : Cond.methodLink RL 127 yX6_clear ∈ gl := gl_2 (i := 32) (by decide +kernel) rfl
theorem mi_X6_clear : Cond.instanceMethod yX6_clear ∈ gl := gl_2 (i := 33) (by decide +kernel) rfl
theorem ms_X6_clear : Cond.selects RX6 yX6_clear yX6_clear ∈ gl := gl_2 (i := 34) (by decide +kernel) rfl
theorem ok_L_127 : g_okV RL 127 RX6 yX6_clear cX6_clear 2 (some .int) 0 := ⟨mc_X6_clear, ml_L_127, mi_X6_clear, ms_X6_clear, ii_X6, by decide +kernel⟩
theorem mc_X7_clear : Cond.code yX7_clear cX7_clear 2 (some .int) ∈ gl := gl_6 (i := 11) (rfl) rfl
theorem ml_L_130 : Cond.methodLink RL 130 yX7_clear ∈ gl := gl_6 (i := 8) (by decide +kernel) rfl
theorem mi_X7_clear : Cond.instanceMethod yX7_clear ∈ gl := gl_6 (i := 9) (by decide +kernel) rfl
theorem ms_X7_clear : Cond.selects RX7 yX7_clear yX7_clear ∈ gl := gl_6 (i := 10) (by decide +kernel) rfl
theorem ok_L_130 : g_okV RL 130 RX7 yX7_clear cX7_clear 2 (some .int) 0 := ⟨mc_X7_clear, ml_L_130, mi_X7_clear, ms_X7_clear, ii_X7, by decide +kernel⟩
theorem mc_X7_addStand : Cond.code yX7_addStand cX7_addStand 4 (some .int) ∈ gl := gl_6 (i := 15) (rfl) rfl
theorem ml_L_136 : Cond.methodLink RL 136 yX7_addStand ∈ gl := gl_6 (i := 12) (by decide +kernel) rfl
theorem mi_X7_addStand : Cond.instanceMethod yX7_addStand ∈ gl := gl_6 (i := 13) (by decide +kernel) rfl
theorem ms_X7_addStand : Cond.selects RX7 yX7_addStand yX7_addStand ∈ gl := gl_6 (i := 14) (by decide +kernel) rfl
theorem ok_L_136 : g_okV RL 136 RX7 yX7_addStand cX7_addStand 4 (some .int) 2 := ⟨mc_X7_addStand, ml_L_136, mi_X7_addStand, ms_X7_addStand, ii_X7, by decide +kernel⟩
theorem mc_X7_thrown : Cond.code yX7_thrown cX7_thrown 1 (some .int) ∈ gl := gl_6 (i := 7) (rfl) rfl
theorem ml_L_137 : Cond.methodLink RL 137 yX7_thrown ∈ gl := gl_6 (i := 4) (by decide +kernel) rfl
theorem mi_X7_thrown : Cond.instanceMethod yX7_thrown ∈ gl := gl_6 (i := 5) (by decide +kernel) rfl
theorem ms_X7_thrown : Cond.selects RX7 yX7_thrown yX7_thrown ∈ gl := gl_6 (i := 6) (by decide +kernel) rfl
theorem ok_L_137 : g_okV RL 137 RX7 yX7_thrown cX7_thrown 1 (some .int) 0 := ⟨mc_X7_thrown, ml_L_137, mi_X7_thrown, ms_X7_thrown, ii_X7, by decide +kernel⟩
theorem mc_X7_pair : Cond.code yX7_pair cX7_pair 5 (some .int) ∈ gl := gl_6 (i := 32) (rfl) rfl
theorem ml_L_143 : Cond.methodLink RL 143 yX7_pair ∈ gl := gl_6 (i := 29) (by decide +kernel) rfl
theorem mi_X7_pair : Cond.instanceMethod yX7_pair ∈ gl := gl_6 (i := 30) (by decide +kernel) rfl
theorem ms_X7_pair : Cond.selects RX7 yX7_pair yX7_pair ∈ gl := gl_6 (i := 31) (by decide +kernel) rfl
theorem ok_L_143 : g_okV RL 143 RX7 yX7_pair cX7_pair 5 (some .int) 3 := ⟨mc_X7_pair, ml_L_143, mi_X7_pair, ms_X7_pair, ii_X7, by decide +kernel⟩
theorem mc_X7_setOpen : Cond.code yX7_setOpen cX7_setOpen 4 (some .boolean) ∈ gl := gl_6 (i := 44) (rfl) rfl
theorem ml_L_147 : Cond.methodLink RL 147 yX7_setOpen ∈ gl := gl_6 (i := 41) (by decide +kernel) rfl
theorem mi_X7_setOpen : Cond.instanceMethod yX7_setOpen ∈ gl := gl_6 (i := 42) (by decide +kernel) rfl
theorem ms_X7_setOpen : Cond.selects RX7 yX7_setOpen yX7_setOpen ∈ gl := gl_6 (i := 43) (by decide +kernel) rfl
theorem ok_L_147 : g_okV RL 147 RX7 yX7_setOpen cX7_setOpen 4 (some .boolean) 2 := ⟨mc_X7_setOpen, ml_L_147, mi_X7_setOpen, ms_X7_setOpen, ii_X7, by decide +kernel⟩
theorem mc_X7_setBuffer : Cond.code yX7_setBuffer cX7_setBuffer 3 (some .int) ∈ gl := gl_6 (i := 48) (rfl) rfl
theorem ml_L_151 : Cond.methodLink RL 151 yX7_setBuffer ∈ gl := gl_6 (i := 45) (by decide +kernel) rfl
theorem mi_X7_setBuffer : Cond.instanceMethod yX7_setBuffer ∈ gl := gl_6 (i := 46) (by decide +kernel) rfl
theorem ms_X7_setBuffer : Cond.selects RX7 yX7_setBuffer yX7_setBuffer ∈ gl := gl_6 (i := 47) (by decide +kernel) rfl
theorem ok_L_151 : g_okV RL 151 RX7 yX7_setBuffer cX7_setBuffer 3 (some .int) 1 := ⟨mc_X7_setBuffer, ml_L_151, mi_X7_setBuffer, ms_X7_setBuffer, ii_X7, by decide +kernel⟩
theorem mc_X7_stand : Cond.code yX7_stand cX7_stand 5 (some .int) ∈ gl := gl_6 (i := 52) (rfl) rfl
theorem ml_L_154 : Cond.methodLink RL 154 yX7_stand ∈ gl := gl_6 (i := 49) (by decide +kernel) rfl
theorem mi_X7_stand : Cond.instanceMethod yX7_stand ∈ gl := gl_6 (i := 50) (by decide +kernel) rfl
theorem ms_X7_stand : Cond.selects RX7 yX7_stand yX7_stand ∈ gl := gl_6 (i := 51) (by decide +kernel) rfl
theorem ok_L_154 : g_okV RL 154 RX7 yX7_stand cX7_stand 5 (some .int) 2 := ⟨mc_X7_stand, ml_L_154, mi_X7_stand, ms_X7_stand, ii_X7, by decide +kernel⟩
theorem mc_X7_at_ : Cond.code yX7_at_ cX7_at_ 3 (some .int) ∈ gl := gl_6 (i := 107) (rfl) rfl
theorem ml_L_157 : Cond.methodLink RL 157 yX7_at_ ∈ gl := gl_6 (i := 104) (by decide +kernel) rfl
theorem mi_X7_at_ : Cond.instanceMethod yX7_at_ ∈ gl := gl_6 (i := 105) (by decide +kernel) rfl
theorem ms_X7_at_ : Cond.selects RX7 yX7_at_ yX7_at_ ∈ gl := gl_6 (i := 106) (by decide +kernel) rfl
theorem ok_L_157 : g_okV RL 157 RX7 yX7_at_ cX7_at_ 3 (some .int) 2 := ⟨mc_X7_at_, ml_L_157, mi_X7_at_, ms_X7_at_, ii_X7, by decide +kernel⟩
theorem mc_X7_gap : Cond.code yX7_gap cX7_gap 5 (some .int) ∈ gl := gl_6 (i := 115) (rfl) rfl
theorem ml_L_160 : Cond.methodLink RL 160 yX7_gap ∈ gl := gl_6 (i := 112) (by decide +kernel) rfl
theorem mi_X7_gap : Cond.instanceMethod yX7_gap ∈ gl := gl_6 (i := 113) (by decide +kernel) rfl
theorem ms_X7_gap : Cond.selects RX7 yX7_gap yX7_gap ∈ gl := gl_6 (i := 114) (by decide +kernel) rfl
theorem ok_L_160 : g_okV RL 160 RX7 yX7_gap cX7_gap 5 (some .int) 2 := ⟨mc_X7_gap, ml_L_160, mi_X7_gap, ms_X7_gap, ii_X7, by decide +kernel⟩
theorem mc_X7_addTurn : Cond.code yX7_addTurn cX7_addTurn 7 (some .int) ∈ gl := gl_6 (i := 120) (rfl) rfl
theorem ml_L_164 : Cond.methodLink RL 164 yX7_addTurn ∈ gl := gl_6 (i := 117) (by decide +kernel) rfl
theorem mi_X7_addTurn : Cond.instanceMethod yX7_addTurn ∈ gl := gl_6 (i := 118) (by decide +kernel) rfl
theorem ms_X7_addTurn : Cond.selects RX7 yX7_addTurn yX7_addTurn ∈ gl := gl_6 (i := 119) (by decide +kernel) rfl
theorem ok_L_164 : g_okV RL 164 RX7 yX7_addTurn cX7_addTurn 7 (some .int) 4 := ⟨mc_X7_addTurn, ml_L_164, mi_X7_addTurn, ms_X7_addTurn, ii_X7, by decide +kernel⟩
theorem mc_X7_turn : Cond.code yX7_turn cX7_turn 3 (some .int) ∈ gl := gl_6 (i := 124) (rfl) rfl
theorem ml_L_167 : Cond.methodLink RL 167 yX7_turn ∈ gl := gl_6 (i := 121) (by decide +kernel) rfl
theorem mi_X7_turn : Cond.instanceMethod yX7_turn ∈ gl := gl_6 (i := 122) (by decide +kernel) rfl
theorem ms_X7_turn : Cond.selects RX7 yX7_turn yX7_turn ∈ gl := gl_6 (i := 123) (by decide +kernel) rfl
theorem ok_L_167 : g_okV RL 167 RX7 yX7_turn cX7_turn 3 (some .int) 2 := ⟨mc_X7_turn, ml_L_167, mi_X7_turn, ms_X7_turn, ii_X7, by decide +kernel⟩
theorem mc_X7_ofStay : Cond.code yX7_ofStay cX7_ofStay 5 (some .int) ∈ gl := gl_6 (i := 140) (rfl) rfl
theorem ml_L_170 : Cond.methodLink RL 170 yX7_ofStay ∈ gl := gl_6 (i := 137) (by decide +kernel) rfl
theorem mi_X7_ofStay : Cond.instanceMethod yX7_ofStay ∈ gl := gl_6 (i := 138) (by decide +kernel) rfl
theorem ms_X7_ofStay : Cond.selects RX7 yX7_ofStay yX7_ofStay ∈ gl := gl_6 (i := 139) (by decide +kernel) rfl
theorem ok_L_170 : g_okV RL 170 RX7 yX7_ofStay cX7_ofStay 5 (some .int) 3 := ⟨mc_X7_ofStay, ml_L_170, mi_X7_ofStay, ms_X7_ofStay, ii_X7, by decide +kernel⟩
theorem mc_X7_place : Cond.code yX7_place cX7_place 5 (some .int) ∈ gl := gl_6 (i := 148) (rfl) rfl
theorem ml_L_173 : Cond.methodLink RL 173 yX7_place ∈ gl := gl_6 (i := 145) (by decide +kernel) rfl
theorem mi_X7_place : Cond.instanceMethod yX7_place ∈ gl := gl_6 (i := 146) (by decide +kernel) rfl
theorem ms_X7_place : Cond.selects RX7 yX7_place yX7_place ∈ gl := gl_6 (i := 147) (by decide +kernel) rfl
theorem ok_L_173 : g_okV RL 173 RX7 yX7_place cX7_place 5 (some .int) 3 := ⟨mc_X7_place, ml_L_173, mi_X7_place, ms_X7_place, ii_X7, by decide +kernel⟩
theorem mc_X7_whyNot : Cond.code yX7_whyNot cX7_whyNot 4 (some .int) ∈ gl := gl_6 (i := 168) (rfl) rfl
theorem ml_L_176 : Cond.methodLink RL 176 yX7_whyNot ∈ gl := gl_6 (i := 165) (by decide +kernel) rfl
theorem mi_X7_whyNot : Cond.instanceMethod yX7_whyNot ∈ gl := gl_6 (i := 166) (by decide +kernel) rfl
theorem ms_X7_whyNot : Cond.selects RX7 yX7_whyNot yX7_whyNot ∈ gl := gl_6 (i := 167) (by decide +kernel) rfl
theorem ok_L_176 : g_okV RL 176 RX7 yX7_whyNot cX7_whyNot 4 (some .int) 3 := ⟨mc_X7_whyNot, ml_L_176, mi_X7_whyNot, ms_X7_whyNot, ii_X7, by decide +kernel⟩
theorem mc_X7_options : Cond.code yX7_options cX7_options 3 (some .int) ∈ gl := gl_6 (i := 172) (rfl) rfl
theorem ml_L_179 : Cond.methodLink RL 179 yX7_options ∈ gl := gl_6 (i := 169) (by decide +kernel) rfl
theorem mi_X7_options : Cond.instanceMethod yX7_options ∈ gl := gl_6 (i := 170) (by decide +kernel) rfl
theorem ms_X7_options : Cond.selects RX7 yX7_options yX7_options ∈ gl := gl_6 (i := 171) (by decide +kernel) rfl
theorem ok_L_179 : g_okV RL 179 RX7 yX7_options cX7_options 3 (some .int) 2 := ⟨mc_X7_options, ml_L_179, mi_X7_options, ms_X7_options, ii_X7, by decide +kernel⟩
theorem mc_X7_cheapest : Cond.code yX7_cheapest cX7_cheapest 3 (some .int) ∈ gl := gl_6 (i := 180) (rfl) rfl
theorem ml_L_182 : Cond.methodLink RL 182 yX7_cheapest ∈ gl := gl_6 (i := 177) (by decide +kernel) rfl
theorem mi_X7_cheapest : Cond.instanceMethod yX7_cheapest ∈ gl := gl_6 (i := 178) (by decide +kernel) rfl
theorem ms_X7_cheapest : Cond.selects RX7 yX7_cheapest yX7_cheapest ∈ gl := gl_6 (i := 179) (by decide +kernel) rfl
theorem ok_L_182 : g_okV RL 182 RX7 yX7_cheapest cX7_cheapest 3 (some .int) 2 := ⟨mc_X7_cheapest, ml_L_182, mi_X7_cheapest, ms_X7_cheapest, ii_X7, by decide +kernel⟩
theorem mc_X7_lift : Cond.code yX7_lift cX7_lift 4 (some .int) ∈ gl := gl_6 (i := 188) (rfl) rfl
theorem ml_L_185 : Cond.methodLink RL 185 yX7_lift ∈ gl := gl_6 (i := 185) (by decide +kernel) rfl
theorem mi_X7_lift : Cond.instanceMethod yX7_lift ∈ gl := gl_6 (i := 186) (by decide +kernel) rfl
theorem ms_X7_lift : Cond.selects RX7 yX7_lift yX7_lift ∈ gl := gl_6 (i := 187) (by decide +kernel) rfl
theorem ok_L_185 : g_okV RL 185 RX7 yX7_lift cX7_lift 4 (some .int) 2 := ⟨mc_X7_lift, ml_L_185, mi_X7_lift, ms_X7_lift, ii_X7, by decide +kernel⟩
theorem mc_X7_reason : Cond.code yX7_reason cX7_reason 1 (some .int) ∈ gl := gl_6 (i := 196) (rfl) rfl
theorem ml_L_189 : Cond.methodLink RL 189 yX7_reason ∈ gl := gl_6 (i := 193) (by decide +kernel) rfl
theorem mi_X7_reason : Cond.instanceMethod yX7_reason ∈ gl := gl_6 (i := 194) (by decide +kernel) rfl
theorem ms_X7_reason : Cond.selects RX7 yX7_reason yX7_reason ∈ gl := gl_6 (i := 195) (by decide +kernel) rfl
theorem ok_L_189 : g_okV RL 189 RX7 yX7_reason cX7_reason 1 (some .int) 0 := ⟨mc_X7_reason, ml_L_189, mi_X7_reason, ms_X7_reason, ii_X7, by decide +kernel⟩
theorem mc_X7_tow_ : Cond.code yX7_tow_ cX7_tow_ 3 (some .int) ∈ gl := gl_6 (i := 200) (rfl) rfl
theorem ml_L_192 : Cond.methodLink RL 192 yX7_tow_ ∈ gl := gl_6 (i := 197) (by decide +kernel) rfl
theorem mi_X7_tow_ : Cond.instanceMethod yX7_tow_ ∈ gl := gl_6 (i := 198) (by decide +kernel) rfl
theorem ms_X7_tow_ : Cond.selects RX7 yX7_tow_ yX7_tow_ ∈ gl := gl_6 (i := 199) (by decide +kernel) rfl
theorem ok_L_192 : g_okV RL 192 RX7 yX7_tow_ cX7_tow_ 3 (some .int) 2 := ⟨mc_X7_tow_, ml_L_192, mi_X7_tow_, ms_X7_tow_, ii_X7, by decide +kernel⟩
theorem mc_X7_untow : Cond.code yX7_untow cX7_untow 3 (some .int) ∈ gl := gl_6 (i := 212) (rfl) rfl
theorem ml_L_195 : Cond.methodLink RL 195 yX7_untow ∈ gl := gl_6 (i := 209) (by decide +kernel) rfl
theorem mi_X7_untow : Cond.instanceMethod yX7_untow ∈ gl := gl_6 (i := 210) (by decide +kernel) rfl
theorem ms_X7_untow : Cond.selects RX7 yX7_untow yX7_untow ∈ gl := gl_6 (i := 211) (by decide +kernel) rfl
theorem ok_L_195 : g_okV RL 195 RX7 yX7_untow cX7_untow 3 (some .int) 1 := ⟨mc_X7_untow, ml_L_195, mi_X7_untow, ms_X7_untow, ii_X7, by decide +kernel⟩
theorem mc_X7_delay : Cond.code yX7_delay cX7_delay 4 (some .int) ∈ gl := gl_6 (i := 216) (rfl) rfl
theorem ml_L_198 : Cond.methodLink RL 198 yX7_delay ∈ gl := gl_6 (i := 213) (by decide +kernel) rfl
theorem mi_X7_delay : Cond.instanceMethod yX7_delay ∈ gl := gl_6 (i := 214) (by decide +kernel) rfl
theorem ms_X7_delay : Cond.selects RX7 yX7_delay yX7_delay ∈ gl := gl_6 (i := 215) (by decide +kernel) rfl
theorem ok_L_198 : g_okV RL 198 RX7 yX7_delay cX7_delay 4 (some .int) 2 := ⟨mc_X7_delay, ml_L_198, mi_X7_delay, ms_X7_delay, ii_X7, by decide +kernel⟩
theorem mc_X6_assignAll : Cond.code yX6_assignAll cX6_assignAll 1 (some .int) ∈ gl := gl_2 (i := 47) (rfl) rfl
theorem ml_L_199 : Cond.methodLink RL 199 yX6_assignAll ∈ gl := gl_2 (i := 44) (by decide +kernel) rfl
theorem mi_X6_assignAll : Cond.instanceMethod yX6_assignAll ∈ gl := gl_2 (i := 45) (by decide +kernel) rfl
theorem ms_X6_assignAll : Cond.selects RX6 yX6_assignAll yX6_assignAll ∈ gl := gl_2 (i := 46) (by decide +kernel) rfl
theorem ok_L_199 : g_okV RL 199 RX6 yX6_assignAll cX6_assignAll 1 (some .int) 0 := ⟨mc_X6_assignAll, ml_L_199, mi_X6_assignAll, ms_X6_assignAll, ii_X6, by decide +kernel⟩
theorem mc_X7_assignAll : Cond.code yX7_assignAll cX7_assignAll 1 (some .int) ∈ gl := gl_6 (i := 225) (rfl) rfl
theorem ml_L_202 : Cond.methodLink RL 202 yX7_assignAll ∈ gl := gl_6 (i := 222) (by decide +kernel) rfl
theorem mi_X7_assignAll : Cond.instanceMethod yX7_assignAll ∈ gl := gl_6 (i := 223) (by decide +kernel) rfl
theorem ms_X7_assignAll : Cond.selects RX7 yX7_assignAll yX7_assignAll ∈ gl := gl_6 (i := 224) (by decide +kernel) rfl
theorem ok_L_202 : g_okV RL 202 RX7 yX7_assignAll cX7_assignAll 1 (some .int) 0 := ⟨mc_X7_assignAll, ml_L_202, mi_X7_assignAll, ms_X7_assignAll, ii_X7, by decide +kernel⟩
theorem mc_X7_towGain : Cond.code yX7_towGain cX7_towGain 6 (some .int) ∈ gl := gl_6 (i := 237) (rfl) rfl
theorem ml_L_205 : Cond.methodLink RL 205 yX7_towGain ∈ gl := gl_6 (i := 234) (by decide +kernel) rfl
theorem mi_X7_towGain : Cond.instanceMethod yX7_towGain ∈ gl := gl_6 (i := 235) (by decide +kernel) rfl
theorem ms_X7_towGain : Cond.selects RX7 yX7_towGain yX7_towGain ∈ gl := gl_6 (i := 236) (by decide +kernel) rfl
theorem ok_L_205 : g_okV RL 205 RX7 yX7_towGain cX7_towGain 6 (some .int) 2 := ⟨mc_X7_towGain, ml_L_205, mi_X7_towGain, ms_X7_towGain, ii_X7, by decide +kernel⟩
theorem mc_X7_leastMoves : Cond.code yX7_leastMoves cX7_leastMoves 2 (some .int) ∈ gl := gl_7 (i := 9) (rfl) rfl
theorem ml_L_208 : Cond.methodLink RL 208 yX7_leastMoves ∈ gl := gl_7 (i := 6) (by decide +kernel) rfl
theorem mi_X7_leastMoves : Cond.instanceMethod yX7_leastMoves ∈ gl := gl_7 (i := 7) (by decide +kernel) rfl
theorem ms_X7_leastMoves : Cond.selects RX7 yX7_leastMoves yX7_leastMoves ∈ gl := gl_7 (i := 8) (by decide +kernel) rfl
theorem ok_L_208 : g_okV RL 208 RX7 yX7_leastMoves cX7_leastMoves 2 (some .int) 0 := ⟨mc_X7_leastMoves, ml_L_208, mi_X7_leastMoves, ms_X7_leastMoves, ii_X7, by decide +kernel⟩
theorem mc_X7_leastAgain : Cond.code yX7_leastAgain cX7_leastAgain 1 (some .int) ∈ gl := gl_7 (i := 37) (rfl) rfl
theorem ml_L_211 : Cond.methodLink RL 211 yX7_leastAgain ∈ gl := gl_7 (i := 34) (by decide +kernel) rfl
theorem mi_X7_leastAgain : Cond.instanceMethod yX7_leastAgain ∈ gl := gl_7 (i := 35) (by decide +kernel) rfl
theorem ms_X7_leastAgain : Cond.selects RX7 yX7_leastAgain yX7_leastAgain ∈ gl := gl_7 (i := 36) (by decide +kernel) rfl
theorem ok_L_211 : g_okV RL 211 RX7 yX7_leastAgain cX7_leastAgain 1 (some .int) 0 := ⟨mc_X7_leastAgain, ml_L_211, mi_X7_leastAgain, ms_X7_leastAgain, ii_X7, by decide +kernel⟩
theorem mc_X7_moveOf : Cond.code yX7_moveOf cX7_moveOf 4 (some .int) ∈ gl := gl_7 (i := 42) (rfl) rfl
theorem ml_L_214 : Cond.methodLink RL 214 yX7_moveOf ∈ gl := gl_7 (i := 39) (by decide +kernel) rfl
theorem mi_X7_moveOf : Cond.instanceMethod yX7_moveOf ∈ gl := gl_7 (i := 40) (by decide +kernel) rfl
theorem ms_X7_moveOf : Cond.selects RX7 yX7_moveOf yX7_moveOf ∈ gl := gl_7 (i := 41) (by decide +kernel) rfl
theorem ok_L_214 : g_okV RL 214 RX7 yX7_moveOf cX7_moveOf 4 (some .int) 2 := ⟨mc_X7_moveOf, ml_L_214, mi_X7_moveOf, ms_X7_moveOf, ii_X7, by decide +kernel⟩
theorem mc_X7_repair : Cond.code yX7_repair cX7_repair 3 (some .int) ∈ gl := gl_7 (i := 46) (rfl) rfl
theorem ml_L_217 : Cond.methodLink RL 217 yX7_repair ∈ gl := gl_7 (i := 43) (by decide +kernel) rfl
theorem mi_X7_repair : Cond.instanceMethod yX7_repair ∈ gl := gl_7 (i := 44) (by decide +kernel) rfl
theorem ms_X7_repair : Cond.selects RX7 yX7_repair yX7_repair ∈ gl := gl_7 (i := 45) (by decide +kernel) rfl
theorem ok_L_217 : g_okV RL 217 RX7 yX7_repair cX7_repair 3 (some .int) 0 := ⟨mc_X7_repair, ml_L_217, mi_X7_repair, ms_X7_repair, ii_X7, by decide +kernel⟩
theorem mc_X6_conflicts : Cond.code yX6_conflicts cX6_conflicts 3 (some .int) ∈ gl := gl_2 (i := 118) (rfl) rfl
theorem ml_L_218 : Cond.methodLink RL 218 yX6_conflicts ∈ gl := gl_2 (i := 115) (by decide +kernel) rfl
theorem mi_X6_conflicts : Cond.instanceMethod yX6_conflicts ∈ gl := gl_2 (i := 116) (by decide +kernel) rfl
theorem ms_X6_conflicts : Cond.selects RX6 yX6_conflicts yX6_conflicts ∈ gl := gl_2 (i := 117) (by decide +kernel) rfl
theorem ok_L_218 : g_okV RL 218 RX6 yX6_conflicts cX6_conflicts 3 (some .int) 0 := ⟨mc_X6_conflicts, ml_L_218, mi_X6_conflicts, ms_X6_conflicts, ii_X6, by decide +kernel⟩
theorem mc_X7_conflicts : Cond.code yX7_conflicts cX7_conflicts 4 (some .int) ∈ gl := gl_7 (i := 50) (rfl) rfl
theorem ml_L_221 : Cond.methodLink RL 221 yX7_conflicts ∈ gl := gl_7 (i := 47) (by decide +kernel) rfl
theorem mi_X7_conflicts : Cond.instanceMethod yX7_conflicts ∈ gl := gl_7 (i := 48) (by decide +kernel) rfl
theorem ms_X7_conflicts : Cond.selects RX7 yX7_conflicts yX7_conflicts ∈ gl := gl_7 (i := 49) (by decide +kernel) rfl
theorem ok_L_221 : g_okV RL 221 RX7 yX7_conflicts cX7_conflicts 4 (some .int) 0 := ⟨mc_X7_conflicts, ml_L_221, mi_X7_conflicts, ms_X7_conflicts, ii_X7, by decide +kernel⟩
theorem mc_X7_account : Cond.code yX7_account cX7_account 4 (some .int) ∈ gl := gl_7 (i := 54) (rfl) rfl
theorem ml_L_224 : Cond.methodLink RL 224 yX7_account ∈ gl := gl_7 (i := 51) (by decide +kernel) rfl
theorem mi_X7_account : Cond.instanceMethod yX7_account ∈ gl := gl_7 (i := 52) (by decide +kernel) rfl
theorem ms_X7_account : Cond.selects RX7 yX7_account yX7_account ∈ gl := gl_7 (i := 53) (by decide +kernel) rfl
theorem ok_L_224 : g_okV RL 224 RX7 yX7_account cX7_account 4 (some .int) 1 := ⟨mc_X7_account, ml_L_224, mi_X7_account, ms_X7_account, ii_X7, by decide +kernel⟩
theorem mc_X6_minutes : Cond.code yX6_minutes cX6_minutes 4 (some .int) ∈ gl := gl_2 (i := 132) (rfl) rfl
theorem ml_L_225 : Cond.methodLink RL 225 yX6_minutes ∈ gl := gl_2 (i := 129) (by decide +kernel) rfl
theorem mi_X6_minutes : Cond.instanceMethod yX6_minutes ∈ gl := gl_2 (i := 130) (by decide +kernel) rfl
theorem ms_X6_minutes : Cond.selects RX6 yX6_minutes yX6_minutes ∈ gl := gl_2 (i := 131) (by decide +kernel) rfl
theorem ok_L_225 : g_okV RL 225 RX6 yX6_minutes cX6_minutes 4 (some .int) 0 := ⟨mc_X6_minutes, ml_L_225, mi_X6_minutes, ms_X6_minutes, ii_X6, by decide +kernel⟩
theorem mc_X7_minutes : Cond.code yX7_minutes cX7_minutes 3 (some .int) ∈ gl := gl_7 (i := 70) (rfl) rfl
theorem ml_L_228 : Cond.methodLink RL 228 yX7_minutes ∈ gl := gl_7 (i := 67) (by decide +kernel) rfl
theorem mi_X7_minutes : Cond.instanceMethod yX7_minutes ∈ gl := gl_7 (i := 68) (by decide +kernel) rfl
theorem ms_X7_minutes : Cond.selects RX7 yX7_minutes yX7_minutes ∈ gl := gl_7 (i := 69) (by decide +kernel) rfl
theorem ok_L_228 : g_okV RL 228 RX7 yX7_minutes cX7_minutes 3 (some .int) 0 := ⟨mc_X7_minutes, ml_L_228, mi_X7_minutes, ms_X7_minutes, ii_X7, by decide +kernel⟩
theorem mc_X6_peak : Cond.code yX6_peak cX6_peak 7 (some .int) ∈ gl := gl_2 (i := 138) (rfl) rfl
theorem ml_L_229 : Cond.methodLink RL 229 yX6_peak ∈ gl := gl_2 (i := 135) (by decide +kernel) rfl
theorem mi_X6_peak : Cond.instanceMethod yX6_peak ∈ gl := gl_2 (i := 136) (by decide +kernel) rfl
theorem ms_X6_peak : Cond.selects RX6 yX6_peak yX6_peak ∈ gl := gl_2 (i := 137) (by decide +kernel) rfl
theorem ok_L_229 : g_okV RL 229 RX6 yX6_peak cX6_peak 7 (some .int) 1 := ⟨mc_X6_peak, ml_L_229, mi_X6_peak, ms_X6_peak, ii_X6, by decide +kernel⟩
theorem mc_X7_peak : Cond.code yX7_peak cX7_peak 6 (some .int) ∈ gl := gl_7 (i := 78) (rfl) rfl
theorem ml_L_233 : Cond.methodLink RL 233 yX7_peak ∈ gl := gl_7 (i := 75) (by decide +kernel) rfl
theorem mi_X7_peak : Cond.instanceMethod yX7_peak ∈ gl := gl_7 (i := 76) (by decide +kernel) rfl
theorem ms_X7_peak : Cond.selects RX7 yX7_peak yX7_peak ∈ gl := gl_7 (i := 77) (by decide +kernel) rfl
theorem ok_L_233 : g_okV RL 233 RX7 yX7_peak cX7_peak 6 (some .int) 1 := ⟨mc_X7_peak, ml_L_233, mi_X7_peak, ms_X7_peak, ii_X7, by decide +kernel⟩
theorem mc_X7_meanCost : Cond.code yX7_meanCost cX7_meanCost 1 (some .float) ∈ gl := gl_7 (i := 82) (rfl) rfl
theorem ml_L_237 : Cond.methodLink RL 237 yX7_meanCost ∈ gl := gl_7 (i := 79) (by decide +kernel) rfl
theorem mi_X7_meanCost : Cond.instanceMethod yX7_meanCost ∈ gl := gl_7 (i := 80) (by decide +kernel) rfl
theorem ms_X7_meanCost : Cond.selects RX7 yX7_meanCost yX7_meanCost ∈ gl := gl_7 (i := 81) (by decide +kernel) rfl
theorem ok_L_237 : g_okV RL 237 RX7 yX7_meanCost cX7_meanCost 1 (some .float) 0 := ⟨mc_X7_meanCost, ml_L_237, mi_X7_meanCost, ms_X7_meanCost, ii_X7, by decide +kernel⟩
theorem mc_X7_append : Cond.code yX7_append cX7_append 2 (some .int) ∈ gl := gl_7 (i := 86) (rfl) rfl
theorem ml_L_241 : Cond.methodLink RL 241 yX7_append ∈ gl := gl_7 (i := 83) (by decide +kernel) rfl
theorem mi_X7_append : Cond.instanceMethod yX7_append ∈ gl := gl_7 (i := 84) (by decide +kernel) rfl
theorem ms_X7_append : Cond.selects RX7 yX7_append yX7_append ∈ gl := gl_7 (i := 85) (by decide +kernel) rfl
theorem ok_L_241 : g_okV RL 241 RX7 yX7_append cX7_append 2 (some .int) 1 := ⟨mc_X7_append, ml_L_241, mi_X7_append, ms_X7_append, ii_X7, by decide +kernel⟩
theorem mc_X7_read : Cond.code yX7_read cX7_read 2 (some .int) ∈ gl := gl_7 (i := 90) (rfl) rfl
theorem ml_L_244 : Cond.methodLink RL 244 yX7_read ∈ gl := gl_7 (i := 87) (by decide +kernel) rfl
theorem mi_X7_read : Cond.instanceMethod yX7_read ∈ gl := gl_7 (i := 88) (by decide +kernel) rfl
theorem ms_X7_read : Cond.selects RX7 yX7_read yX7_read ∈ gl := gl_7 (i := 89) (by decide +kernel) rfl
theorem ok_L_244 : g_okV RL 244 RX7 yX7_read cX7_read 2 (some .int) 0 := ⟨mc_X7_read, ml_L_244, mi_X7_read, ms_X7_read, ii_X7, by decide +kernel⟩
theorem mc_X7_errorPosition : Cond.code yX7_errorPosition cX7_errorPosition 1 (some .int) ∈ gl := gl_7 (i := 118) (rfl) rfl
theorem ml_L_247 : Cond.methodLink RL 247 yX7_errorPosition ∈ gl := gl_7 (i := 115) (by decide +kernel) rfl
theorem mi_X7_errorPosition : Cond.instanceMethod yX7_errorPosition ∈ gl := gl_7 (i := 116) (by decide +kernel) rfl
theorem ms_X7_errorPosition : Cond.selects RX7 yX7_errorPosition yX7_errorPosition ∈ gl := gl_7 (i := 117) (by decide +kernel) rfl
theorem ok_L_247 : g_okV RL 247 RX7 yX7_errorPosition cX7_errorPosition 1 (some .int) 0 := ⟨mc_X7_errorPosition, ml_L_247, mi_X7_errorPosition, ms_X7_errorPosition, ii_X7, by decide +kernel⟩
theorem mc_X7_undo : Cond.code yX7_undo cX7_undo 1 (some .int) ∈ gl := gl_7 (i := 122) (rfl) rfl
theorem ml_L_250 : Cond.methodLink RL 250 yX7_undo ∈ gl := gl_7 (i := 119) (by decide +kernel) rfl
theorem mi_X7_undo : Cond.instanceMethod yX7_undo ∈ gl := gl_7 (i := 120) (by decide +kernel) rfl
theorem ms_X7_undo : Cond.selects RX7 yX7_undo yX7_undo ∈ gl := gl_7 (i := 121) (by decide +kernel) rfl
theorem ok_L_250 : g_okV RL 250 RX7 yX7_undo cX7_undo 1 (some .int) 0 := ⟨mc_X7_undo, ml_L_250, mi_X7_undo, ms_X7_undo, ii_X7, by decide +kernel⟩
theorem mc_X6_save : Cond.code yX6_save cX6_save 1 (some .int) ∈ gl := gl_2 (i := 150) (rfl) rfl
theorem ml_L_251 : Cond.methodLink RL 251 yX6_save ∈ gl := gl_2 (i := 147) (by decide +kernel) rfl
theorem mi_X6_save : Cond.instanceMethod yX6_save ∈ gl := gl_2 (i := 148) (by decide +kernel) rfl
theorem ms_X6_save : Cond.selects RX6 yX6_save yX6_save ∈ gl := gl_2 (i := 149) (by decide +kernel) rfl
theorem ok_L_251 : g_okV RL 251 RX6 yX6_save cX6_save 1 (some .int) 0 := ⟨mc_X6_save, ml_L_251, mi_X6_save, ms_X6_save, ii_X6, by decide +kernel⟩
theorem mc_X7_save : Cond.code yX7_save cX7_save 1 (some .int) ∈ gl := gl_7 (i := 126) (rfl) rfl
theorem ml_L_254 : Cond.methodLink RL 254 yX7_save ∈ gl := gl_7 (i := 123) (by decide +kernel) rfl
theorem mi_X7_save : Cond.instanceMethod yX7_save ∈ gl := gl_7 (i := 124) (by decide +kernel) rfl
theorem ms_X7_save : Cond.selects RX7 yX7_save yX7_save ∈ gl := gl_7 (i := 125) (by decide +kernel) rfl
theorem ok_L_254 : g_okV RL 254 RX7 yX7_save cX7_save 1 (some .int) 0 := ⟨mc_X7_save, ml_L_254, mi_X7_save, ms_X7_save, ii_X7, by decide +kernel⟩
theorem mc_X7_restore : Cond.code yX7_restore cX7_restore 1 (some .int) ∈ gl := gl_7 (i := 130) (rfl) rfl
theorem ml_L_257 : Cond.methodLink RL 257 yX7_restore ∈ gl := gl_7 (i := 127) (by decide +kernel) rfl
theorem mi_X7_restore : Cond.instanceMethod yX7_restore ∈ gl := gl_7 (i := 128) (by decide +kernel) rfl
theorem ms_X7_restore : Cond.selects RX7 yX7_restore yX7_restore ∈ gl := gl_7 (i := 129) (by decide +kernel) rfl
theorem ok_L_257 : g_okV RL 257 RX7 yX7_restore cX7_restore 1 (some .int) 0 := ⟨mc_X7_restore, ml_L_257, mi_X7_restore, ms_X7_restore, ii_X7, by decide +kernel⟩
theorem mc_X7_begin : Cond.code yX7_begin cX7_begin 2 none ∈ gl := gl_5 (i := 182) (rfl) rfl
theorem ml_X7_45 : Cond.methodLink RX7 45 yX7_begin ∈ gl := gl_5 (i := 179) (by decide +kernel) rfl
theorem mi_X7_begin : Cond.instanceMethod yX7_begin ∈ gl := gl_5 (i := 181) (by decide +kernel) rfl
theorem ms_X7_begin : Cond.selects RX7 yX7_begin yX7_begin ∈ gl := gl_p (i := 15) (q := (yX7_begin, 19)) (by decide +kernel)
theorem ok_X7_45 : g_okV RX7 45 RX7 yX7_begin cX7_begin 2 none 0 := ⟨mc_X7_begin, ml_X7_45, mi_X7_begin, ms_X7_begin, ii_X7, by decide +kernel⟩
theorem mc_X7_in : Cond.code yX7_in cX7_in 3 (some .boolean) ∈ gl := gl_5 (i := 185) (rfl) rfl
theorem ml_X7_51 : Cond.methodLink RX7 51 yX7_in ∈ gl := gl_5 (i := 183) (by decide +kernel) rfl
theorem mt_X7_in : Cond.static yX7_in ∈ gl := gl_5 (i := 184) (by decide +kernel) rfl
theorem ok_X7_51 : g_okS RX7 51 yX7_in cX7_in 3 (some .boolean) 3 := ⟨mc_X7_in, ml_X7_51, mt_X7_in, ii_X7, by decide +kernel⟩
theorem mc_X7_keepState : Cond.code yX7_keepState cX7_keepState 1 none ∈ gl := gl_6 (i := 23) (rfl) rfl
theorem ml_X7_64 : Cond.methodLink RX7 64 yX7_keepState ∈ gl := gl_6 (i := 20) (by decide +kernel) rfl
theorem mi_X7_keepState : Cond.instanceMethod yX7_keepState ∈ gl := gl_6 (i := 22) (by decide +kernel) rfl
theorem ms_X7_keepState : Cond.selects RX7 yX7_keepState yX7_keepState ∈ gl := gl_p (i := 17) (q := (yX7_keepState, 19)) (by decide +kernel)
theorem ok_X7_64 : g_okV RX7 64 RX7 yX7_keepState cX7_keepState 1 none 0 := ⟨mc_X7_keepState, ml_X7_64, mi_X7_keepState, ms_X7_keepState, ii_X7, by decide +kernel⟩
theorem mc_X7_change : Cond.code yX7_change cX7_change 1 none ∈ gl := gl_6 (i := 28) (rfl) rfl
theorem ml_X7_67 : Cond.methodLink RX7 67 yX7_change ∈ gl := gl_6 (i := 25) (by decide +kernel) rfl
theorem mi_X7_change : Cond.instanceMethod yX7_change ∈ gl := gl_6 (i := 27) (by decide +kernel) rfl
theorem ms_X7_change : Cond.selects RX7 yX7_change yX7_change ∈ gl := gl_p (i := 18) (q := (yX7_change, 19)) (by decide +kernel)
theorem ok_X7_67 : g_okV RX7 67 RX7 yX7_change cX7_change 1 none 0 := ⟨mc_X7_change, ml_X7_67, mi_X7_change, ms_X7_change, ii_X7, by decide +kernel⟩
theorem mc_X7_changes : Cond.code yX7_changes cX7_changes 1 none ∈ gl := gl_6 (i := 19) (rfl) rfl
theorem ml_X7_70 : Cond.methodLink RX7 70 yX7_changes ∈ gl := gl_6 (i := 16) (by decide +kernel) rfl
theorem mi_X7_changes : Cond.instanceMethod yX7_changes ∈ gl := gl_6 (i := 18) (by decide +kernel) rfl
theorem ms_X7_changes : Cond.selects RX7 yX7_changes yX7_changes ∈ gl := gl_p (i := 16) (q := (yX7_changes, 19)) (by decide +kernel)
theorem ok_X7_70 : g_okV RX7 70 RX7 yX7_changes cX7_changes 1 none 0 := ⟨mc_X7_changes, ml_X7_70, mi_X7_changes, ms_X7_changes, ii_X7, by decide +kernel⟩
theorem mc_X7_isStand : Cond.code yX7_isStand cX7_isStand 2 (some .boolean) ∈ gl := gl_6 (i := 36) (rfl) rfl
theorem ml_X7_73 : Cond.methodLink RX7 73 yX7_isStand ∈ gl := gl_6 (i := 33) (by decide +kernel) rfl
theorem mi_X7_isStand : Cond.instanceMethod yX7_isStand ∈ gl := gl_6 (i := 35) (by decide +kernel) rfl
theorem ms_X7_isStand : Cond.selects RX7 yX7_isStand yX7_isStand ∈ gl := gl_p (i := 19) (q := (yX7_isStand, 19)) (by decide +kernel)
theorem ok_X7_73 : g_okV RX7 73 RX7 yX7_isStand cX7_isStand 2 (some .boolean) 1 := ⟨mc_X7_isStand, ml_X7_73, mi_X7_isStand, ms_X7_isStand, ii_X7, by decide +kernel⟩
theorem mc_X7_limit : Cond.code yX7_limit cX7_limit 3 (some .int) ∈ gl := gl_6 (i := 40) (rfl) rfl
theorem ml_X7_77 : Cond.methodLink RX7 77 yX7_limit ∈ gl := gl_6 (i := 37) (by decide +kernel) rfl
theorem mi_X7_limit : Cond.instanceMethod yX7_limit ∈ gl := gl_6 (i := 39) (by decide +kernel) rfl
theorem ms_X7_limit : Cond.selects RX7 yX7_limit yX7_limit ∈ gl := gl_p (i := 20) (q := (yX7_limit, 19)) (by decide +kernel)
theorem ok_X7_77 : g_okV RX7 77 RX7 yX7_limit cX7_limit 3 (some .int) 2 := ⟨mc_X7_limit, ml_X7_77, mi_X7_limit, ms_X7_limit, ii_X7, by decide +kernel⟩
theorem mc_X7_at : Cond.code yX7_at cX7_at 1 (some .int) ∈ gl := gl_6 (i := 75) (rfl) rfl
theorem ml_X7_81 : Cond.methodLink RX7 81 yX7_at ∈ gl := gl_6 (i := 73) (by decide +kernel) rfl
theorem mt_X7_at : Cond.static yX7_at ∈ gl := gl_6 (i := 74) (by decide +kernel) rfl
theorem ok_X7_81 : g_okS RX7 81 yX7_at cX7_at 1 (some .int) 1 := ⟨mc_X7_at, ml_X7_81, mt_X7_at, ii_X7, by decide +kernel⟩
theorem mc_X7_isTurn : Cond.code yX7_isTurn cX7_isTurn 2 (some .boolean) ∈ gl := gl_6 (i := 68) (rfl) rfl
theorem ml_X7_85 : Cond.methodLink RX7 85 yX7_isTurn ∈ gl := gl_6 (i := 65) (by decide +kernel) rfl
theorem mi_X7_isTurn : Cond.instanceMethod yX7_isTurn ∈ gl := gl_6 (i := 67) (by decide +kernel) rfl
theorem ms_X7_isTurn : Cond.selects RX7 yX7_isTurn yX7_isTurn ∈ gl := gl_p (i := 24) (q := (yX7_isTurn, 19)) (by decide +kernel)
theorem ok_X7_85 : g_okV RX7 85 RX7 yX7_isTurn cX7_isTurn 2 (some .boolean) 1 := ⟨mc_X7_isTurn, ml_X7_85, mi_X7_isTurn, ms_X7_isTurn, ii_X7, by decide +kernel⟩
theorem mc_X7_tow : Cond.code yX7_tow cX7_tow 2 (some .int) ∈ gl := gl_6 (i := 72) (rfl) rfl
theorem ml_X7_88 : Cond.methodLink RX7 88 yX7_tow ∈ gl := gl_6 (i := 69) (by decide +kernel) rfl
theorem mi_X7_tow : Cond.instanceMethod yX7_tow ∈ gl := gl_6 (i := 71) (by decide +kernel) rfl
theorem ms_X7_tow : Cond.selects RX7 yX7_tow yX7_tow ∈ gl := gl_p (i := 25) (q := (yX7_tow, 19)) (by decide +kernel)
theorem ok_X7_88 : g_okV RX7 88 RX7 yX7_tow cX7_tow 2 (some .int) 1 := ⟨mc_X7_tow, ml_X7_88, mi_X7_tow, ms_X7_tow, ii_X7, by decide +kernel⟩
theorem mc_X7_isStay : Cond.code yX7_isStay cX7_isStay 2 (some .boolean) ∈ gl := gl_6 (i := 64) (rfl) rfl
theorem ml_X7_91 : Cond.methodLink RX7 91 yX7_isStay ∈ gl := gl_6 (i := 61) (by decide +kernel) rfl
theorem mi_X7_isStay : Cond.instanceMethod yX7_isStay ∈ gl := gl_6 (i := 63) (by decide +kernel) rfl
theorem ms_X7_isStay : Cond.selects RX7 yX7_isStay yX7_isStay ∈ gl := gl_p (i := 23) (q := (yX7_isStay, 19)) (by decide +kernel)
theorem ok_X7_91 : g_okV RX7 91 RX7 yX7_isStay cX7_isStay 2 (some .boolean) 1 := ⟨mc_X7_isStay, ml_X7_91, mi_X7_isStay, ms_X7_isStay, ii_X7, by decide +kernel⟩
theorem mc_X7_on : Cond.code yX7_on cX7_on 2 (some .int) ∈ gl := gl_6 (i := 79) (rfl) rfl
theorem ml_X7_94 : Cond.methodLink RX7 94 yX7_on ∈ gl := gl_6 (i := 76) (by decide +kernel) rfl
theorem mi_X7_on : Cond.instanceMethod yX7_on ∈ gl := gl_6 (i := 78) (by decide +kernel) rfl
theorem ms_X7_on : Cond.selects RX7 yX7_on yX7_on ∈ gl := gl_p (i := 26) (q := (yX7_on, 19)) (by decide +kernel)
theorem ok_X7_94 : g_okV RX7 94 RX7 yX7_on cX7_on 2 (some .int) 1 := ⟨mc_X7_on, ml_X7_94, mi_X7_on, ms_X7_on, ii_X7, by decide +kernel⟩
theorem mc_X7_isOn : Cond.code yX7_isOn cX7_isOn 2 (some .boolean) ∈ gl := gl_6 (i := 60) (rfl) rfl
theorem ml_X7_97 : Cond.methodLink RX7 97 yX7_isOn ∈ gl := gl_6 (i := 57) (by decide +kernel) rfl
theorem mi_X7_isOn : Cond.instanceMethod yX7_isOn ∈ gl := gl_6 (i := 59) (by decide +kernel) rfl
theorem ms_X7_isOn : Cond.selects RX7 yX7_isOn yX7_isOn ∈ gl := gl_p (i := 22) (q := (yX7_isOn, 19)) (by decide +kernel)
theorem ok_X7_97 : g_okV RX7 97 RX7 yX7_isOn cX7_isOn 2 (some .boolean) 1 := ⟨mc_X7_isOn, ml_X7_97, mi_X7_isOn, ms_X7_isOn, ii_X7, by decide +kernel⟩
theorem mc_X7_size : Cond.code yX7_size cX7_size 2 (some .int) ∈ gl := gl_6 (i := 95) (rfl) rfl
theorem ml_X7_100 : Cond.methodLink RX7 100 yX7_size ∈ gl := gl_6 (i := 92) (by decide +kernel) rfl
theorem mi_X7_size : Cond.instanceMethod yX7_size ∈ gl := gl_6 (i := 94) (by decide +kernel) rfl
theorem ms_X7_size : Cond.selects RX7 yX7_size yX7_size ∈ gl := gl_p (i := 30) (q := (yX7_size, 19)) (by decide +kernel)
theorem ok_X7_100 : g_okV RX7 100 RX7 yX7_size cX7_size 2 (some .int) 1 := ⟨mc_X7_size, ml_X7_100, mi_X7_size, ms_X7_size, ii_X7, by decide +kernel⟩
theorem mc_X7_from : Cond.code yX7_from cX7_from 3 (some .int) ∈ gl := gl_6 (i := 87) (rfl) rfl
theorem ml_X7_103 : Cond.methodLink RX7 103 yX7_from ∈ gl := gl_6 (i := 84) (by decide +kernel) rfl
theorem mi_X7_from : Cond.instanceMethod yX7_from ∈ gl := gl_6 (i := 86) (by decide +kernel) rfl
theorem ms_X7_from : Cond.selects RX7 yX7_from yX7_from ∈ gl := gl_p (i := 28) (q := (yX7_from, 19)) (by decide +kernel)
theorem ok_X7_103 : g_okV RX7 103 RX7 yX7_from cX7_from 3 (some .int) 1 := ⟨mc_X7_from, ml_X7_103, mi_X7_from, ms_X7_from, ii_X7, by decide +kernel⟩
theorem mc_X7_to : Cond.code yX7_to cX7_to 3 (some .int) ∈ gl := gl_6 (i := 83) (rfl) rfl
theorem ml_X7_106 : Cond.methodLink RX7 106 yX7_to ∈ gl := gl_6 (i := 80) (by decide +kernel) rfl
theorem mi_X7_to : Cond.instanceMethod yX7_to ∈ gl := gl_6 (i := 82) (by decide +kernel) rfl
theorem ms_X7_to : Cond.selects RX7 yX7_to yX7_to ∈ gl := gl_p (i := 27) (q := (yX7_to, 19)) (by decide +kernel)
theorem ok_X7_106 : g_okV RX7 106 RX7 yX7_to cX7_to 3 (some .int) 1 := ⟨mc_X7_to, ml_X7_106, mi_X7_to, ms_X7_to, ii_X7, by decide +kernel⟩
theorem mc_X7_areInConflict : Cond.code yX7_areInConflict cX7_areInConflict 4 (some .boolean) ∈ gl := gl_6 (i := 103) (rfl) rfl
theorem ml_X7_109 : Cond.methodLink RX7 109 yX7_areInConflict ∈ gl := gl_6 (i := 100) (by decide +kernel) rfl
theorem mi_X7_areInConflict : Cond.instanceMethod yX7_areInConflict ∈ gl := gl_6 (i := 102) (by decide +kernel) rfl
theorem ms_X7_areInConflict : Cond.selects RX7 yX7_areInConflict yX7_areInConflict ∈ gl := gl_p (i := 32) (q := (yX7_areInConflict, 19)) (by decide +kernel)
theorem ok_X7_109 : g_okV RX7 109 RX7 yX7_areInConflict cX7_areInConflict 4 (some .boolean) 2 := ⟨mc_X7_areInConflict, ml_X7_109, mi_X7_areInConflict, ms_X7_areInConflict, ii_X7, by decide +kernel⟩
theorem mc_X7_weight : Cond.code yX7_weight cX7_weight 2 (some .int) ∈ gl := gl_6 (i := 136) (rfl) rfl
theorem ml_X7_113 : Cond.methodLink RX7 113 yX7_weight ∈ gl := gl_6 (i := 133) (by decide +kernel) rfl
theorem mi_X7_weight : Cond.instanceMethod yX7_weight ∈ gl := gl_6 (i := 135) (by decide +kernel) rfl
theorem ms_X7_weight : Cond.selects RX7 yX7_weight yX7_weight ∈ gl := gl_p (i := 36) (q := (yX7_weight, 19)) (by decide +kernel)
theorem ok_X7_113 : g_okV RX7 113 RX7 yX7_weight cX7_weight 2 (some .int) 1 := ⟨mc_X7_weight, ml_X7_113, mi_X7_weight, ms_X7_weight, ii_X7, by decide +kernel⟩
theorem mc_X7_costOfTurn : Cond.code yX7_costOfTurn cX7_costOfTurn 2 (some .int) ∈ gl := gl_6 (i := 128) (rfl) rfl
theorem ml_X7_116 : Cond.methodLink RX7 116 yX7_costOfTurn ∈ gl := gl_6 (i := 125) (by decide +kernel) rfl
theorem mi_X7_costOfTurn : Cond.instanceMethod yX7_costOfTurn ∈ gl := gl_6 (i := 127) (by decide +kernel) rfl
theorem ms_X7_costOfTurn : Cond.selects RX7 yX7_costOfTurn yX7_costOfTurn ∈ gl := gl_p (i := 34) (q := (yX7_costOfTurn, 19)) (by decide +kernel)
theorem ok_X7_116 : g_okV RX7 116 RX7 yX7_costOfTurn cX7_costOfTurn 2 (some .int) 1 := ⟨mc_X7_costOfTurn, ml_X7_116, mi_X7_costOfTurn, ms_X7_costOfTurn, ii_X7, by decide +kernel⟩
theorem mc_X7_costOf : Cond.code yX7_costOf cX7_costOf 4 (some .int) ∈ gl := gl_6 (i := 132) (rfl) rfl
theorem ml_X7_119 : Cond.methodLink RX7 119 yX7_costOf ∈ gl := gl_6 (i := 129) (by decide +kernel) rfl
theorem mi_X7_costOf : Cond.instanceMethod yX7_costOf ∈ gl := gl_6 (i := 131) (by decide +kernel) rfl
theorem ms_X7_costOf : Cond.selects RX7 yX7_costOf yX7_costOf ∈ gl := gl_p (i := 35) (q := (yX7_costOf, 19)) (by decide +kernel)
theorem ok_X7_119 : g_okV RX7 119 RX7 yX7_costOf cX7_costOf 4 (some .int) 1 := ⟨mc_X7_costOf, ml_X7_119, mi_X7_costOf, ms_X7_costOf, ii_X7, by decide +kernel⟩
theorem mc_X7_ofStays : Cond.code yX7_ofStays cX7_ofStays 7 (some .int) ∈ gl := gl_6 (i := 56) (rfl) rfl
theorem ml_X7_122 : Cond.methodLink RX7 122 yX7_ofStays ∈ gl := gl_6 (i := 53) (by decide +kernel) rfl
theorem mi_X7_ofStays : Cond.instanceMethod yX7_ofStays ∈ gl := gl_6 (i := 55) (by decide +kernel) rfl
theorem ms_X7_ofStays : Cond.selects RX7 yX7_ofStays yX7_ofStays ∈ gl := gl_p (i := 21) (q := (yX7_ofStays, 19)) (by decide +kernel)
theorem ok_X7_122 : g_okV RX7 122 RX7 yX7_ofStays cX7_ofStays 7 (some .int) 2 := ⟨mc_X7_ofStays, ml_X7_122, mi_X7_ofStays, ms_X7_ofStays, ii_X7, by decide +kernel⟩
theorem mc_X7_isHindered : Cond.code yX7_isHindered cX7_isHindered 2 (some .boolean) ∈ gl := gl_6 (i := 91) (rfl) rfl
theorem ml_X7_125 : Cond.methodLink RX7 125 yX7_isHindered ∈ gl := gl_6 (i := 88) (by decide +kernel) rfl
theorem mi_X7_isHindered : Cond.instanceMethod yX7_isHindered ∈ gl := gl_6 (i := 90) (by decide +kernel) rfl
theorem ms_X7_isHindered : Cond.selects RX7 yX7_isHindered yX7_isHindered ∈ gl := gl_p (i := 29) (q := (yX7_isHindered, 19)) (by decide +kernel)
theorem ok_X7_125 : g_okV RX7 125 RX7 yX7_isHindered cX7_isHindered 2 (some .boolean) 1 := ⟨mc_X7_isHindered, ml_X7_125, mi_X7_isHindered, ms_X7_isHindered, ii_X7, by decide +kernel⟩
theorem mc_X7_conflictsOf : Cond.code yX7_conflictsOf cX7_conflictsOf 4 (some .int) ∈ gl := gl_6 (i := 99) (rfl) rfl
theorem ml_X7_128 : Cond.methodLink RX7 128 yX7_conflictsOf ∈ gl := gl_6 (i := 96) (by decide +kernel) rfl
theorem mi_X7_conflictsOf : Cond.instanceMethod yX7_conflictsOf ∈ gl := gl_6 (i := 98) (by decide +kernel) rfl
theorem ms_X7_conflictsOf : Cond.selects RX7 yX7_conflictsOf yX7_conflictsOf ∈ gl := gl_p (i := 31) (q := (yX7_conflictsOf, 19)) (by decide +kernel)
theorem ok_X7_128 : g_okV RX7 128 RX7 yX7_conflictsOf cX7_conflictsOf 4 (some .int) 1 := ⟨mc_X7_conflictsOf, ml_X7_128, mi_X7_conflictsOf, ms_X7_conflictsOf, ii_X7, by decide +kernel⟩
theorem mc_X7_stayAt : Cond.code yX7_stayAt cX7_stayAt 4 (some .int) ∈ gl := gl_6 (i := 111) (rfl) rfl
theorem ml_X7_131 : Cond.methodLink RX7 131 yX7_stayAt ∈ gl := gl_6 (i := 108) (by decide +kernel) rfl
theorem mi_X7_stayAt : Cond.instanceMethod yX7_stayAt ∈ gl := gl_6 (i := 110) (by decide +kernel) rfl
theorem ms_X7_stayAt : Cond.selects RX7 yX7_stayAt yX7_stayAt ∈ gl := gl_p (i := 33) (q := (yX7_stayAt, 19)) (by decide +kernel)
theorem ok_X7_131 : g_okV RX7 131 RX7 yX7_stayAt cX7_stayAt 4 (some .int) 2 := ⟨mc_X7_stayAt, ml_X7_131, mi_X7_stayAt, ms_X7_stayAt, ii_X7, by decide +kernel⟩
theorem ml_X7_134 : Cond.methodLink RX7 134 yJ9_min_7cf53 ∈ gl := gl_6 (i := 116) (by decide +kernel) rfl
theorem ok_X7_134 : g_okS RX7 134 yJ9_min_7cf53 cJ9_min_7cf53 2 (some .int) 2 := ⟨mc_J9_min_7cf53, ml_X7_134, mt_J9_min_7cf53, ii_J9, by decide +kernel⟩
theorem mc_X7_isStay_ : Cond.code yX7_isStay_ cX7_isStay_ 3 (some .boolean) ∈ gl := gl_6 (i := 144) (rfl) rfl
theorem ml_X7_139 : Cond.methodLink RX7 139 yX7_isStay_ ∈ gl := gl_6 (i := 141) (by decide +kernel) rfl
theorem mi_X7_isStay_ : Cond.instanceMethod yX7_isStay_ ∈ gl := gl_6 (i := 143) (by decide +kernel) rfl
theorem ms_X7_isStay_ : Cond.selects RX7 yX7_isStay_ yX7_isStay_ ∈ gl := gl_p (i := 37) (q := (yX7_isStay_, 19)) (by decide +kernel)
theorem ok_X7_139 : g_okV RX7 139 RX7 yX7_isStay_ cX7_isStay_ 3 (some .boolean) 2 := ⟨mc_X7_isStay_, ml_X7_139, mi_X7_isStay_, ms_X7_isStay_, ii_X7, by decide +kernel⟩
theorem mc_X7_put : Cond.code yX7_put cX7_put 3 none ∈ gl := gl_6 (i := 164) (rfl) rfl
theorem ml_X7_141 : Cond.methodLink RX7 141 yX7_put ∈ gl := gl_6 (i := 161) (by decide +kernel) rfl
theorem mi_X7_put : Cond.instanceMethod yX7_put ∈ gl := gl_6 (i := 163) (by decide +kernel) rfl
theorem ms_X7_put : Cond.selects RX7 yX7_put yX7_put ∈ gl := gl_p (i := 41) (q := (yX7_put, 19)) (by decide +kernel)
theorem ok_X7_141 : g_okV RX7 141 RX7 yX7_put cX7_put 3 none 2 := ⟨mc_X7_put, ml_X7_141, mi_X7_put, ms_X7_put, ii_X7, by decide +kernel⟩
theorem mc_X7_isPlace : Cond.code yX7_isPlace cX7_isPlace 4 (some .boolean) ∈ gl := gl_6 (i := 152) (rfl) rfl
theorem ml_X7_145 : Cond.methodLink RX7 145 yX7_isPlace ∈ gl := gl_6 (i := 149) (by decide +kernel) rfl
theorem mi_X7_isPlace : Cond.instanceMethod yX7_isPlace ∈ gl := gl_6 (i := 151) (by decide +kernel) rfl
theorem ms_X7_isPlace : Cond.selects RX7 yX7_isPlace yX7_isPlace ∈ gl := gl_p (i := 38) (q := (yX7_isPlace, 19)) (by decide +kernel)
theorem ok_X7_145 : g_okV RX7 145 RX7 yX7_isPlace cX7_isPlace 4 (some .boolean) 3 := ⟨mc_X7_isPlace, ml_X7_145, mi_X7_isPlace, ms_X7_isPlace, ii_X7, by decide +kernel⟩
theorem mc_X7_why : Cond.code yX7_why cX7_why 6 (some .int) ∈ gl := gl_6 (i := 160) (rfl) rfl
theorem ml_X7_148 : Cond.methodLink RX7 148 yX7_why ∈ gl := gl_6 (i := 157) (by decide +kernel) rfl
theorem mi_X7_why : Cond.instanceMethod yX7_why ∈ gl := gl_6 (i := 159) (by decide +kernel) rfl
theorem ms_X7_why : Cond.selects RX7 yX7_why yX7_why ∈ gl := gl_p (i := 40) (q := (yX7_why, 19)) (by decide +kernel)
theorem ok_X7_148 : g_okV RX7 148 RX7 yX7_why cX7_why 6 (some .int) 2 := ⟨mc_X7_why, ml_X7_148, mi_X7_why, ms_X7_why, ii_X7, by decide +kernel⟩
theorem mc_X7_doPlace : Cond.code yX7_doPlace cX7_doPlace 5 (some .int) ∈ gl := gl_6 (i := 156) (rfl) rfl
theorem ml_X7_154 : Cond.methodLink RX7 154 yX7_doPlace ∈ gl := gl_6 (i := 153) (by decide +kernel) rfl
theorem mi_X7_doPlace : Cond.instanceMethod yX7_doPlace ∈ gl := gl_6 (i := 155) (by decide +kernel) rfl
theorem ms_X7_doPlace : Cond.selects RX7 yX7_doPlace yX7_doPlace ∈ gl := gl_p (i := 39) (q := (yX7_doPlace, 19)) (by decide +kernel)
theorem ok_X7_154 : g_okV RX7 154 RX7 yX7_doPlace cX7_doPlace 5 (some .int) 3 := ⟨mc_X7_doPlace, ml_X7_154, mi_X7_doPlace, ms_X7_doPlace, ii_X7, by decide +kernel⟩
theorem mc_X7_optionsOf : Cond.code yX7_optionsOf cX7_optionsOf 4 (some .int) ∈ gl := gl_6 (i := 176) (rfl) rfl
theorem ml_X7_158 : Cond.methodLink RX7 158 yX7_optionsOf ∈ gl := gl_6 (i := 173) (by decide +kernel) rfl
theorem mi_X7_optionsOf : Cond.instanceMethod yX7_optionsOf ∈ gl := gl_6 (i := 175) (by decide +kernel) rfl
theorem ms_X7_optionsOf : Cond.selects RX7 yX7_optionsOf yX7_optionsOf ∈ gl := gl_p (i := 42) (q := (yX7_optionsOf, 19)) (by decide +kernel)
theorem ok_X7_158 : g_okV RX7 158 RX7 yX7_optionsOf cX7_optionsOf 4 (some .int) 1 := ⟨mc_X7_optionsOf, ml_X7_158, mi_X7_optionsOf, ms_X7_optionsOf, ii_X7, by decide +kernel⟩
theorem mc_X7_cheapestOf : Cond.code yX7_cheapestOf cX7_cheapestOf 5 (some .int) ∈ gl := gl_6 (i := 184) (rfl) rfl
theorem ml_X7_161 : Cond.methodLink RX7 161 yX7_cheapestOf ∈ gl := gl_6 (i := 181) (by decide +kernel) rfl
theorem mi_X7_cheapestOf : Cond.instanceMethod yX7_cheapestOf ∈ gl := gl_6 (i := 183) (by decide +kernel) rfl
theorem ms_X7_cheapestOf : Cond.selects RX7 yX7_cheapestOf yX7_cheapestOf ∈ gl := gl_p (i := 43) (q := (yX7_cheapestOf, 19)) (by decide +kernel)
theorem ok_X7_161 : g_okV RX7 161 RX7 yX7_cheapestOf cX7_cheapestOf 5 (some .int) 1 := ⟨mc_X7_cheapestOf, ml_X7_161, mi_X7_cheapestOf, ms_X7_cheapestOf, ii_X7, by decide +kernel⟩
theorem mc_X7_doLift : Cond.code yX7_doLift cX7_doLift 3 (some .int) ∈ gl := gl_6 (i := 192) (rfl) rfl
theorem ml_X7_164 : Cond.methodLink RX7 164 yX7_doLift ∈ gl := gl_6 (i := 189) (by decide +kernel) rfl
theorem mi_X7_doLift : Cond.instanceMethod yX7_doLift ∈ gl := gl_6 (i := 191) (by decide +kernel) rfl
theorem ms_X7_doLift : Cond.selects RX7 yX7_doLift yX7_doLift ∈ gl := gl_p (i := 44) (q := (yX7_doLift, 19)) (by decide +kernel)
theorem ok_X7_164 : g_okV RX7 164 RX7 yX7_doLift cX7_doLift 3 (some .int) 2 := ⟨mc_X7_doLift, ml_X7_164, mi_X7_doLift, ms_X7_doLift, ii_X7, by decide +kernel⟩
theorem mc_X7_whyNoTow : Cond.code yX7_whyNoTow cX7_whyNoTow 4 (some .int) ∈ gl := gl_6 (i := 208) (rfl) rfl
theorem ml_X7_167 : Cond.methodLink RX7 167 yX7_whyNoTow ∈ gl := gl_6 (i := 205) (by decide +kernel) rfl
theorem mi_X7_whyNoTow : Cond.instanceMethod yX7_whyNoTow ∈ gl := gl_6 (i := 207) (by decide +kernel) rfl
theorem ms_X7_whyNoTow : Cond.selects RX7 yX7_whyNoTow yX7_whyNoTow ∈ gl := gl_p (i := 46) (q := (yX7_whyNoTow, 19)) (by decide +kernel)
theorem ok_X7_167 : g_okV RX7 167 RX7 yX7_whyNoTow cX7_whyNoTow 4 (some .int) 2 := ⟨mc_X7_whyNoTow, ml_X7_167, mi_X7_whyNoTow, ms_X7_whyNoTow, ii_X7, by decide +kernel⟩
theorem mc_X7_doTow : Cond.code yX7_doTow cX7_doTow 4 (some .int) ∈ gl := gl_6 (i := 204) (rfl) rfl
theorem ml_X7_170 : Cond.methodLink RX7 170 yX7_doTow ∈ gl := gl_6 (i := 201) (by decide +kernel) rfl
theorem mi_X7_doTow : Cond.instanceMethod yX7_doTow ∈ gl := gl_6 (i := 203) (by decide +kernel) rfl
theorem ms_X7_doTow : Cond.selects RX7 yX7_doTow yX7_doTow ∈ gl := gl_p (i := 45) (q := (yX7_doTow, 19)) (by decide +kernel)
theorem ok_X7_170 : g_okV RX7 170 RX7 yX7_doTow cX7_doTow 4 (some .int) 2 := ⟨mc_X7_doTow, ml_X7_170, mi_X7_doTow, ms_X7_doTow, ii_X7, by decide +kernel⟩
theorem ml_X7_173 : Cond.methodLink RX7 173 yJ9_max_7cf53 ∈ gl := gl_6 (i := 221) (by decide +kernel) rfl
theorem ok_X7_173 : g_okS RX7 173 yJ9_max_7cf53 cJ9_max_7cf53 2 (some .int) 2 := ⟨mc_J9_max_7cf53, ml_X7_173, mt_J9_max_7cf53, ii_J9, by decide +kernel⟩
theorem mc_X7_doDelay : Cond.code yX7_doDelay cX7_doDelay 7 (some .int) ∈ gl := gl_6 (i := 220) (rfl) rfl
theorem ml_X7_176 : Cond.methodLink RX7 176 yX7_doDelay ∈ gl := gl_6 (i := 217) (by decide +kernel) rfl
theorem mi_X7_doDelay : Cond.instanceMethod yX7_doDelay ∈ gl := gl_6 (i := 219) (by decide +kernel) rfl
theorem ms_X7_doDelay : Cond.selects RX7 yX7_doDelay yX7_doDelay ∈ gl := gl_p (i := 47) (q := (yX7_doDelay, 19)) (by decide +kernel)
theorem ok_X7_176 : g_okV RX7 176 RX7 yX7_doDelay cX7_doDelay 7 (some .int) 2 := ⟨mc_X7_doDelay, ml_X7_176, mi_X7_doDelay, ms_X7_doDelay, ii_X7, by decide +kernel⟩
theorem mc_X7_isAhead : Cond.code yX7_isAhead cX7_isAhead 3 (some .boolean) ∈ gl := gl_6 (i := 233) (rfl) rfl
theorem ml_X7_179 : Cond.methodLink RX7 179 yX7_isAhead ∈ gl := gl_6 (i := 230) (by decide +kernel) rfl
theorem mi_X7_isAhead : Cond.instanceMethod yX7_isAhead ∈ gl := gl_6 (i := 232) (by decide +kernel) rfl
theorem ms_X7_isAhead : Cond.selects RX7 yX7_isAhead yX7_isAhead ∈ gl := gl_p (i := 49) (q := (yX7_isAhead, 19)) (by decide +kernel)
theorem ok_X7_179 : g_okV RX7 179 RX7 yX7_isAhead cX7_isAhead 3 (some .boolean) 2 := ⟨mc_X7_isAhead, ml_X7_179, mi_X7_isAhead, ms_X7_isAhead, ii_X7, by decide +kernel⟩
theorem mc_X7_assign : Cond.code yX7_assign cX7_assign 5 (some .int) ∈ gl := gl_6 (i := 229) (rfl) rfl
theorem ml_X7_182 : Cond.methodLink RX7 182 yX7_assign ∈ gl := gl_6 (i := 226) (by decide +kernel) rfl
theorem mi_X7_assign : Cond.instanceMethod yX7_assign ∈ gl := gl_6 (i := 228) (by decide +kernel) rfl
theorem ms_X7_assign : Cond.selects RX7 yX7_assign yX7_assign ∈ gl := gl_p (i := 48) (q := (yX7_assign, 19)) (by decide +kernel)
theorem ok_X7_182 : g_okV RX7 182 RX7 yX7_assign cX7_assign 5 (some .int) 0 := ⟨mc_X7_assign, ml_X7_182, mi_X7_assign, ms_X7_assign, ii_X7, by decide +kernel⟩
theorem mc_X7_cost : Cond.code yX7_cost cX7_cost 3 (some .int) ∈ gl := gl_7 (i := 5) (rfl) rfl
theorem ml_X7_186 : Cond.methodLink RX7 186 yX7_cost ∈ gl := gl_7 (i := 2) (by decide +kernel) rfl
theorem mi_X7_cost : Cond.instanceMethod yX7_cost ∈ gl := gl_7 (i := 4) (by decide +kernel) rfl
theorem ms_X7_cost : Cond.selects RX7 yX7_cost yX7_cost ∈ gl := gl_p (i := 51) (q := (yX7_cost, 19)) (by decide +kernel)
theorem ok_X7_186 : g_okV RX7 186 RX7 yX7_cost cX7_cost 3 (some .int) 0 := ⟨mc_X7_cost, ml_X7_186, mi_X7_cost, ms_X7_cost, ii_X7, by decide +kernel⟩
theorem mc_X7_costAssigned : Cond.code yX7_costAssigned cX7_costAssigned 3 (some .int) ∈ gl := gl_7 (i := 1) (rfl) rfl
theorem ml_X7_189 : Cond.methodLink RX7 189 yX7_costAssigned ∈ gl := gl_6 (i := 238) (by decide +kernel) rfl
theorem mi_X7_costAssigned : Cond.instanceMethod yX7_costAssigned ∈ gl := gl_7 (i := 0) (by decide +kernel) rfl
theorem ms_X7_costAssigned : Cond.selects RX7 yX7_costAssigned yX7_costAssigned ∈ gl := gl_p (i := 50) (q := (yX7_costAssigned, 19)) (by decide +kernel)
theorem ok_X7_189 : g_okV RX7 189 RX7 yX7_costAssigned cX7_costAssigned 3 (some .int) 0 := ⟨mc_X7_costAssigned, ml_X7_189, mi_X7_costAssigned, ms_X7_costAssigned, ii_X7, by decide +kernel⟩
theorem mc_X7_isMoved : Cond.code yX7_isMoved cX7_isMoved 5 (some .boolean) ∈ gl := gl_7 (i := 25) (rfl) rfl
theorem ml_X7_192 : Cond.methodLink RX7 192 yX7_isMoved ∈ gl := gl_7 (i := 22) (by decide +kernel) rfl
theorem mi_X7_isMoved : Cond.instanceMethod yX7_isMoved ∈ gl := gl_7 (i := 24) (by decide +kernel) rfl
theorem ms_X7_isMoved : Cond.selects RX7 yX7_isMoved yX7_isMoved ∈ gl := gl_p (i := 55) (q := (yX7_isMoved, 19)) (by decide +kernel)
theorem ok_X7_192 : g_okV RX7 192 RX7 yX7_isMoved cX7_isMoved 5 (some .boolean) 2 := ⟨mc_X7_isMoved, ml_X7_192, mi_X7_isMoved, ms_X7_isMoved, ii_X7, by decide +kernel⟩
theorem mc_X7_areMovedGood : Cond.code yX7_areMovedGood cX7_areMovedGood 3 (some .boolean) ∈ gl := gl_7 (i := 33) (rfl) rfl
theorem ml_X7_195 : Cond.methodLink RX7 195 yX7_areMovedGood ∈ gl := gl_7 (i := 30) (by decide +kernel) rfl
theorem mi_X7_areMovedGood : Cond.instanceMethod yX7_areMovedGood ∈ gl := gl_7 (i := 32) (by decide +kernel) rfl
theorem ms_X7_areMovedGood : Cond.selects RX7 yX7_areMovedGood yX7_areMovedGood ∈ gl := gl_p (i := 57) (q := (yX7_areMovedGood, 19)) (by decide +kernel)
theorem ok_X7_195 : g_okV RX7 195 RX7 yX7_areMovedGood cX7_areMovedGood 3 (some .boolean) 1 := ⟨mc_X7_areMovedGood, ml_X7_195, mi_X7_areMovedGood, ms_X7_areMovedGood, ii_X7, by decide +kernel⟩
theorem mc_X7_fits : Cond.code yX7_fits cX7_fits 5 (some .boolean) ∈ gl := gl_7 (i := 29) (rfl) rfl
theorem ml_X7_198 : Cond.methodLink RX7 198 yX7_fits ∈ gl := gl_7 (i := 26) (by decide +kernel) rfl
theorem mi_X7_fits : Cond.instanceMethod yX7_fits ∈ gl := gl_7 (i := 28) (by decide +kernel) rfl
theorem ms_X7_fits : Cond.selects RX7 yX7_fits yX7_fits ∈ gl := gl_p (i := 56) (q := (yX7_fits, 19)) (by decide +kernel)
theorem ok_X7_198 : g_okV RX7 198 RX7 yX7_fits cX7_fits 5 (some .boolean) 2 := ⟨mc_X7_fits, ml_X7_198, mi_X7_fits, ms_X7_fits, ii_X7, by decide +kernel⟩
theorem mc_X7_areOthersGood : Cond.code yX7_areOthersGood cX7_areOthersGood 4 (some .boolean) ∈ gl := gl_7 (i := 21) (rfl) rfl
theorem ml_X7_201 : Cond.methodLink RX7 201 yX7_areOthersGood ∈ gl := gl_7 (i := 18) (by decide +kernel) rfl
theorem mi_X7_areOthersGood : Cond.instanceMethod yX7_areOthersGood ∈ gl := gl_7 (i := 20) (by decide +kernel) rfl
theorem ms_X7_areOthersGood : Cond.selects RX7 yX7_areOthersGood yX7_areOthersGood ∈ gl := gl_p (i := 54) (q := (yX7_areOthersGood, 19)) (by decide +kernel)
theorem ok_X7_201 : g_okV RX7 201 RX7 yX7_areOthersGood cX7_areOthersGood 4 (some .boolean) 1 := ⟨mc_X7_areOthersGood, ml_X7_201, mi_X7_areOthersGood, ms_X7_areOthersGood, ii_X7, by decide +kernel⟩
theorem mc_X7_finds : Cond.code yX7_finds cX7_finds 5 (some .boolean) ∈ gl := gl_7 (i := 17) (rfl) rfl
theorem ml_X7_204 : Cond.methodLink RX7 204 yX7_finds ∈ gl := gl_7 (i := 14) (by decide +kernel) rfl
theorem mi_X7_finds : Cond.instanceMethod yX7_finds ∈ gl := gl_7 (i := 16) (by decide +kernel) rfl
theorem ms_X7_finds : Cond.selects RX7 yX7_finds yX7_finds ∈ gl := gl_p (i := 53) (q := (yX7_finds, 19)) (by decide +kernel)
theorem ok_X7_204 : g_okV RX7 204 RX7 yX7_finds cX7_finds 5 (some .boolean) 3 := ⟨mc_X7_finds, ml_X7_204, mi_X7_finds, ms_X7_finds, ii_X7, by decide +kernel⟩
theorem mc_X7_findRepair : Cond.code yX7_findRepair cX7_findRepair 2 (some .int) ∈ gl := gl_7 (i := 13) (rfl) rfl
theorem ml_X7_207 : Cond.methodLink RX7 207 yX7_findRepair ∈ gl := gl_7 (i := 10) (by decide +kernel) rfl
theorem mi_X7_findRepair : Cond.instanceMethod yX7_findRepair ∈ gl := gl_7 (i := 12) (by decide +kernel) rfl
theorem ms_X7_findRepair : Cond.selects RX7 yX7_findRepair yX7_findRepair ∈ gl := gl_p (i := 52) (q := (yX7_findRepair, 19)) (by decide +kernel)
theorem ok_X7_207 : g_okV RX7 207 RX7 yX7_findRepair cX7_findRepair 2 (some .int) 0 := ⟨mc_X7_findRepair, ml_X7_207, mi_X7_findRepair, ms_X7_findRepair, ii_X7, by decide +kernel⟩
theorem ml_X7_210 : Cond.methodLink RX7 210 yX7_leastMoves ∈ gl := gl_7 (i := 38) (by decide +kernel) rfl
theorem ok_X7_210 : g_okV RX7 210 RX7 yX7_leastMoves cX7_leastMoves 2 (some .int) 0 := ⟨mc_X7_leastMoves, ml_X7_210, mi_X7_leastMoves, ms_X7_leastMoves, ii_X7, by decide +kernel⟩
theorem mc_X7_tows : Cond.code yX7_tows cX7_tows 3 (some .int) ∈ gl := gl_7 (i := 58) (rfl) rfl
theorem ml_X7_213 : Cond.methodLink RX7 213 yX7_tows ∈ gl := gl_7 (i := 55) (by decide +kernel) rfl
theorem mi_X7_tows : Cond.instanceMethod yX7_tows ∈ gl := gl_7 (i := 57) (by decide +kernel) rfl
theorem ms_X7_tows : Cond.selects RX7 yX7_tows yX7_tows ∈ gl := gl_p (i := 58) (q := (yX7_tows, 19)) (by decide +kernel)
theorem ok_X7_213 : g_okV RX7 213 RX7 yX7_tows cX7_tows 3 (some .int) 0 := ⟨mc_X7_tows, ml_X7_213, mi_X7_tows, ms_X7_tows, ii_X7, by decide +kernel⟩
theorem mc_X7_isRemote : Cond.code yX7_isRemote cX7_isRemote 2 (some .boolean) ∈ gl := gl_7 (i := 62) (rfl) rfl
theorem ml_X7_216 : Cond.methodLink RX7 216 yX7_isRemote ∈ gl := gl_7 (i := 59) (by decide +kernel) rfl
theorem mi_X7_isRemote : Cond.instanceMethod yX7_isRemote ∈ gl := gl_7 (i := 61) (by decide +kernel) rfl
theorem ms_X7_isRemote : Cond.selects RX7 yX7_isRemote yX7_isRemote ∈ gl := gl_p (i := 59) (q := (yX7_isRemote, 19)) (by decide +kernel)
theorem ok_X7_216 : g_okV RX7 216 RX7 yX7_isRemote cX7_isRemote 2 (some .boolean) 1 := ⟨mc_X7_isRemote, ml_X7_216, mi_X7_isRemote, ms_X7_isRemote, ii_X7, by decide +kernel⟩
theorem mc_X7_overStays : Cond.code yX7_overStays cX7_overStays 5 (some .int) ∈ gl := gl_7 (i := 66) (rfl) rfl
theorem ml_X7_219 : Cond.methodLink RX7 219 yX7_overStays ∈ gl := gl_7 (i := 63) (by decide +kernel) rfl
theorem mi_X7_overStays : Cond.instanceMethod yX7_overStays ∈ gl := gl_7 (i := 65) (by decide +kernel) rfl
theorem ms_X7_overStays : Cond.selects RX7 yX7_overStays yX7_overStays ∈ gl := gl_p (i := 60) (q := (yX7_overStays, 19)) (by decide +kernel)
theorem ok_X7_219 : g_okV RX7 219 RX7 yX7_overStays cX7_overStays 5 (some .int) 1 := ⟨mc_X7_overStays, ml_X7_219, mi_X7_overStays, ms_X7_overStays, ii_X7, by decide +kernel⟩
theorem mc_X7_staysAt : Cond.code yX7_staysAt cX7_staysAt 4 (some .int) ∈ gl := gl_7 (i := 74) (rfl) rfl
theorem ml_X7_222 : Cond.methodLink RX7 222 yX7_staysAt ∈ gl := gl_7 (i := 71) (by decide +kernel) rfl
theorem mi_X7_staysAt : Cond.instanceMethod yX7_staysAt ∈ gl := gl_7 (i := 73) (by decide +kernel) rfl
theorem ms_X7_staysAt : Cond.selects RX7 yX7_staysAt yX7_staysAt ∈ gl := gl_p (i := 61) (q := (yX7_staysAt, 19)) (by decide +kernel)
theorem ok_X7_222 : g_okV RX7 222 RX7 yX7_staysAt cX7_staysAt 4 (some .int) 1 := ⟨mc_X7_staysAt, ml_X7_222, mi_X7_staysAt, ms_X7_staysAt, ii_X7, by decide +kernel⟩
theorem mc_X7_isHere : Cond.code yX7_isHere cX7_isHere 3 (some .boolean) ∈ gl := gl_7 (i := 102) (rfl) rfl
theorem ml_X7_235 : Cond.methodLink RX7 235 yX7_isHere ∈ gl := gl_7 (i := 99) (by decide +kernel) rfl
theorem mi_X7_isHere : Cond.instanceMethod yX7_isHere ∈ gl := gl_7 (i := 101) (by decide +kernel) rfl
theorem ms_X7_isHere : Cond.selects RX7 yX7_isHere yX7_isHere ∈ gl := gl_p (i := 64) (q := (yX7_isHere, 19)) (by decide +kernel)
theorem ok_X7_235 : g_okV RX7 235 RX7 yX7_isHere cX7_isHere 3 (some .boolean) 2 := ⟨mc_X7_isHere, ml_X7_235, mi_X7_isHere, ms_X7_isHere, ii_X7, by decide +kernel⟩
theorem mc_X7_sign : Cond.code yX7_sign cX7_sign 2 none ∈ gl := gl_7 (i := 110) (rfl) rfl
theorem ml_X7_239 : Cond.methodLink RX7 239 yX7_sign ∈ gl := gl_7 (i := 107) (by decide +kernel) rfl
theorem mi_X7_sign : Cond.instanceMethod yX7_sign ∈ gl := gl_7 (i := 109) (by decide +kernel) rfl
theorem ms_X7_sign : Cond.selects RX7 yX7_sign yX7_sign ∈ gl := gl_p (i := 66) (q := (yX7_sign, 19)) (by decide +kernel)
theorem ok_X7_239 : g_okV RX7 239 RX7 yX7_sign cX7_sign 2 none 1 := ⟨mc_X7_sign, ml_X7_239, mi_X7_sign, ms_X7_sign, ii_X7, by decide +kernel⟩
theorem mc_X7_number : Cond.code yX7_number cX7_number 4 (some .int) ∈ gl := gl_7 (i := 98) (rfl) rfl
theorem ml_X7_243 : Cond.methodLink RX7 243 yX7_number ∈ gl := gl_7 (i := 95) (by decide +kernel) rfl
theorem mi_X7_number : Cond.instanceMethod yX7_number ∈ gl := gl_7 (i := 97) (by decide +kernel) rfl
theorem ms_X7_number : Cond.selects RX7 yX7_number yX7_number ∈ gl := gl_p (i := 63) (q := (yX7_number, 19)) (by decide +kernel)
theorem ok_X7_243 : g_okV RX7 243 RX7 yX7_number cX7_number 4 (some .int) 1 := ⟨mc_X7_number, ml_X7_243, mi_X7_number, ms_X7_number, ii_X7, by decide +kernel⟩
theorem mc_X7_behind : Cond.code yX7_behind cX7_behind 3 (some .int) ∈ gl := gl_7 (i := 106) (rfl) rfl
theorem ml_X7_249 : Cond.methodLink RX7 249 yX7_behind ∈ gl := gl_7 (i := 103) (by decide +kernel) rfl
theorem mi_X7_behind : Cond.instanceMethod yX7_behind ∈ gl := gl_7 (i := 105) (by decide +kernel) rfl
theorem ms_X7_behind : Cond.selects RX7 yX7_behind yX7_behind ∈ gl := gl_p (i := 65) (q := (yX7_behind, 19)) (by decide +kernel)
theorem ok_X7_249 : g_okV RX7 249 RX7 yX7_behind cX7_behind 3 (some .int) 2 := ⟨mc_X7_behind, ml_X7_249, mi_X7_behind, ms_X7_behind, ii_X7, by decide +kernel⟩
theorem mc_X7_readEntry : Cond.code yX7_readEntry cX7_readEntry 3 none ∈ gl := gl_7 (i := 94) (rfl) rfl
theorem ml_X7_253 : Cond.methodLink RX7 253 yX7_readEntry ∈ gl := gl_7 (i := 91) (by decide +kernel) rfl
theorem mi_X7_readEntry : Cond.instanceMethod yX7_readEntry ∈ gl := gl_7 (i := 93) (by decide +kernel) rfl
theorem ms_X7_readEntry : Cond.selects RX7 yX7_readEntry yX7_readEntry ∈ gl := gl_p (i := 62) (q := (yX7_readEntry, 19)) (by decide +kernel)
theorem ok_X7_253 : g_okV RX7 253 RX7 yX7_readEntry cX7_readEntry 3 none 0 := ⟨mc_X7_readEntry, ml_X7_253, mi_X7_readEntry, ms_X7_readEntry, ii_X7, by decide +kernel⟩
theorem mc_X7_fails : Cond.code yX7_fails cX7_fails 4 (some .boolean) ∈ gl := gl_7 (i := 114) (rfl) rfl
theorem ml_X7_256 : Cond.methodLink RX7 256 yX7_fails ∈ gl := gl_7 (i := 111) (by decide +kernel) rfl
theorem mi_X7_fails : Cond.instanceMethod yX7_fails ∈ gl := gl_7 (i := 113) (by decide +kernel) rfl
theorem ms_X7_fails : Cond.selects RX7 yX7_fails yX7_fails ∈ gl := gl_p (i := 67) (q := (yX7_fails, 19)) (by decide +kernel)
theorem ok_X7_256 : g_okV RX7 256 RX7 yX7_fails cX7_fails 4 (some .boolean) 1 := ⟨mc_X7_fails, ml_X7_256, mi_X7_fails, ms_X7_fails, ii_X7, by decide +kernel⟩
theorem mc_J0_coder_7d493 : Cond.code yJ0_coder_7d493 cJ0_coder_7d493 1 (some .byte) ∈ gl := gl_5 (i := 64) (rfl) rfl
theorem ml_J0_335 : Cond.methodLink RJ0 335 yJ0_coder_7d493 ∈ gl := gl_5 (i := 61) (by decide +kernel) rfl
theorem mi_J0_coder_7d493 : Cond.instanceMethod yJ0_coder_7d493 ∈ gl := gl_5 (i := 62) (by decide +kernel) rfl
theorem ms_J0_coder_7d493 : Cond.selects RJ0 yJ0_coder_7d493 yJ0_coder_7d493 ∈ gl := gl_5 (i := 63) (by decide +kernel) rfl
theorem ok_J0_335 : g_okV RJ0 335 RJ0 yJ0_coder_7d493 cJ0_coder_7d493 1 (some .byte) 0 := ⟨mc_J0_coder_7d493, ml_J0_335, mi_J0_coder_7d493, ms_J0_coder_7d493, ii_J0, by decide +kernel⟩
theorem mc_J0_isLatin1_aae02 : Cond.code yJ0_isLatin1_aae02 cJ0_isLatin1_aae02 1 (some .boolean) ∈ gl := gl_5 (i := 74) (rfl) rfl
theorem ml_J0_492 : Cond.methodLink RJ0 492 yJ0_isLatin1_aae02 ∈ gl := gl_5 (i := 71) (by decide +kernel) rfl
theorem mi_J0_isLatin1_aae02 : Cond.instanceMethod yJ0_isLatin1_aae02 ∈ gl := gl_5 (i := 72) (by decide +kernel) rfl
theorem ms_J0_isLatin1_aae02 : Cond.selects RJ0 yJ0_isLatin1_aae02 yJ0_isLatin1_aae02 ∈ gl := gl_5 (i := 73) (by decide +kernel) rfl
theorem ok_J0_492 : g_okV RJ0 492 RJ0 yJ0_isLatin1_aae02 cJ0_isLatin1_aae02 1 (some .boolean) 0 := ⟨mc_J0_isLatin1_aae02, ml_J0_492, mi_J0_isLatin1_aae02, ms_J0_isLatin1_aae02, ii_J0, by decide +kernel⟩
theorem mc_J1_charAt_3b067 : Cond.code yJ1_charAt_3b067 cJ1_charAt_3b067 2 (some .char) ∈ gl := gl_5 (i := 77) (rfl) rfl
theorem ml_J0_495 : Cond.methodLink RJ0 495 yJ1_charAt_3b067 ∈ gl := gl_5 (i := 75) (by decide +kernel) rfl
theorem ii_J1 : Cond.initialized RJ1 ∈ gl := gl_1 (i := 24) (by decide +kernel) rfl
theorem mt_J1_charAt_3b067 : Cond.static yJ1_charAt_3b067 ∈ gl := gl_5 (i := 76) (by decide +kernel) rfl
theorem ok_J0_495 : g_okS RJ0 495 yJ1_charAt_3b067 cJ1_charAt_3b067 2 (some .char) 2 := ⟨mc_J1_charAt_3b067, ml_J0_495, mt_J1_charAt_3b067, ii_J1, by decide +kernel⟩
theorem mc_J2_charAt_3b067 : Cond.code yJ2_charAt_3b067 cJ2_charAt_3b067 2 (some .char) ∈ gl := gl_5 (i := 88) (rfl) rfl
theorem ml_J0_498 : Cond.methodLink RJ0 498 yJ2_charAt_3b067 ∈ gl := gl_5 (i := 86) (by decide +kernel) rfl
theorem ii_J2 : Cond.initialized RJ2 ∈ gl := gl_1 (i := 26) (by decide +kernel) rfl
theorem mt_J2_charAt_3b067 : Cond.static yJ2_charAt_3b067 ∈ gl := gl_5 (i := 87) (by decide +kernel) rfl
theorem ok_J0_498 : g_okS RJ0 498 yJ2_charAt_3b067 cJ2_charAt_3b067 2 (some .char) 2 := ⟨mc_J2_charAt_3b067, ml_J0_498, mt_J2_charAt_3b067, ii_J2, by decide +kernel⟩
theorem mc_J3_checkIndex_8e157 : Cond.code yJ3_checkIndex_8e157 cJ3_checkIndex_8e157 3 (some .int) ∈ gl := gl_5 (i := 85) (rfl) rfl
theorem ml_J0_1059 : Cond.methodLink RJ0 1059 yJ3_checkIndex_8e157 ∈ gl := gl_5 (i := 83) (by decide +kernel) rfl
theorem ii_J3 : Cond.initialized RJ3 ∈ gl := gl_1 (i := 25) (by decide +kernel) rfl
theorem mt_J3_checkIndex_8e157 : Cond.static yJ3_checkIndex_8e157 ∈ gl := gl_5 (i := 84) (by decide +kernel) rfl
theorem ok_J0_1059 : g_okS RJ0 1059 yJ3_checkIndex_8e157 cJ3_checkIndex_8e157 3 (some .int) 3 := ⟨mc_J3_checkIndex_8e157, ml_J0_1059, mt_J3_checkIndex_8e157, ii_J3, by decide +kernel⟩
theorem mc_J0_checkIndex_df160 : Cond.code yJ0_checkIndex_df160 cJ0_checkIndex_df160 2 none ∈ gl := gl_5 (i := 80) (rfl) rfl
theorem ml_J1_9 : Cond.methodLink RJ1 9 yJ0_checkIndex_df160 ∈ gl := gl_5 (i := 78) (by decide +kernel) rfl
theorem mt_J0_checkIndex_df160 : Cond.static yJ0_checkIndex_df160 ∈ gl := gl_5 (i := 79) (by decide +kernel) rfl
theorem ok_J1_9 : g_okS RJ1 9 yJ0_checkIndex_df160 cJ0_checkIndex_df160 2 none 2 := ⟨mc_J0_checkIndex_df160, ml_J1_9, mt_J0_checkIndex_df160, ii_J0, by decide +kernel⟩
theorem ck_J6_265 : Cond.constant RJ6 265 1431655765 ∈ gl := gl_2 (i := 126) (by decide +kernel) rfl
theorem ck_J6_266 : Cond.constant RJ6 266 858993459 ∈ gl := gl_2 (i := 127) (by decide +kernel) rfl
theorem ck_J6_267 : Cond.constant RJ6 267 252645135 ∈ gl := gl_2 (i := 128) (by decide +kernel) rfl
theorem fj_J0_9 : Cond.fieldLink RJ0 9 "java/lang/String" "value" "[B" ∈ gl := gl_7 (i := 152) (by decide +kernel) rfl
theorem fj_J0_15 : Cond.fieldLink RJ0 15 "java/lang/String" "coder" "B" ∈ gl := gl_7 (i := 153) (by decide +kernel) rfl
theorem fj_J0_38 : Cond.fieldLink RJ0 38 "java/lang/String" "COMPACT_STRINGS" "Z" ∈ gl := gl_5 (i := 65) (by decide +kernel) rfl
theorem fj_J0_1053 : Cond.fieldLink RJ0 1053 "jdk/internal/util/Preconditions" "SIOOBE_FORMATTER" "Ljava/util/function/BiFunction;" ∈ gl := gl_5 (i := 81) (by decide +kernel) rfl
theorem ml_X0_67 : Cond.methodLink RX0 67 arraycopyName ∈ gl := gl_2 (i := 56) (by decide +kernel) rfl
theorem ml_X7_58 : Cond.methodLink RX7 58 arraycopyName ∈ gl := gl_6 (i := 24) (by decide +kernel) rfl
theorem ac_n : Cond.native arraycopyName ∈ gl := gl_2 (i := 58) (by decide +kernel) rfl
theorem ac_s : Cond.static arraycopyName ∈ gl := gl_2 (i := 57) (by decide +kernel) rfl
theorem ac_i : Cond.initialized "java/lang/System" ∈ gl := gl_1 (i := 15) (by decide +kernel) rfl
theorem ac_w : Cond.native arraycopyName ∈ gl ∧ Cond.static arraycopyName ∈ gl ∧ Cond.initialized "java/lang/System" ∈ gl := ⟨ac_n, ac_s, ac_i⟩
