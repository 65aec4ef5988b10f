/-! THE LINKS: places of the tables' words -/
theorem fl_X4_9 : az_fl RX4 9 4 0 := ⟨by decide, by decide, az_in1 (i := 35) rfl rfl⟩
theorem fl_X2_44 : az_fl RX2 44 4 0 := ⟨by decide, by decide, az_in1 (i := 36) rfl rfl⟩
theorem fl_X11_120 : az_fl RX11 120 4 0 := ⟨by decide, by decide, az_in1 (i := 37) rfl rfl⟩
theorem fl_X1_71 : az_fl RX1 71 4 0 := ⟨by decide, by decide, az_in1 (i := 38) rfl rfl⟩
theorem fl_X8_65 : az_fl RX8 65 4 0 := ⟨by decide, by decide, az_in1 (i := 39) rfl rfl⟩
theorem fl_X3_25 : az_fl RX3 25 4 0 := ⟨by decide, by decide, az_in1 (i := 40) rfl rfl⟩
theorem fl_X7_60 : az_fl RX7 60 4 0 := ⟨by decide, by decide, az_in1 (i := 41) rfl rfl⟩
theorem fl_X0_11 : az_fl RX0 11 0 0 := ⟨by decide, by decide, az_in1 (i := 54) rfl rfl⟩
theorem fl_X0_17 : az_fl RX0 17 0 1 := ⟨by decide, by decide, az_in1 (i := 55) rfl rfl⟩
theorem fl_X11_189 : az_fl RX11 189 0 1 := ⟨by decide, by decide, az_in1 (i := 56) rfl rfl⟩
theorem fl_X0_21 : az_fl RX0 21 0 2 := ⟨by decide, by decide, az_in1 (i := 57) rfl rfl⟩
theorem fl_X11_228 : az_fl RX11 228 0 2 := ⟨by decide, by decide, az_in1 (i := 58) rfl rfl⟩
theorem fl_X9_9 : az_fl RX9 9 9 0 := ⟨by decide, by decide, az_in1 (i := 72) rfl rfl⟩
theorem fl_X5_137 : az_fl RX5 137 9 0 := ⟨by decide, by decide, az_in1 (i := 73) rfl rfl⟩
theorem fl_X11_322 : az_fl RX11 322 9 0 := ⟨by decide, by decide, az_in1 (i := 74) rfl rfl⟩
theorem fl_X9_15 : az_fl RX9 15 9 1 := ⟨by decide, by decide, az_in1 (i := 75) rfl rfl⟩
theorem fl_X11_183 : az_fl RX11 183 9 1 := ⟨by decide, by decide, az_in1 (i := 76) rfl rfl⟩
theorem fl_X5_151 : az_fl RX5 151 9 1 := ⟨by decide, by decide, az_in1 (i := 77) rfl rfl⟩
theorem fl_X3_9 : az_fl RX3 9 3 0 := ⟨by decide, by decide, az_in1 (i := 89) rfl rfl⟩
theorem fl_X3_15 : az_fl RX3 15 3 1 := ⟨by decide, by decide, az_in1 (i := 90) rfl rfl⟩
theorem fl_X3_18 : az_fl RX3 18 3 2 := ⟨by decide, by decide, az_in1 (i := 91) rfl rfl⟩
theorem fl_X3_22 : az_fl RX3 22 3 3 := ⟨by decide, by decide, az_in1 (i := 92) rfl rfl⟩
theorem fl_X11_243 : az_fl RX11 243 3 3 := ⟨by decide, by decide, az_in1 (i := 93) rfl rfl⟩
theorem fl_X6_9 : az_fl RX6 9 6 0 := ⟨by decide, by decide, az_in1 (i := 111) rfl rfl⟩
theorem fl_X10_9 : az_fl RX10 9 10 0 := ⟨by decide, by decide, az_in1 (i := 131) rfl rfl⟩
theorem fl_X6_15 : az_fl RX6 15 10 0 := ⟨by decide, by decide, az_in1 (i := 132) rfl rfl⟩
theorem fl_X5_115 : az_fl RX5 115 10 0 := ⟨by decide, by decide, az_in1 (i := 133) rfl rfl⟩
theorem fl_X10_15 : az_fl RX10 15 10 1 := ⟨by decide, by decide, az_in1 (i := 134) rfl rfl⟩
theorem fl_X10_18 : az_fl RX10 18 10 2 := ⟨by decide, by decide, az_in1 (i := 135) rfl rfl⟩
theorem fl_X5_26 : az_fl RX5 26 10 2 := ⟨by decide, by decide, az_in1 (i := 136) rfl rfl⟩
theorem fl_X10_22 : az_fl RX10 22 10 3 := ⟨by decide, by decide, az_in1 (i := 137) rfl rfl⟩
theorem fl_X5_30 : az_fl RX5 30 10 3 := ⟨by decide, by decide, az_in1 (i := 138) rfl rfl⟩
theorem fl_X8_33 : az_fl RX8 33 10 3 := ⟨by decide, by decide, az_in1 (i := 139) rfl rfl⟩
theorem fl_X11_215 : az_fl RX11 215 10 3 := ⟨by decide, by decide, az_in1 (i := 140) rfl rfl⟩
theorem fl_X5_12 : az_fl RX5 12 5 0 := ⟨by decide, by decide, az_in1 (i := 150) rfl rfl⟩
theorem fl_X11_198 : az_fl RX11 198 5 0 := ⟨by decide, by decide, az_in1 (i := 151) rfl rfl⟩
theorem fl_X5_18 : az_fl RX5 18 5 1 := ⟨by decide, by decide, az_in1 (i := 152) rfl rfl⟩
theorem fl_X5_22 : az_fl RX5 22 5 2 := ⟨by decide, by decide, az_in1 (i := 153) rfl rfl⟩
theorem fl_X5_55 : az_fl RX5 55 5 3 := ⟨by decide, by decide, az_in1 (i := 154) rfl rfl⟩
theorem fl_X5_52 : az_fl RX5 52 5 4 := ⟨by decide, by decide, az_in1 (i := 155) rfl rfl⟩
theorem fl_X5_33 : az_fl RX5 33 5 5 := ⟨by decide, by decide, az_in1 (i := 156) rfl rfl⟩
theorem fl_X5_90 : az_fl RX5 90 5 6 := ⟨by decide, by decide, az_in1 (i := 157) rfl rfl⟩
theorem fl_X5_36 : az_fl RX5 36 5 7 := ⟨by decide, by decide, az_in1 (i := 158) rfl rfl⟩
theorem fl_X5_39 : az_fl RX5 39 5 8 := ⟨by decide, by decide, az_in1 (i := 159) rfl rfl⟩
theorem fl_X1_82 : az_fl RX1 82 8 0 := ⟨by decide, by decide, az_in1 (i := 185) rfl rfl⟩
theorem fl_X2_82 : az_fl RX2 82 8 0 := ⟨by decide, by decide, az_in1 (i := 186) rfl rfl⟩
theorem fl_X8_98 : az_fl RX8 98 8 0 := ⟨by decide, by decide, az_in1 (i := 187) rfl rfl⟩
theorem fl_X8_15 : az_fl RX8 15 8 1 := ⟨by decide, by decide, az_in1 (i := 188) rfl rfl⟩
theorem fl_X8_19 : az_fl RX8 19 8 2 := ⟨by decide, by decide, az_in1 (i := 189) rfl rfl⟩
theorem fl_X8_9 : az_fl RX8 9 8 3 := ⟨by decide, by decide, az_in1 (i := 190) rfl rfl⟩
theorem fl_X1_101 : az_fl RX1 101 1 0 := ⟨by decide, by decide, az_in1 (i := 210) rfl rfl⟩
theorem fl_X11_225 : az_fl RX11 225 1 0 := ⟨by decide, by decide, az_in1 (i := 211) rfl rfl⟩
theorem fl_X1_104 : az_fl RX1 104 1 1 := ⟨by decide, by decide, az_in1 (i := 212) rfl rfl⟩
theorem fl_X1_29 : az_fl RX1 29 1 2 := ⟨by decide, by decide, az_in1 (i := 213) rfl rfl⟩
theorem fl_X1_32 : az_fl RX1 32 1 3 := ⟨by decide, by decide, az_in1 (i := 214) rfl rfl⟩
theorem fl_X1_36 : az_fl RX1 36 1 4 := ⟨by decide, by decide, az_in1 (i := 215) rfl rfl⟩
theorem fl_X1_39 : az_fl RX1 39 1 5 := ⟨by decide, by decide, az_in1 (i := 216) rfl rfl⟩
theorem fl_X1_12 : az_fl RX1 12 1 6 := ⟨by decide, by decide, az_in1 (i := 217) rfl rfl⟩
theorem fl_X1_21 : az_fl RX1 21 1 7 := ⟨by decide, by decide, az_in1 (i := 218) rfl rfl⟩
theorem fl_X1_25 : az_fl RX1 25 1 8 := ⟨by decide, by decide, az_in1 (i := 219) rfl rfl⟩
theorem fl_X2_9 : az_fl RX2 9 2 0 := ⟨by decide, by decide, az_in2 (i := 7) rfl rfl⟩
theorem fl_X11_306 : az_fl RX11 306 2 0 := ⟨by decide, by decide, az_in2 (i := 8) rfl rfl⟩
theorem fl_X2_15 : az_fl RX2 15 2 1 := ⟨by decide, by decide, az_in2 (i := 9) rfl rfl⟩
theorem fl_X11_302 : az_fl RX11 302 2 1 := ⟨by decide, by decide, az_in2 (i := 10) rfl rfl⟩
theorem fl_X2_72 : az_fl RX2 72 2 2 := ⟨by decide, by decide, az_in2 (i := 11) rfl rfl⟩
theorem fl_X11_289 : az_fl RX11 289 2 2 := ⟨by decide, by decide, az_in2 (i := 12) rfl rfl⟩
theorem fl_X2_76 : az_fl RX2 76 2 3 := ⟨by decide, by decide, az_in2 (i := 13) rfl rfl⟩
theorem fl_X11_292 : az_fl RX11 292 2 3 := ⟨by decide, by decide, az_in2 (i := 14) rfl rfl⟩
theorem fl_X2_33 : az_fl RX2 33 2 4 := ⟨by decide, by decide, az_in2 (i := 15) rfl rfl⟩
theorem fl_X2_36 : az_fl RX2 36 2 5 := ⟨by decide, by decide, az_in2 (i := 16) rfl rfl⟩
theorem fl_X2_22 : az_fl RX2 22 2 6 := ⟨by decide, by decide, az_in2 (i := 17) rfl rfl⟩
theorem fl_X2_26 : az_fl RX2 26 2 7 := ⟨by decide, by decide, az_in2 (i := 18) rfl rfl⟩
theorem fl_X2_29 : az_fl RX2 29 2 8 := ⟨by decide, by decide, az_in2 (i := 19) rfl rfl⟩
theorem fl_X7_63 : az_fl RX7 63 7 0 := ⟨by decide, by decide, az_in2 (i := 48) rfl rfl⟩
theorem fl_X11_254 : az_fl RX11 254 7 0 := ⟨by decide, by decide, az_in2 (i := 49) rfl rfl⟩
theorem fl_X7_73 : az_fl RX7 73 7 1 := ⟨by decide, by decide, az_in2 (i := 50) rfl rfl⟩
theorem fl_X11_259 : az_fl RX11 259 7 1 := ⟨by decide, by decide, az_in2 (i := 51) rfl rfl⟩
theorem fl_X7_100 : az_fl RX7 100 7 2 := ⟨by decide, by decide, az_in2 (i := 52) rfl rfl⟩
theorem fl_X11_265 : az_fl RX11 265 7 2 := ⟨by decide, by decide, az_in2 (i := 53) rfl rfl⟩
theorem fl_X7_97 : az_fl RX7 97 7 3 := ⟨by decide, by decide, az_in2 (i := 54) rfl rfl⟩
theorem fl_X11_256 : az_fl RX11 256 7 3 := ⟨by decide, by decide, az_in2 (i := 55) rfl rfl⟩
theorem fl_X7_32 : az_fl RX7 32 7 4 := ⟨by decide, by decide, az_in2 (i := 56) rfl rfl⟩
theorem fl_X7_35 : az_fl RX7 35 7 5 := ⟨by decide, by decide, az_in2 (i := 57) rfl rfl⟩
theorem fl_X7_12 : az_fl RX7 12 7 6 := ⟨by decide, by decide, az_in2 (i := 58) rfl rfl⟩
theorem fl_X7_18 : az_fl RX7 18 7 7 := ⟨by decide, by decide, az_in2 (i := 59) rfl rfl⟩
theorem fl_X7_22 : az_fl RX7 22 7 8 := ⟨by decide, by decide, az_in2 (i := 60) rfl rfl⟩
theorem fl_X7_25 : az_fl RX7 25 7 9 := ⟨by decide, by decide, az_in2 (i := 61) rfl rfl⟩
theorem fl_X7_43 : az_fl RX7 43 7 10 := ⟨by decide, by decide, az_in2 (i := 62) rfl rfl⟩
theorem fl_X7_67 : az_fl RX7 67 7 11 := ⟨by decide, by decide, az_in2 (i := 63) rfl rfl⟩
theorem fl_X7_70 : az_fl RX7 70 7 12 := ⟨by decide, by decide, az_in2 (i := 64) rfl rfl⟩
theorem fl_X7_28 : az_fl RX7 28 7 13 := ⟨by decide, by decide, az_in2 (i := 65) rfl rfl⟩
theorem fl_X11_14 : az_fl RX11 14 11 0 := ⟨by decide, by decide, az_in2 (i := 95) rfl rfl⟩
theorem fl_X11_21 : az_fl RX11 21 11 1 := ⟨by decide, by decide, az_in2 (i := 96) rfl rfl⟩
theorem fl_X11_28 : az_fl RX11 28 11 2 := ⟨by decide, by decide, az_in2 (i := 97) rfl rfl⟩
theorem fl_X11_75 : az_fl RX11 75 11 3 := ⟨by decide, by decide, az_in2 (i := 98) rfl rfl⟩
theorem fl_X11_84 : az_fl RX11 84 11 4 := ⟨by decide, by decide, az_in2 (i := 99) rfl rfl⟩
theorem fl_X11_35 : az_fl RX11 35 11 5 := ⟨by decide, by decide, az_in2 (i := 100) rfl rfl⟩
theorem fl_X11_93 : az_fl RX11 93 11 6 := ⟨by decide, by decide, az_in2 (i := 101) rfl rfl⟩
theorem fl_X11_102 : az_fl RX11 102 11 7 := ⟨by decide, by decide, az_in2 (i := 102) rfl rfl⟩
theorem fl_X11_109 : az_fl RX11 109 11 8 := ⟨by decide, by decide, az_in2 (i := 103) rfl rfl⟩
theorem fl_X11_39 : az_fl RX11 39 11 9 := ⟨by decide, by decide, az_in2 (i := 104) rfl rfl⟩
theorem fl_X11_43 : az_fl RX11 43 11 10 := ⟨by decide, by decide, az_in2 (i := 105) rfl rfl⟩
theorem fl_X11_47 : az_fl RX11 47 11 11 := ⟨by decide, by decide, az_in2 (i := 106) rfl rfl⟩
theorem fl_X11_51 : az_fl RX11 51 11 12 := ⟨by decide, by decide, az_in2 (i := 107) rfl rfl⟩
theorem fl_X11_55 : az_fl RX11 55 11 13 := ⟨by decide, by decide, az_in2 (i := 108) rfl rfl⟩
theorem fl_X11_58 : az_fl RX11 58 11 14 := ⟨by decide, by decide, az_in2 (i := 109) rfl rfl⟩
theorem fl_X11_61 : az_fl RX11 61 11 15 := ⟨by decide, by decide, az_in2 (i := 110) rfl rfl⟩
theorem gs_X11_113 : Cond.fieldLink RX11 113 "OneBullet" (az_st 0) "[I" ∈ az_B := az_in2 (i := 148) rfl rfl
theorem gs_X11_170 : Cond.fieldLink RX11 170 "OneBullet" (az_st 2) "[I" ∈ az_B := az_in3 (i := 47) rfl rfl
theorem gs_X11_173 : Cond.fieldLink RX11 173 "OneBullet" (az_st 1) "[I" ∈ az_B := az_in3 (i := 49) rfl rfl
theorem fl_X12_149 : az_fl RX12 149 12 0 := ⟨by decide, by decide, az_in5 (i := 69) rfl rfl⟩
theorem fl_X12_152 : az_fl RX12 152 12 1 := ⟨by decide, by decide, az_in5 (i := 70) rfl rfl⟩
theorem fl_X12_7 : az_fl RX12 7 12 2 := ⟨by decide, by decide, az_in5 (i := 71) rfl rfl⟩
theorem fl_X12_13 : az_fl RX12 13 12 3 := ⟨by decide, by decide, az_in5 (i := 72) rfl rfl⟩
theorem fl_X12_16 : az_fl RX12 16 12 4 := ⟨by decide, by decide, az_in5 (i := 73) rfl rfl⟩
theorem fl_X12_19 : az_fl RX12 19 12 5 := ⟨by decide, by decide, az_in5 (i := 74) rfl rfl⟩
theorem fl_X12_23 : az_fl RX12 23 12 6 := ⟨by decide, by decide, az_in5 (i := 75) rfl rfl⟩
theorem fl_X12_26 : az_fl RX12 26 12 7 := ⟨by decide, by decide, az_in5 (i := 76) rfl rfl⟩
theorem fl_X12_155 : az_fl RX12 155 12 8 := ⟨by decide, by decide, az_in5 (i := 77) rfl rfl⟩
theorem fl_X12_29 : az_fl RX12 29 12 9 := ⟨by decide, by decide, az_in5 (i := 78) rfl rfl⟩
theorem fl_X12_32 : az_fl RX12 32 12 10 := ⟨by decide, by decide, az_in5 (i := 79) rfl rfl⟩
theorem fl_X12_261 : az_fl RX12 261 12 11 := ⟨by decide, by decide, az_in5 (i := 80) rfl rfl⟩
theorem fl_X12_35 : az_fl RX12 35 12 12 := ⟨by decide, by decide, az_in5 (i := 81) rfl rfl⟩
theorem fl_X12_258 : az_fl RX12 258 12 13 := ⟨by decide, by decide, az_in5 (i := 82) rfl rfl⟩
theorem fl_X12_277 : az_fl RX12 277 12 14 := ⟨by decide, by decide, az_in5 (i := 83) rfl rfl⟩
theorem fl_X12_267 : az_fl RX12 267 12 15 := ⟨by decide, by decide, az_in5 (i := 84) rfl rfl⟩
theorem fl_X12_290 : az_fl RX12 290 12 16 := ⟨by decide, by decide, az_in5 (i := 85) rfl rfl⟩
theorem fl_X12_280 : az_fl RX12 280 12 17 := ⟨by decide, by decide, az_in5 (i := 86) rfl rfl⟩
theorem fl_X12_38 : az_fl RX12 38 12 18 := ⟨by decide, by decide, az_in5 (i := 87) rfl rfl⟩
theorem fl_X12_270 : az_fl RX12 270 12 19 := ⟨by decide, by decide, az_in5 (i := 88) rfl rfl⟩
theorem fl_X12_345 : az_fl RX12 345 12 20 := ⟨by decide, by decide, az_in5 (i := 89) rfl rfl⟩
theorem fl_X12_398 : az_fl RX12 398 12 21 := ⟨by decide, by decide, az_in5 (i := 90) rfl rfl⟩
theorem fl_X12_42 : az_fl RX12 42 12 22 := ⟨by decide, by decide, az_in5 (i := 91) rfl rfl⟩
theorem fl_X12_307 : az_fl RX12 307 12 23 := ⟨by decide, by decide, az_in5 (i := 92) rfl rfl⟩
theorem fl_X12_45 : az_fl RX12 45 12 24 := ⟨by decide, by decide, az_in5 (i := 93) rfl rfl⟩
theorem fl_X12_48 : az_fl RX12 48 12 25 := ⟨by decide, by decide, az_in5 (i := 94) rfl rfl⟩
theorem fl_X12_336 : az_fl RX12 336 12 26 := ⟨by decide, by decide, az_in5 (i := 95) rfl rfl⟩
theorem fl_X12_51 : az_fl RX12 51 12 27 := ⟨by decide, by decide, az_in5 (i := 96) rfl rfl⟩
theorem fl_X12_54 : az_fl RX12 54 12 28 := ⟨by decide, by decide, az_in5 (i := 97) rfl rfl⟩
theorem fl_X12_310 : az_fl RX12 310 12 29 := ⟨by decide, by decide, az_in5 (i := 98) rfl rfl⟩
theorem fl_X12_330 : az_fl RX12 330 12 30 := ⟨by decide, by decide, az_in5 (i := 99) rfl rfl⟩
theorem fl_X12_79 : az_fl RX12 79 12 31 := ⟨by decide, by decide, az_in5 (i := 100) rfl rfl⟩
theorem fl_X12_91 : az_fl RX12 91 12 32 := ⟨by decide, by decide, az_in5 (i := 101) rfl rfl⟩
theorem fl_X12_104 : az_fl RX12 104 12 33 := ⟨by decide, by decide, az_in5 (i := 102) rfl rfl⟩
theorem fl_X12_418 : az_fl RX12 418 12 34 := ⟨by decide, by decide, az_in5 (i := 103) rfl rfl⟩
theorem fl_X12_107 : az_fl RX12 107 12 35 := ⟨by decide, by decide, az_in5 (i := 104) rfl rfl⟩
theorem fl_X12_110 : az_fl RX12 110 12 36 := ⟨by decide, by decide, az_in5 (i := 105) rfl rfl⟩
theorem fl_X12_113 : az_fl RX12 113 12 37 := ⟨by decide, by decide, az_in5 (i := 106) rfl rfl⟩
theorem fl_X12_415 : az_fl RX12 415 12 38 := ⟨by decide, by decide, az_in5 (i := 107) rfl rfl⟩
theorem fl_X12_429 : az_fl RX12 429 12 39 := ⟨by decide, by decide, az_in5 (i := 108) rfl rfl⟩
theorem fl_X12_435 : az_fl RX12 435 12 40 := ⟨by decide, by decide, az_in5 (i := 109) rfl rfl⟩
theorem fl_X12_466 : az_fl RX12 466 12 41 := ⟨by decide, by decide, az_in5 (i := 110) rfl rfl⟩
theorem fl_X12_116 : az_fl RX12 116 12 42 := ⟨by decide, by decide, az_in5 (i := 111) rfl rfl⟩
theorem fl_X12_119 : az_fl RX12 119 12 43 := ⟨by decide, by decide, az_in5 (i := 112) rfl rfl⟩
theorem fl_X12_122 : az_fl RX12 122 12 44 := ⟨by decide, by decide, az_in5 (i := 113) rfl rfl⟩
theorem fl_X12_125 : az_fl RX12 125 12 45 := ⟨by decide, by decide, az_in5 (i := 114) rfl rfl⟩
theorem fl_X12_128 : az_fl RX12 128 12 46 := ⟨by decide, by decide, az_in5 (i := 115) rfl rfl⟩
theorem fl_X12_497 : az_fl RX12 497 12 47 := ⟨by decide, by decide, az_in5 (i := 116) rfl rfl⟩
theorem fl_X12_494 : az_fl RX12 494 12 48 := ⟨by decide, by decide, az_in5 (i := 117) rfl rfl⟩
theorem fl_X12_131 : az_fl RX12 131 12 49 := ⟨by decide, by decide, az_in5 (i := 118) rfl rfl⟩
theorem fl_X12_134 : az_fl RX12 134 12 50 := ⟨by decide, by decide, az_in5 (i := 119) rfl rfl⟩
theorem fl_X12_137 : az_fl RX12 137 12 51 := ⟨by decide, by decide, az_in5 (i := 120) rfl rfl⟩
theorem fl_X12_140 : az_fl RX12 140 12 52 := ⟨by decide, by decide, az_in5 (i := 121) rfl rfl⟩
theorem fl_X12_548 : az_fl RX12 548 12 53 := ⟨by decide, by decide, az_in5 (i := 122) rfl rfl⟩
theorem fl_X12_551 : az_fl RX12 551 12 54 := ⟨by decide, by decide, az_in5 (i := 123) rfl rfl⟩
theorem fl_X12_143 : az_fl RX12 143 12 55 := ⟨by decide, by decide, az_in5 (i := 124) rfl rfl⟩
theorem fl_X12_545 : az_fl RX12 545 12 56 := ⟨by decide, by decide, az_in5 (i := 125) rfl rfl⟩
theorem fl_X12_146 : az_fl RX12 146 12 57 := ⟨by decide, by decide, az_in5 (i := 126) rfl rfl⟩
theorem fl_X12_569 : az_fl RX12 569 12 58 := ⟨by decide, by decide, az_in5 (i := 127) rfl rfl⟩
theorem ck_X6_20 : Cond.constant RX6 20 (-2147483648) ∈ az_B := az_in2 (i := 224) rfl rfl
theorem ck_X8_53 : Cond.constant RX8 53 (-2147483648) ∈ az_B := az_in2 (i := 231) rfl rfl
theorem ck_X1_122 : Cond.constant RX1 122 (-2147483648) ∈ az_B := az_in4 (i := 24) rfl rfl
theorem ck_X1_74 : Cond.constant RX1 74 (1000000) ∈ az_B := az_in4 (i := 53) rfl rfl
theorem ck_X8_101 : Cond.constant RX8 101 (1000003) ∈ az_B := az_in4 (i := 64) rfl rfl
theorem ck_X2_47 : Cond.constant RX2 47 (100000000) ∈ az_B := az_in4 (i := 135) rfl rfl
theorem ck_J6_265 : Cond.constant RJ6 265 (1431655765) ∈ az_B := az_in4 (i := 202) rfl rfl
theorem ck_J6_266 : Cond.constant RJ6 266 (858993459) ∈ az_B := az_in4 (i := 203) rfl rfl
theorem ck_J6_267 : Cond.constant RJ6 267 (252645135) ∈ az_B := az_in4 (i := 204) rfl rfl
theorem ck_X11_298 : Cond.constant RX11 298 (1000000) ∈ az_B := az_in5 (i := 8) rfl rfl
theorem ck_X12_490 : Cond.constant RX12 490 (100000000) ∈ az_B := az_in7 (i := 160) rfl rfl
theorem ck_X6_29 : Cond.constantLong RX6 29 (-2147483648) ∈ az_B := az_in2 (i := 228) rfl rfl
theorem ck_X6_25 : Cond.constantLong RX6 25 (1000000000) ∈ az_B := az_in2 (i := 229) rfl rfl
theorem ck_X6_27 : Cond.constantLong RX6 27 (-1000000000) ∈ az_B := az_in2 (i := 230) rfl rfl
theorem ck_X12_57 : Cond.constantLong RX12 57 (542723566) ∈ az_B := az_in5 (i := 49) rfl rfl
theorem ck_X12_59 : Cond.constantLong RX12 59 (1325) ∈ az_B := az_in5 (i := 50) rfl rfl
theorem ck_X12_61 : Cond.constantLong RX12 61 (17171557) ∈ az_B := az_in5 (i := 51) rfl rfl
theorem ck_X12_63 : Cond.constantLong RX12 63 (370116) ∈ az_B := az_in5 (i := 52) rfl rfl
theorem ck_X12_65 : Cond.constantLong RX12 65 (263748) ∈ az_B := az_in5 (i := 53) rfl rfl
theorem ck_X12_67 : Cond.constantLong RX12 67 (4373139) ∈ az_B := az_in5 (i := 54) rfl rfl
theorem ck_X12_69 : Cond.constantLong RX12 69 (777297172) ∈ az_B := az_in5 (i := 55) rfl rfl
theorem ck_X12_71 : Cond.constantLong RX12 71 (208948) ∈ az_B := az_in5 (i := 56) rfl rfl
theorem ck_X12_73 : Cond.constantLong RX12 73 (611956) ∈ az_B := az_in5 (i := 57) rfl rfl
theorem ck_X12_75 : Cond.constantLong RX12 75 (4153) ∈ az_B := az_in5 (i := 58) rfl rfl
theorem ck_X12_77 : Cond.constantLong RX12 77 (441828) ∈ az_B := az_in5 (i := 59) rfl rfl
theorem ck_X12_83 : Cond.constantLong RX12 83 (14839) ∈ az_B := az_in5 (i := 60) rfl rfl
theorem ck_X12_85 : Cond.constantLong RX12 85 (146885) ∈ az_B := az_in5 (i := 61) rfl rfl
theorem ck_X12_87 : Cond.constantLong RX12 87 (5705892) ∈ az_B := az_in5 (i := 62) rfl rfl
theorem ck_X12_89 : Cond.constantLong RX12 89 (284244) ∈ az_B := az_in5 (i := 63) rfl rfl
theorem ck_X12_94 : Cond.constantLong RX12 94 (42419) ∈ az_B := az_in5 (i := 64) rfl rfl
theorem ck_X12_96 : Cond.constantLong RX12 96 (24282707) ∈ az_B := az_in5 (i := 65) rfl rfl
theorem ck_X12_98 : Cond.constantLong RX12 98 (219098518995) ∈ az_B := az_in5 (i := 66) rfl rfl
theorem ck_X12_100 : Cond.constantLong RX12 100 (556043443) ∈ az_B := az_in5 (i := 67) rfl rfl
theorem ck_X12_102 : Cond.constantLong RX12 102 (67155) ∈ az_B := az_in5 (i := 68) rfl rfl
theorem ck_X12_176 : Cond.constantLong RX12 176 (2) ∈ az_B := az_in6 (i := 39) rfl rfl
theorem ck_X12_178 : Cond.constantLong RX12 178 (999) ∈ az_B := az_in6 (i := 40) rfl rfl
theorem ck_X12_180 : Cond.constantLong RX12 180 (99) ∈ az_B := az_in6 (i := 41) rfl rfl
theorem ck_X12_192 : Cond.constantLong RX12 192 (5) ∈ az_B := az_in6 (i := 50) rfl rfl
theorem ck_X12_198 : Cond.constantLong RX12 198 (3) ∈ az_B := az_in6 (i := 71) rfl rfl
theorem ck_X12_200 : Cond.constantLong RX12 200 (20) ∈ az_B := az_in6 (i := 72) rfl rfl
theorem ck_X12_210 : Cond.constantLong RX12 210 (6) ∈ az_B := az_in6 (i := 81) rfl rfl
theorem ck_X12_297 : Cond.constantLong RX12 297 (-1) ∈ az_B := az_in6 (i := 94) rfl rfl
theorem ck_X12_425 : Cond.constantLong RX12 425 (-1000000000) ∈ az_B := az_in6 (i := 115) rfl rfl
theorem ck_X12_427 : Cond.constantLong RX12 427 (1000000000) ∈ az_B := az_in6 (i := 116) rfl rfl
theorem ck_X12_449 : Cond.constantLong RX12 449 (2000000000) ∈ az_B := az_in6 (i := 128) rfl rfl
theorem ck_X12_224 : Cond.constantLong RX12 224 (10) ∈ az_B := az_in6 (i := 133) rfl rfl
theorem ck_X12_248 : Cond.constantLong RX12 248 (4) ∈ az_B := az_in6 (i := 158) rfl rfl
theorem ck_X12_253 : Cond.constantLong RX12 253 (9) ∈ az_B := az_in6 (i := 178) rfl rfl
theorem ck_X12_293 : Cond.constantLong RX12 293 (32) ∈ az_B := az_in6 (i := 225) rfl rfl
theorem ck_X12_295 : Cond.constantLong RX12 295 (96) ∈ az_B := az_in6 (i := 226) rfl rfl
theorem ck_X12_299 : Cond.constantLong RX12 299 (1000000) ∈ az_B := az_in6 (i := 227) rfl rfl
theorem ck_X12_301 : Cond.constantLong RX12 301 (48) ∈ az_B := az_in6 (i := 228) rfl rfl
theorem ck_X12_367 : Cond.constantLong RX12 367 (14836) ∈ az_B := az_in7 (i := 9) rfl rfl
theorem ck_X12_355 : Cond.constantLong RX12 355 (1000) ∈ az_B := az_in7 (i := 34) rfl rfl
theorem ck_X12_361 : Cond.constantLong RX12 361 (11) ∈ az_B := az_in7 (i := 43) rfl rfl
theorem ck_X12_320 : Cond.constantLong RX12 320 (24) ∈ az_B := az_in7 (i := 67) rfl rfl
theorem ck_X12_322 : Cond.constantLong RX12 322 (25) ∈ az_B := az_in7 (i := 68) rfl rfl
theorem ck_X12_324 : Cond.constantLong RX12 324 (27) ∈ az_B := az_in7 (i := 69) rfl rfl
theorem ck_X12_381 : Cond.constantLong RX12 381 (1476) ∈ az_B := az_in7 (i := 74) rfl rfl
theorem ck_X12_383 : Cond.constantLong RX12 383 (498) ∈ az_B := az_in7 (i := 75) rfl rfl
theorem ck_X12_404 : Cond.constantLong RX12 404 (294) ∈ az_B := az_in7 (i := 76) rfl rfl
theorem ck_X12_469 : Cond.constantLong RX12 469 (1103) ∈ az_B := az_in7 (i := 133) rfl rfl
theorem ck_X12_471 : Cond.constantLong RX12 471 (12345) ∈ az_B := az_in7 (i := 134) rfl rfl
theorem ck_X12_473 : Cond.constantLong RX12 473 (1000003) ∈ az_B := az_in7 (i := 135) rfl rfl
theorem ck_X12_530 : Cond.constantLong RX12 530 (206405) ∈ az_B := az_in7 (i := 231) rfl rfl
theorem ck_X12_532 : Cond.constantLong RX12 532 (152748) ∈ az_B := az_in7 (i := 232) rfl rfl
theorem ck_X12_534 : Cond.constantLong RX12 534 (595572) ∈ az_B := az_in7 (i := 233) rfl rfl
theorem ck_X12_539 : Cond.constantLong RX12 539 (52) ∈ az_B := az_in7 (i := 238) rfl rfl
theorem ck_X12_541 : Cond.constantLong RX12 541 (89) ∈ az_B := az_in7 (i := 239) rfl rfl
theorem ck_X12_543 : Cond.constantLong RX12 543 (21279923) ∈ az_B := az_in8 (i := 0) rfl rfl
theorem ck_X12_567 : Cond.constantLong RX12 567 (30) ∈ az_B := az_in8 (i := 21) rfl rfl
theorem ck_X12_572 : Cond.constantLong RX12 572 (13) ∈ az_B := az_in8 (i := 30) rfl rfl
theorem ck_X12_574 : Cond.constantLong RX12 574 (17) ∈ az_B := az_in8 (i := 31) rfl rfl
theorem li_X11_67 : az_lV RX11 67 (az_R 4) yX4_found cX4_found 1 none 0 := ⟨⟨az_in1 (i := 115) rfl rfl, az_in1 (i := 116) rfl rfl, az_in1 (i := 117) rfl rfl, az_in1 (i := 2) rfl rfl, az_in1 (i := 118) rfl rfl⟩, by decide +kernel, by decide⟩
theorem li_L_13 : az_lV RL 13 (az_R 11) yX11_put cX11_put 4 (some .int) 2 := ⟨⟨az_in2 (i := 144) rfl rfl, az_in2 (i := 145) rfl rfl, az_in2 (i := 146) rfl rfl, az_in1 (i := 1) rfl rfl, az_in2 (i := 147) rfl rfl⟩, by decide +kernel, by decide⟩
theorem li_X11_116 : az_lV RX11 116 (az_R 11) yX11_refuse cX11_refuse 2 (some .int) 1 := ⟨⟨az_in2 (i := 150) rfl rfl, az_in2 (i := 152) rfl rfl, az_in0 (i := 0) rfl rfl, az_in1 (i := 1) rfl rfl, az_in2 (i := 153) rfl rfl⟩, by decide +kernel, by decide⟩
theorem li_X11_123 : az_lV RX11 123 (az_R 11) yX11_settleAnew cX11_settleAnew 2 (some .int) 1 := ⟨⟨az_in2 (i := 154) rfl rfl, az_in2 (i := 156) rfl rfl, az_in0 (i := 1) rfl rfl, az_in1 (i := 1) rfl rfl, az_in2 (i := 157) rfl rfl⟩, by decide +kernel, by decide⟩
theorem li_X11_319 : az_lV RX11 319 (az_R 3) yX3_clear cX3_clear 1 none 0 := ⟨⟨az_in2 (i := 158) rfl rfl, az_in2 (i := 159) rfl rfl, az_in2 (i := 160) rfl rfl, az_in1 (i := 5) rfl rfl, az_in2 (i := 161) rfl rfl⟩, by decide +kernel, by decide⟩
theorem li_X11_209 : az_lV RX11 209 (az_R 11) yX11_settle cX11_settle 2 (some .int) 1 := ⟨⟨az_in2 (i := 162) rfl rfl, az_in2 (i := 164) rfl rfl, az_in0 (i := 2) rfl rfl, az_in1 (i := 1) rfl rfl, az_in2 (i := 165) rfl rfl⟩, by decide +kernel, by decide⟩
theorem li_X11_316 : az_lV RX11 316 (az_R 7) yX7_forget cX7_forget 1 none 0 := ⟨⟨az_in2 (i := 166) rfl rfl, az_in2 (i := 167) rfl rfl, az_in2 (i := 168) rfl rfl, az_in1 (i := 12) rfl rfl, az_in2 (i := 169) rfl rfl⟩, by decide +kernel, by decide⟩
theorem li_L_18 : az_lV RL 18 (az_R 11) yX11_bullet cX11_bullet 2 (some .int) 1 := ⟨⟨az_in2 (i := 170) rfl rfl, az_in2 (i := 171) rfl rfl, az_in2 (i := 172) rfl rfl, az_in1 (i := 1) rfl rfl, az_in2 (i := 173) rfl rfl⟩, by decide +kernel, by decide⟩
theorem li_X11_126 : az_lV RX11 126 (az_R 4) yX4_canBeFired cX4_canBeFired 1 (some .boolean) 0 := ⟨⟨az_in2 (i := 174) rfl rfl, az_in2 (i := 175) rfl rfl, az_in2 (i := 176) rfl rfl, az_in1 (i := 2) rfl rfl, az_in2 (i := 177) rfl rfl⟩, by decide +kernel, by decide⟩
theorem li_X11_130 : az_lV RX11 130 (az_R 4) yX4_shotAt cX4_shotAt 2 (some .int) 1 := ⟨⟨az_in2 (i := 178) rfl rfl, az_in2 (i := 179) rfl rfl, az_in2 (i := 180) rfl rfl, az_in1 (i := 2) rfl rfl, az_in2 (i := 181) rfl rfl⟩, by decide +kernel, by decide⟩
theorem li_L_23 : az_lV RL 23 (az_R 11) yX11_place cX11_place 4 (some .int) 3 := ⟨⟨az_in2 (i := 182) rfl rfl, az_in2 (i := 183) rfl rfl, az_in2 (i := 184) rfl rfl, az_in1 (i := 1) rfl rfl, az_in2 (i := 185) rfl rfl⟩, by decide +kernel, by decide⟩
theorem li_X11_133 : az_lS RX11 133 yX11_isPlace cX11_isPlace 3 (some .boolean) 3 := ⟨⟨az_in2 (i := 186) rfl rfl, az_in2 (i := 187) rfl rfl, az_in1 (i := 1) rfl rfl, az_in2 (i := 188) rfl rfl⟩, by decide +kernel, by decide⟩
theorem li_X11_137 : az_lV RX11 137 (az_R 4) yX4_addPlace cX4_addPlace 5 (some .int) 3 := ⟨⟨az_in2 (i := 189) rfl rfl, az_in2 (i := 190) rfl rfl, az_in2 (i := 191) rfl rfl, az_in1 (i := 2) rfl rfl, az_in2 (i := 192) rfl rfl⟩, by decide +kernel, by decide⟩
theorem li_L_28 : az_lV RL 28 (az_R 11) yX11_at cX11_at 3 (some .int) 2 := ⟨⟨az_in2 (i := 193) rfl rfl, az_in2 (i := 194) rfl rfl, az_in2 (i := 195) rfl rfl, az_in1 (i := 1) rfl rfl, az_in2 (i := 196) rfl rfl⟩, by decide +kernel, by decide⟩
theorem li_X11_141 : az_lV RX11 141 (az_R 4) yX4_hasPlace cX4_hasPlace 2 (some .boolean) 1 := ⟨⟨az_in2 (i := 197) rfl rfl, az_in2 (i := 198) rfl rfl, az_in2 (i := 199) rfl rfl, az_in1 (i := 2) rfl rfl, az_in2 (i := 200) rfl rfl⟩, by decide +kernel, by decide⟩
theorem li_X11_145 : az_lV RX11 145 (az_R 8) yX8_ask cX8_ask 9 (some .int) 4 := ⟨⟨az_in2 (i := 201) rfl rfl, az_in2 (i := 202) rfl rfl, az_in2 (i := 203) rfl rfl, az_in1 (i := 9) rfl rfl, az_in2 (i := 204) rfl rfl⟩, by decide +kernel, by decide⟩
theorem li_X8_23 : az_lV RX8 23 (az_R 0) yX0_lawInForce cX0_lawInForce 1 (some (.object "OneBullet$Text")) 0 := ⟨⟨az_in2 (i := 205) rfl rfl, az_in2 (i := 206) rfl rfl, az_in2 (i := 207) rfl rfl, az_in1 (i := 3) rfl rfl, az_in2 (i := 208) rfl rfl⟩, by decide +kernel, by decide⟩
theorem li_X8_29 : az_lS RX8 29 yX8_withoutLaw cX8_withoutLaw 4 (some .int) 4 := ⟨⟨az_in2 (i := 209) rfl rfl, az_in2 (i := 210) rfl rfl, az_in1 (i := 9) rfl rfl, az_in2 (i := 211) rfl rfl⟩, by decide +kernel, by decide⟩
theorem li_X8_39 : az_lV RX8 39 (az_R 10) yX10_get cX10_get 3 (some .int) 2 := ⟨⟨az_in2 (i := 212) rfl rfl, az_in2 (i := 213) rfl rfl, az_in2 (i := 214) rfl rfl, az_in1 (i := 8) rfl rfl, az_in2 (i := 215) rfl rfl⟩, by decide +kernel, by decide⟩
theorem li_X8_43 : az_lV RX8 43 (az_R 8) yX8_setWords cX8_setWords 4 none 3 := ⟨⟨az_in2 (i := 216) rfl rfl, az_in2 (i := 218) rfl rfl, az_in0 (i := 3) rfl rfl, az_in1 (i := 9) rfl rfl, az_in2 (i := 219) rfl rfl⟩, by decide +kernel, by decide⟩
theorem li_X8_47 : az_lV RX8 47 (az_R 6) yX6_reckon cX6_reckon 12 (some .int) 4 := ⟨⟨az_in2 (i := 220) rfl rfl, az_in2 (i := 221) rfl rfl, az_in2 (i := 222) rfl rfl, az_in1 (i := 6) rfl rfl, az_in2 (i := 223) rfl rfl⟩, by decide +kernel, by decide⟩
theorem li_X6_21 : az_lS RX6 21 yX6_join cX6_join 5 (some .long) 3 := ⟨⟨az_in2 (i := 225) rfl rfl, az_in2 (i := 226) rfl rfl, az_in1 (i := 6) rfl rfl, az_in2 (i := 227) rfl rfl⟩, by decide +kernel, by decide⟩
theorem lm_X8_57 : az_lM RX8 57 Lib.Math.min.name Lib.Math.min.code := ⟨az_in2 (i := 234) rfl rfl, az_in2 (i := 235) rfl rfl, az_in1 (i := 14) rfl rfl, az_in2 (i := 236) rfl rfl⟩
theorem lm_X8_62 : az_lM RX8 62 Lib.Math.max.name Lib.Math.max.code := ⟨az_in2 (i := 237) rfl rfl, az_in2 (i := 238) rfl rfl, az_in1 (i := 14) rfl rfl, az_in2 (i := 239) rfl rfl⟩
theorem li_L_32 : az_lV RL 32 (az_R 11) yX11_person cX11_person 3 (some .int) 2 := ⟨⟨az_in3 (i := 0) rfl rfl, az_in3 (i := 1) rfl rfl, az_in3 (i := 2) rfl rfl, az_in1 (i := 1) rfl rfl, az_in3 (i := 3) rfl rfl⟩, by decide +kernel, by decide⟩
theorem li_X11_149 : az_lV RX11 149 (az_R 4) yX4_addPerson cX4_addPerson 4 (some .int) 2 := ⟨⟨az_in3 (i := 4) rfl rfl, az_in3 (i := 5) rfl rfl, az_in3 (i := 6) rfl rfl, az_in1 (i := 2) rfl rfl, az_in3 (i := 7) rfl rfl⟩, by decide +kernel, by decide⟩
theorem li_L_36 : az_lV RL 36 (az_R 11) yX11_of cX11_of 3 (some .int) 2 := ⟨⟨az_in3 (i := 8) rfl rfl, az_in3 (i := 9) rfl rfl, az_in3 (i := 10) rfl rfl, az_in1 (i := 1) rfl rfl, az_in3 (i := 11) rfl rfl⟩, by decide +kernel, by decide⟩
theorem li_X11_153 : az_lV RX11 153 (az_R 4) yX4_hasPerson cX4_hasPerson 2 (some .boolean) 1 := ⟨⟨az_in3 (i := 12) rfl rfl, az_in3 (i := 13) rfl rfl, az_in3 (i := 14) rfl rfl, az_in1 (i := 2) rfl rfl, az_in3 (i := 15) rfl rfl⟩, by decide +kernel, by decide⟩
theorem li_X11_156 : az_lV RX11 156 (az_R 4) yX4_isHurt cX4_isHurt 2 (some .boolean) 1 := ⟨⟨az_in3 (i := 16) rfl rfl, az_in3 (i := 17) rfl rfl, az_in3 (i := 18) rfl rfl, az_in1 (i := 2) rfl rfl, az_in3 (i := 19) rfl rfl⟩, by decide +kernel, by decide⟩
theorem li_L_40 : az_lV RL 40 (az_R 11) yX11_quarrel cX11_quarrel 5 (some .int) 4 := ⟨⟨az_in3 (i := 20) rfl rfl, az_in3 (i := 21) rfl rfl, az_in3 (i := 22) rfl rfl, az_in1 (i := 1) rfl rfl, az_in3 (i := 23) rfl rfl⟩, by decide +kernel, by decide⟩
theorem li_X11_159 : az_lV RX11 159 (az_R 4) yX4_addQuarrel cX4_addQuarrel 6 (some .int) 4 := ⟨⟨az_in3 (i := 24) rfl rfl, az_in3 (i := 25) rfl rfl, az_in3 (i := 26) rfl rfl, az_in1 (i := 2) rfl rfl, az_in3 (i := 27) rfl rfl⟩, by decide +kernel, by decide⟩
theorem li_L_45 : az_lV RL 45 (az_R 11) yX11_about cX11_about 3 (some .int) 2 := ⟨⟨az_in3 (i := 28) rfl rfl, az_in3 (i := 29) rfl rfl, az_in3 (i := 30) rfl rfl, az_in1 (i := 1) rfl rfl, az_in3 (i := 31) rfl rfl⟩, by decide +kernel, by decide⟩
theorem li_X11_163 : az_lV RX11 163 (az_R 4) yX4_hasQuarrel cX4_hasQuarrel 2 (some .boolean) 1 := ⟨⟨az_in3 (i := 32) rfl rfl, az_in3 (i := 33) rfl rfl, az_in3 (i := 34) rfl rfl, az_in1 (i := 2) rfl rfl, az_in3 (i := 35) rfl rfl⟩, by decide +kernel, by decide⟩
theorem li_X11_166 : az_lV RX11 166 (az_R 8) yX8_canBeHad cX8_canBeHad 6 (some .boolean) 2 := ⟨⟨az_in3 (i := 36) rfl rfl, az_in3 (i := 37) rfl rfl, az_in3 (i := 38) rfl rfl, az_in1 (i := 9) rfl rfl, az_in3 (i := 39) rfl rfl⟩, by decide +kernel, by decide⟩
theorem li_X8_80 : az_lV RX8 80 (az_R 4) yX4_canBeFired cX4_canBeFired 1 (some .boolean) 0 := ⟨⟨az_in3 (i := 40) rfl rfl, az_in2 (i := 175) rfl rfl, az_in2 (i := 176) rfl rfl, az_in1 (i := 2) rfl rfl, az_in2 (i := 177) rfl rfl⟩, by decide +kernel, by decide⟩
theorem li_X8_84 : az_lV RX8 84 (az_R 4) yX4_isHurt cX4_isHurt 2 (some .boolean) 1 := ⟨⟨az_in3 (i := 41) rfl rfl, az_in3 (i := 17) rfl rfl, az_in3 (i := 18) rfl rfl, az_in1 (i := 2) rfl rfl, az_in3 (i := 19) rfl rfl⟩, by decide +kernel, by decide⟩
theorem li_X8_70 : az_lV RX8 70 (az_R 8) yX8_ask cX8_ask 9 (some .int) 4 := ⟨⟨az_in3 (i := 42) rfl rfl, az_in2 (i := 202) rfl rfl, az_in2 (i := 203) rfl rfl, az_in1 (i := 9) rfl rfl, az_in2 (i := 204) rfl rfl⟩, by decide +kernel, by decide⟩
theorem li_L_49 : az_lV RL 49 (az_R 11) yX11_terms cX11_terms 4 (some .int) 2 := ⟨⟨az_in3 (i := 43) rfl rfl, az_in3 (i := 44) rfl rfl, az_in3 (i := 45) rfl rfl, az_in1 (i := 1) rfl rfl, az_in3 (i := 46) rfl rfl⟩, by decide +kernel, by decide⟩
theorem li_L_53 : az_lV RL 53 (az_R 11) yX11_feed cX11_feed 6 (some .int) 5 := ⟨⟨az_in3 (i := 51) rfl rfl, az_in3 (i := 52) rfl rfl, az_in3 (i := 53) rfl rfl, az_in1 (i := 1) rfl rfl, az_in3 (i := 54) rfl rfl⟩, by decide +kernel, by decide⟩
theorem li_X11_176 : az_lV RX11 176 (az_R 9) yX9_hasRoomFor cX9_hasRoomFor 2 (some .boolean) 1 := ⟨⟨az_in3 (i := 55) rfl rfl, az_in3 (i := 56) rfl rfl, az_in3 (i := 57) rfl rfl, az_in1 (i := 4) rfl rfl, az_in3 (i := 58) rfl rfl⟩, by decide +kernel, by decide⟩
theorem li_X11_179 : az_lV RX11 179 (az_R 9) yX9_take cX9_take 3 none 1 := ⟨⟨az_in3 (i := 59) rfl rfl, az_in3 (i := 60) rfl rfl, az_in3 (i := 61) rfl rfl, az_in1 (i := 4) rfl rfl, az_in3 (i := 62) rfl rfl⟩, by decide +kernel, by decide⟩
theorem li_L_58 : az_lV RL 58 (az_R 11) yX11_end cX11_end 2 (some .int) 1 := ⟨⟨az_in3 (i := 63) rfl rfl, az_in3 (i := 64) rfl rfl, az_in3 (i := 65) rfl rfl, az_in1 (i := 1) rfl rfl, az_in3 (i := 66) rfl rfl⟩, by decide +kernel, by decide⟩
theorem li_L_62 : az_lV RL 62 (az_R 11) yX11_row cX11_row 3 (some .int) 0 := ⟨⟨az_in3 (i := 67) rfl rfl, az_in3 (i := 68) rfl rfl, az_in3 (i := 69) rfl rfl, az_in1 (i := 1) rfl rfl, az_in3 (i := 70) rfl rfl⟩, by decide +kernel, by decide⟩
theorem li_X11_186 : az_lV RX11 186 (az_R 11) yX11_placeFromTape cX11_placeFromTape 5 (some .boolean) 1 := ⟨⟨az_in3 (i := 71) rfl rfl, az_in3 (i := 73) rfl rfl, az_in0 (i := 4) rfl rfl, az_in1 (i := 1) rfl rfl, az_in3 (i := 74) rfl rfl⟩, by decide +kernel, by decide⟩
theorem li_L_67 : az_lV RL 67 (az_R 11) yX11_chips cX11_chips 1 (some .int) 0 := ⟨⟨az_in3 (i := 75) rfl rfl, az_in3 (i := 76) rfl rfl, az_in3 (i := 77) rfl rfl, az_in1 (i := 1) rfl rfl, az_in3 (i := 78) rfl rfl⟩, by decide +kernel, by decide⟩
theorem li_L_71 : az_lV RL 71 (az_R 11) yX11_law cX11_law 1 (some .int) 0 := ⟨⟨az_in3 (i := 79) rfl rfl, az_in3 (i := 80) rfl rfl, az_in3 (i := 81) rfl rfl, az_in1 (i := 1) rfl rfl, az_in3 (i := 82) rfl rfl⟩, by decide +kernel, by decide⟩
theorem li_X11_192 : az_lV RX11 192 (az_R 5) yX5_read cX5_read 3 (some .int) 1 := ⟨⟨az_in3 (i := 83) rfl rfl, az_in3 (i := 84) rfl rfl, az_in3 (i := 85) rfl rfl, az_in1 (i := 7) rfl rfl, az_in3 (i := 86) rfl rfl⟩, by decide +kernel, by decide⟩
theorem li_X5_42 : az_lV RX5 42 (az_R 5) yX5_nextToken cX5_nextToken 3 none 0 := ⟨⟨az_in3 (i := 87) rfl rfl, az_in3 (i := 89) rfl rfl, az_in0 (i := 5) rfl rfl, az_in1 (i := 7) rfl rfl, az_in3 (i := 90) rfl rfl⟩, by decide +kernel, by decide⟩
theorem li_X5_152 : az_lV RX5 152 (az_R 5) yX5_kindAt cX5_kindAt 3 (some .int) 1 := ⟨⟨az_in3 (i := 91) rfl rfl, az_in3 (i := 93) rfl rfl, az_in0 (i := 6) rfl rfl, az_in1 (i := 7) rfl rfl, az_in3 (i := 94) rfl rfl⟩, by decide +kernel, by decide⟩
theorem li_X5_45 : az_lV RX5 45 (az_R 5) yX5_readOrder cX5_readOrder 3 (some .boolean) 1 := ⟨⟨az_in3 (i := 95) rfl rfl, az_in3 (i := 97) rfl rfl, az_in0 (i := 7) rfl rfl, az_in1 (i := 7) rfl rfl, az_in3 (i := 98) rfl rfl⟩, by decide +kernel, by decide⟩
theorem li_X5_64 : az_lV RX5 64 (az_R 5) yX5_wordAmong cX5_wordAmong 6 (some .int) 1 := ⟨⟨az_in3 (i := 100) rfl rfl, az_in3 (i := 102) rfl rfl, az_in0 (i := 8) rfl rfl, az_in1 (i := 7) rfl rfl, az_in3 (i := 103) rfl rfl⟩, by decide +kernel, by decide⟩
theorem li_X5_68 : az_lV RX5 68 (az_R 10) yX10_set cX10_set 4 none 3 := ⟨⟨az_in3 (i := 152) rfl rfl, az_in3 (i := 153) rfl rfl, az_in3 (i := 154) rfl rfl, az_in1 (i := 8) rfl rfl, az_in3 (i := 155) rfl rfl⟩, by decide +kernel, by decide⟩
theorem li_X5_72 : az_lV RX5 72 (az_R 5) yX5_readSum cX5_readSum 3 (some .boolean) 0 := ⟨⟨az_in3 (i := 156) rfl rfl, az_in3 (i := 158) rfl rfl, az_in0 (i := 9) rfl rfl, az_in1 (i := 7) rfl rfl, az_in3 (i := 159) rfl rfl⟩, by decide +kernel, by decide⟩
theorem li_X5_124 : az_lV RX5 124 (az_R 5) yX5_readTerm cX5_readTerm 3 (some .boolean) 0 := ⟨⟨az_in3 (i := 160) rfl rfl, az_in3 (i := 162) rfl rfl, az_in0 (i := 10) rfl rfl, az_in1 (i := 7) rfl rfl, az_in3 (i := 163) rfl rfl⟩, by decide +kernel, by decide⟩
theorem li_X5_127 : az_lV RX5 127 (az_R 5) yX5_readPart cX5_readPart 4 (some .boolean) 0 := ⟨⟨az_in3 (i := 164) rfl rfl, az_in3 (i := 166) rfl rfl, az_in0 (i := 11) rfl rfl, az_in1 (i := 7) rfl rfl, az_in3 (i := 167) rfl rfl⟩, by decide +kernel, by decide⟩
theorem li_X5_58 : az_lV RX5 58 (az_R 5) yX5_isSign cX5_isSign 2 (some .boolean) 1 := ⟨⟨az_in3 (i := 168) rfl rfl, az_in3 (i := 170) rfl rfl, az_in0 (i := 12) rfl rfl, az_in1 (i := 7) rfl rfl, az_in3 (i := 171) rfl rfl⟩, by decide +kernel, by decide⟩
theorem li_X5_130 : az_lV RX5 130 (az_R 5) yX5_readBracketedSum cX5_readBracketedSum 1 (some .boolean) 0 := ⟨⟨az_in3 (i := 172) rfl rfl, az_in3 (i := 174) rfl rfl, az_in0 (i := 13) rfl rfl, az_in1 (i := 7) rfl rfl, az_in3 (i := 175) rfl rfl⟩, by decide +kernel, by decide⟩
theorem li_X5_103 : az_lV RX5 103 (az_R 10) yX10_addStep cX10_addStep 3 none 2 := ⟨⟨az_in3 (i := 178) rfl rfl, az_in3 (i := 179) rfl rfl, az_in3 (i := 180) rfl rfl, az_in1 (i := 8) rfl rfl, az_in3 (i := 181) rfl rfl⟩, by decide +kernel, by decide⟩
theorem li_X5_85 : az_lV RX5 85 (az_R 5) yX5_readTimes cX5_readTimes 2 (some .boolean) 1 := ⟨⟨az_in3 (i := 184) rfl rfl, az_in3 (i := 186) rfl rfl, az_in0 (i := 14) rfl rfl, az_in1 (i := 7) rfl rfl, az_in3 (i := 187) rfl rfl⟩, by decide +kernel, by decide⟩
theorem li_X5_76 : az_lV RX5 76 (az_R 5) yX5_readIf cX5_readIf 3 (some .boolean) 1 := ⟨⟨az_in3 (i := 189) rfl rfl, az_in3 (i := 191) rfl rfl, az_in0 (i := 15) rfl rfl, az_in1 (i := 7) rfl rfl, az_in3 (i := 192) rfl rfl⟩, by decide +kernel, by decide⟩
theorem li_X5_95 : az_lV RX5 95 (az_R 5) yX5_readTest cX5_readTest 3 (some .boolean) 0 := ⟨⟨az_in3 (i := 194) rfl rfl, az_in3 (i := 196) rfl rfl, az_in0 (i := 16) rfl rfl, az_in1 (i := 7) rfl rfl, az_in3 (i := 197) rfl rfl⟩, by decide +kernel, by decide⟩
theorem li_X5_98 : az_lV RX5 98 (az_R 5) yX5_readBoth cX5_readBoth 3 (some .boolean) 0 := ⟨⟨az_in3 (i := 198) rfl rfl, az_in3 (i := 200) rfl rfl, az_in0 (i := 17) rfl rfl, az_in1 (i := 7) rfl rfl, az_in3 (i := 201) rfl rfl⟩, by decide +kernel, by decide⟩
theorem li_X5_110 : az_lV RX5 110 (az_R 5) yX5_readPlain cX5_readPlain 3 (some .boolean) 0 := ⟨⟨az_in3 (i := 202) rfl rfl, az_in3 (i := 204) rfl rfl, az_in0 (i := 18) rfl rfl, az_in1 (i := 7) rfl rfl, az_in3 (i := 205) rfl rfl⟩, by decide +kernel, by decide⟩
theorem li_X5_121 : az_lV RX5 121 (az_R 5) yX5_readBracketedTest cX5_readBracketedTest 1 (some .boolean) 0 := ⟨⟨az_in3 (i := 207) rfl rfl, az_in3 (i := 209) rfl rfl, az_in0 (i := 19) rfl rfl, az_in1 (i := 7) rfl rfl, az_in3 (i := 210) rfl rfl⟩, by decide +kernel, by decide⟩
theorem li_X5_107 : az_lV RX5 107 (az_R 5) yX5_aimJump cX5_aimJump 3 none 2 := ⟨⟨az_in3 (i := 212) rfl rfl, az_in3 (i := 214) rfl rfl, az_in0 (i := 20) rfl rfl, az_in1 (i := 7) rfl rfl, az_in3 (i := 215) rfl rfl⟩, by decide +kernel, by decide⟩
theorem li_X5_49 : az_lV RX5 49 (az_R 5) yX5_readLawClause cX5_readLawClause 3 (some .boolean) 1 := ⟨⟨az_in3 (i := 217) rfl rfl, az_in3 (i := 219) rfl rfl, az_in0 (i := 21) rfl rfl, az_in1 (i := 7) rfl rfl, az_in3 (i := 220) rfl rfl⟩, by decide +kernel, by decide⟩
theorem la_X10_25 : az_lA RX10 25 := ⟨az_in3 (i := 226) rfl rfl, az_in3 (i := 228) rfl rfl, az_in3 (i := 227) rfl rfl, az_in1 (i := 19) rfl rfl⟩
theorem li_X11_205 : az_lV RX11 205 (az_R 0) yX0_add cX0_add 2 (some .int) 1 := ⟨⟨az_in3 (i := 229) rfl rfl, az_in3 (i := 230) rfl rfl, az_in3 (i := 231) rfl rfl, az_in1 (i := 3) rfl rfl, az_in3 (i := 232) rfl rfl⟩, by decide +kernel, by decide⟩
theorem li_L_75 : az_lV RL 75 (az_R 11) yX11_orders cX11_orders 2 (some .int) 0 := ⟨⟨az_in3 (i := 234) rfl rfl, az_in3 (i := 235) rfl rfl, az_in3 (i := 236) rfl rfl, az_in1 (i := 1) rfl rfl, az_in3 (i := 237) rfl rfl⟩, by decide +kernel, by decide⟩
theorem li_X11_212 : az_lV RX11 212 (az_R 1) yX1_begin cX1_begin 1 none 0 := ⟨⟨az_in3 (i := 238) rfl rfl, az_in3 (i := 239) rfl rfl, az_in4 (i := 0) rfl rfl, az_in1 (i := 10) rfl rfl, az_in4 (i := 1) rfl rfl⟩, by decide +kernel, by decide⟩
theorem li_X1_94 : az_lV RX1 94 (az_R 4) yX4_copy cX4_copy 2 none 1 := ⟨⟨az_in4 (i := 2) rfl rfl, az_in4 (i := 3) rfl rfl, az_in4 (i := 4) rfl rfl, az_in1 (i := 2) rfl rfl, az_in4 (i := 5) rfl rfl⟩, by decide +kernel, by decide⟩
theorem la_X4_15 : az_lA RX4 15 := ⟨az_in4 (i := 6) rfl rfl, az_in3 (i := 228) rfl rfl, az_in3 (i := 227) rfl rfl, az_in1 (i := 19) rfl rfl⟩
theorem li_X1_98 : az_lV RX1 98 (az_R 3) yX3_copy cX3_copy 2 none 1 := ⟨⟨az_in4 (i := 7) rfl rfl, az_in4 (i := 8) rfl rfl, az_in4 (i := 9) rfl rfl, az_in1 (i := 5) rfl rfl, az_in4 (i := 10) rfl rfl⟩, by decide +kernel, by decide⟩
theorem la_X3_30 : az_lA RX3 30 := ⟨az_in4 (i := 11) rfl rfl, az_in3 (i := 228) rfl rfl, az_in3 (i := 227) rfl rfl, az_in1 (i := 19) rfl rfl⟩
theorem li_X11_218 : az_lV RX11 218 (az_R 1) yX1_runClause cX1_runClause 9 (some .boolean) 2 := ⟨⟨az_in4 (i := 12) rfl rfl, az_in4 (i := 13) rfl rfl, az_in4 (i := 14) rfl rfl, az_in1 (i := 10) rfl rfl, az_in4 (i := 15) rfl rfl⟩, by decide +kernel, by decide⟩
theorem li_X1_107 : az_lV RX1 107 (az_R 10) yX10_get cX10_get 3 (some .int) 2 := ⟨⟨az_in4 (i := 16) rfl rfl, az_in2 (i := 213) rfl rfl, az_in2 (i := 214) rfl rfl, az_in1 (i := 8) rfl rfl, az_in2 (i := 215) rfl rfl⟩, by decide +kernel, by decide⟩
theorem li_X1_113 : az_lV RX1 113 (az_R 1) yX1_setWords cX1_setWords 2 none 0 := ⟨⟨az_in4 (i := 17) rfl rfl, az_in4 (i := 19) rfl rfl, az_in0 (i := 22) rfl rfl, az_in1 (i := 10) rfl rfl, az_in4 (i := 20) rfl rfl⟩, by decide +kernel, by decide⟩
theorem li_X1_43 : az_lV RX1 43 (az_R 4) yX4_hasPerson cX4_hasPerson 2 (some .boolean) 1 := ⟨⟨az_in4 (i := 21) rfl rfl, az_in3 (i := 13) rfl rfl, az_in3 (i := 14) rfl rfl, az_in1 (i := 2) rfl rfl, az_in3 (i := 15) rfl rfl⟩, by decide +kernel, by decide⟩
theorem li_X1_47 : az_lV RX1 47 (az_R 4) yX4_hasPlace cX4_hasPlace 2 (some .boolean) 1 := ⟨⟨az_in4 (i := 22) rfl rfl, az_in2 (i := 198) rfl rfl, az_in2 (i := 199) rfl rfl, az_in1 (i := 2) rfl rfl, az_in2 (i := 200) rfl rfl⟩, by decide +kernel, by decide⟩
theorem li_X1_116 : az_lV RX1 116 (az_R 6) yX6_reckon cX6_reckon 12 (some .int) 4 := ⟨⟨az_in4 (i := 23) rfl rfl, az_in2 (i := 221) rfl rfl, az_in2 (i := 222) rfl rfl, az_in1 (i := 6) rfl rfl, az_in2 (i := 223) rfl rfl⟩, by decide +kernel, by decide⟩
theorem li_X1_123 : az_lV RX1 123 (az_R 1) yX1_tryFire cX1_tryFire 3 (some .int) 2 := ⟨⟨az_in4 (i := 25) rfl rfl, az_in4 (i := 26) rfl rfl, az_in4 (i := 27) rfl rfl, az_in1 (i := 10) rfl rfl, az_in4 (i := 28) rfl rfl⟩, by decide +kernel, by decide⟩
theorem li_X1_50 : az_lV RX1 50 (az_R 4) yX4_canBeFired cX4_canBeFired 1 (some .boolean) 0 := ⟨⟨az_in4 (i := 29) rfl rfl, az_in2 (i := 175) rfl rfl, az_in2 (i := 176) rfl rfl, az_in1 (i := 2) rfl rfl, az_in2 (i := 177) rfl rfl⟩, by decide +kernel, by decide⟩
theorem li_X1_54 : az_lV RX1 54 (az_R 4) yX4_isHurt cX4_isHurt 2 (some .boolean) 1 := ⟨⟨az_in4 (i := 30) rfl rfl, az_in3 (i := 17) rfl rfl, az_in3 (i := 18) rfl rfl, az_in1 (i := 2) rfl rfl, az_in3 (i := 19) rfl rfl⟩, by decide +kernel, by decide⟩
theorem li_X1_57 : az_lV RX1 57 (az_R 8) yX8_ask cX8_ask 9 (some .int) 4 := ⟨⟨az_in4 (i := 31) rfl rfl, az_in2 (i := 202) rfl rfl, az_in2 (i := 203) rfl rfl, az_in1 (i := 9) rfl rfl, az_in2 (i := 204) rfl rfl⟩, by decide +kernel, by decide⟩
theorem li_X1_63 : az_lV RX1 63 (az_R 3) yX3_keep cX3_keep 4 none 2 := ⟨⟨az_in4 (i := 32) rfl rfl, az_in4 (i := 33) rfl rfl, az_in4 (i := 34) rfl rfl, az_in1 (i := 5) rfl rfl, az_in4 (i := 35) rfl rfl⟩, by decide +kernel, by decide⟩
theorem li_X1_67 : az_lV RX1 67 (az_R 8) yX8_shoot cX8_shoot 7 none 3 := ⟨⟨az_in4 (i := 36) rfl rfl, az_in4 (i := 37) rfl rfl, az_in4 (i := 38) rfl rfl, az_in1 (i := 9) rfl rfl, az_in4 (i := 39) rfl rfl⟩, by decide +kernel, by decide⟩
theorem li_X8_73 : az_lV RX8 73 (az_R 4) yX4_noteShot cX4_noteShot 2 none 1 := ⟨⟨az_in4 (i := 40) rfl rfl, az_in4 (i := 41) rfl rfl, az_in4 (i := 42) rfl rfl, az_in1 (i := 2) rfl rfl, az_in4 (i := 43) rfl rfl⟩, by decide +kernel, by decide⟩
theorem li_X8_77 : az_lV RX8 77 (az_R 4) yX4_passDays cX4_passDays 3 none 1 := ⟨⟨az_in4 (i := 44) rfl rfl, az_in4 (i := 45) rfl rfl, az_in4 (i := 46) rfl rfl, az_in1 (i := 2) rfl rfl, az_in4 (i := 47) rfl rfl⟩, by decide +kernel, by decide⟩
theorem lm_X4_21 : az_lM RX4 21 Lib.Math.min.name Lib.Math.min.code := ⟨az_in4 (i := 48) rfl rfl, az_in2 (i := 235) rfl rfl, az_in1 (i := 14) rfl rfl, az_in2 (i := 236) rfl rfl⟩
theorem li_X1_126 : az_lV RX1 126 (az_R 1) yX1_tryDuel cX1_tryDuel 3 (some .int) 2 := ⟨⟨az_in4 (i := 49) rfl rfl, az_in4 (i := 50) rfl rfl, az_in4 (i := 51) rfl rfl, az_in1 (i := 10) rfl rfl, az_in4 (i := 52) rfl rfl⟩, by decide +kernel, by decide⟩
theorem li_X1_75 : az_lV RX1 75 (az_R 4) yX4_hasQuarrel cX4_hasQuarrel 2 (some .boolean) 1 := ⟨⟨az_in4 (i := 54) rfl rfl, az_in3 (i := 33) rfl rfl, az_in3 (i := 34) rfl rfl, az_in1 (i := 2) rfl rfl, az_in3 (i := 35) rfl rfl⟩, by decide +kernel, by decide⟩
theorem li_X1_78 : az_lV RX1 78 (az_R 8) yX8_canBeHad cX8_canBeHad 6 (some .boolean) 2 := ⟨⟨az_in4 (i := 55) rfl rfl, az_in3 (i := 37) rfl rfl, az_in3 (i := 38) rfl rfl, az_in1 (i := 9) rfl rfl, az_in3 (i := 39) rfl rfl⟩, by decide +kernel, by decide⟩
theorem li_X1_86 : az_lV RX1 86 (az_R 8) yX8_hold cX8_hold 11 (some .int) 2 := ⟨⟨az_in4 (i := 56) rfl rfl, az_in4 (i := 57) rfl rfl, az_in4 (i := 58) rfl rfl, az_in1 (i := 9) rfl rfl, az_in4 (i := 59) rfl rfl⟩, by decide +kernel, by decide⟩
theorem li_X8_88 : az_lV RX8 88 (az_R 8) yX8_draw cX8_draw 2 (some .int) 1 := ⟨⟨az_in4 (i := 60) rfl rfl, az_in4 (i := 61) rfl rfl, az_in4 (i := 62) rfl rfl, az_in1 (i := 9) rfl rfl, az_in4 (i := 63) rfl rfl⟩, by decide +kernel, by decide⟩
theorem li_X8_92 : az_lV RX8 92 (az_R 8) yX8_shoot cX8_shoot 7 none 3 := ⟨⟨az_in4 (i := 65) rfl rfl, az_in4 (i := 37) rfl rfl, az_in4 (i := 38) rfl rfl, az_in1 (i := 9) rfl rfl, az_in4 (i := 39) rfl rfl⟩, by decide +kernel, by decide⟩
theorem li_X8_95 : az_lV RX8 95 (az_R 4) yX4_dropQuarrel cX4_dropQuarrel 4 none 1 := ⟨⟨az_in4 (i := 66) rfl rfl, az_in4 (i := 67) rfl rfl, az_in4 (i := 68) rfl rfl, az_in1 (i := 2) rfl rfl, az_in4 (i := 69) rfl rfl⟩, by decide +kernel, by decide⟩
theorem li_X1_129 : az_lV RX1 129 (az_R 1) yX1_tryRest cX1_tryRest 2 (some .int) 1 := ⟨⟨az_in4 (i := 70) rfl rfl, az_in4 (i := 71) rfl rfl, az_in4 (i := 72) rfl rfl, az_in1 (i := 10) rfl rfl, az_in4 (i := 73) rfl rfl⟩, by decide +kernel, by decide⟩
theorem li_X1_90 : az_lV RX1 90 (az_R 4) yX4_passDays cX4_passDays 3 none 1 := ⟨⟨az_in4 (i := 74) rfl rfl, az_in4 (i := 45) rfl rfl, az_in4 (i := 46) rfl rfl, az_in1 (i := 2) rfl rfl, az_in4 (i := 47) rfl rfl⟩, by decide +kernel, by decide⟩
theorem li_X11_222 : az_lV RX11 222 (az_R 1) yX1_giveUp cX1_giveUp 1 none 0 := ⟨⟨az_in4 (i := 75) rfl rfl, az_in4 (i := 76) rfl rfl, az_in4 (i := 77) rfl rfl, az_in1 (i := 10) rfl rfl, az_in4 (i := 78) rfl rfl⟩, by decide +kernel, by decide⟩
theorem li_L_79 : az_lV RL 79 (az_R 11) yX11_fault cX11_fault 1 (some .int) 0 := ⟨⟨az_in4 (i := 79) rfl rfl, az_in4 (i := 80) rfl rfl, az_in4 (i := 81) rfl rfl, az_in1 (i := 1) rfl rfl, az_in4 (i := 82) rfl rfl⟩, by decide +kernel, by decide⟩
theorem li_L_83 : az_lV RL 83 (az_R 11) yX11_stopped cX11_stopped 1 (some .int) 0 := ⟨⟨az_in4 (i := 83) rfl rfl, az_in4 (i := 84) rfl rfl, az_in4 (i := 85) rfl rfl, az_in1 (i := 1) rfl rfl, az_in4 (i := 86) rfl rfl⟩, by decide +kernel, by decide⟩
theorem li_L_87 : az_lV RL 87 (az_R 11) yX11_force cX11_force 3 (some .int) 1 := ⟨⟨az_in4 (i := 87) rfl rfl, az_in4 (i := 88) rfl rfl, az_in4 (i := 89) rfl rfl, az_in1 (i := 1) rfl rfl, az_in4 (i := 90) rfl rfl⟩, by decide +kernel, by decide⟩
theorem li_L_91 : az_lV RL 91 (az_R 11) yX11_barred cX11_barred 3 (some .int) 2 := ⟨⟨az_in4 (i := 91) rfl rfl, az_in4 (i := 92) rfl rfl, az_in4 (i := 93) rfl rfl, az_in1 (i := 1) rfl rfl, az_in4 (i := 94) rfl rfl⟩, by decide +kernel, by decide⟩
theorem li_L_95 : az_lV RL 95 (az_R 11) yX11_fire cX11_fire 3 (some .int) 2 := ⟨⟨az_in4 (i := 95) rfl rfl, az_in4 (i := 96) rfl rfl, az_in4 (i := 97) rfl rfl, az_in1 (i := 1) rfl rfl, az_in4 (i := 98) rfl rfl⟩, by decide +kernel, by decide⟩
theorem li_X11_231 : az_lV RX11 231 (az_R 1) yX1_tryFire cX1_tryFire 3 (some .int) 2 := ⟨⟨az_in4 (i := 99) rfl rfl, az_in4 (i := 26) rfl rfl, az_in4 (i := 27) rfl rfl, az_in1 (i := 10) rfl rfl, az_in4 (i := 28) rfl rfl⟩, by decide +kernel, by decide⟩
theorem li_X11_234 : az_lV RX11 234 (az_R 11) yX11_settleDeed cX11_settleDeed 2 (some .int) 1 := ⟨⟨az_in4 (i := 100) rfl rfl, az_in4 (i := 102) rfl rfl, az_in0 (i := 23) rfl rfl, az_in1 (i := 1) rfl rfl, az_in4 (i := 103) rfl rfl⟩, by decide +kernel, by decide⟩
theorem li_L_99 : az_lV RL 99 (az_R 11) yX11_duel cX11_duel 3 (some .int) 2 := ⟨⟨az_in4 (i := 104) rfl rfl, az_in4 (i := 105) rfl rfl, az_in4 (i := 106) rfl rfl, az_in1 (i := 1) rfl rfl, az_in4 (i := 107) rfl rfl⟩, by decide +kernel, by decide⟩
theorem li_X11_237 : az_lV RX11 237 (az_R 1) yX1_tryDuel cX1_tryDuel 3 (some .int) 2 := ⟨⟨az_in4 (i := 108) rfl rfl, az_in4 (i := 50) rfl rfl, az_in4 (i := 51) rfl rfl, az_in1 (i := 10) rfl rfl, az_in4 (i := 52) rfl rfl⟩, by decide +kernel, by decide⟩
theorem li_L_103 : az_lV RL 103 (az_R 11) yX11_rest cX11_rest 2 (some .int) 1 := ⟨⟨az_in4 (i := 109) rfl rfl, az_in4 (i := 110) rfl rfl, az_in4 (i := 111) rfl rfl, az_in1 (i := 1) rfl rfl, az_in4 (i := 112) rfl rfl⟩, by decide +kernel, by decide⟩
theorem li_X11_240 : az_lV RX11 240 (az_R 1) yX1_tryRest cX1_tryRest 2 (some .int) 1 := ⟨⟨az_in4 (i := 113) rfl rfl, az_in4 (i := 71) rfl rfl, az_in4 (i := 72) rfl rfl, az_in1 (i := 10) rfl rfl, az_in4 (i := 73) rfl rfl⟩, by decide +kernel, by decide⟩
theorem li_L_107 : az_lV RL 107 (az_R 11) yX11_undo cX11_undo 1 (some .int) 0 := ⟨⟨az_in4 (i := 114) rfl rfl, az_in4 (i := 115) rfl rfl, az_in4 (i := 116) rfl rfl, az_in1 (i := 1) rfl rfl, az_in4 (i := 117) rfl rfl⟩, by decide +kernel, by decide⟩
theorem li_X11_244 : az_lV RX11 244 (az_R 3) yX3_takeBack cX3_takeBack 3 (some .int) 1 := ⟨⟨az_in4 (i := 118) rfl rfl, az_in4 (i := 119) rfl rfl, az_in4 (i := 120) rfl rfl, az_in1 (i := 5) rfl rfl, az_in4 (i := 121) rfl rfl⟩, by decide +kernel, by decide⟩
theorem li_L_111 : az_lV RL 111 (az_R 11) yX11_log cX11_log 2 (some .int) 1 := ⟨⟨az_in4 (i := 122) rfl rfl, az_in4 (i := 123) rfl rfl, az_in4 (i := 124) rfl rfl, az_in1 (i := 1) rfl rfl, az_in4 (i := 125) rfl rfl⟩, by decide +kernel, by decide⟩
theorem li_L_115 : az_lV RL 115 (az_R 11) yX11_odds cX11_odds 3 (some .int) 2 := ⟨⟨az_in4 (i := 126) rfl rfl, az_in4 (i := 127) rfl rfl, az_in4 (i := 128) rfl rfl, az_in1 (i := 1) rfl rfl, az_in4 (i := 129) rfl rfl⟩, by decide +kernel, by decide⟩
theorem li_X11_248 : az_lV RX11 248 (az_R 2) yX2_oddsOf cX2_oddsOf 8 (some .int) 2 := ⟨⟨az_in4 (i := 130) rfl rfl, az_in4 (i := 131) rfl rfl, az_in4 (i := 132) rfl rfl, az_in1 (i := 11) rfl rfl, az_in4 (i := 133) rfl rfl⟩, by decide +kernel, by decide⟩
theorem li_X2_40 : az_lV RX2 40 (az_R 4) yX4_copy cX4_copy 2 none 1 := ⟨⟨az_in4 (i := 134) rfl rfl, az_in4 (i := 3) rfl rfl, az_in4 (i := 4) rfl rfl, az_in1 (i := 2) rfl rfl, az_in4 (i := 5) rfl rfl⟩, by decide +kernel, by decide⟩
theorem li_X2_48 : az_lV RX2 48 (az_R 4) yX4_canBeFired cX4_canBeFired 1 (some .boolean) 0 := ⟨⟨az_in4 (i := 136) rfl rfl, az_in2 (i := 175) rfl rfl, az_in2 (i := 176) rfl rfl, az_in1 (i := 2) rfl rfl, az_in2 (i := 177) rfl rfl⟩, by decide +kernel, by decide⟩
theorem li_X2_52 : az_lV RX2 52 (az_R 8) yX8_ask cX8_ask 9 (some .int) 4 := ⟨⟨az_in4 (i := 137) rfl rfl, az_in2 (i := 202) rfl rfl, az_in2 (i := 203) rfl rfl, az_in1 (i := 9) rfl rfl, az_in2 (i := 204) rfl rfl⟩, by decide +kernel, by decide⟩
theorem li_X2_58 : az_lV RX2 58 (az_R 8) yX8_shoot cX8_shoot 7 none 3 := ⟨⟨az_in4 (i := 138) rfl rfl, az_in4 (i := 37) rfl rfl, az_in4 (i := 38) rfl rfl, az_in1 (i := 9) rfl rfl, az_in4 (i := 39) rfl rfl⟩, by decide +kernel, by decide⟩
theorem li_L_119 : az_lV RL 119 (az_R 11) yX11_queue cX11_queue 3 (some .int) 1 := ⟨⟨az_in4 (i := 139) rfl rfl, az_in4 (i := 140) rfl rfl, az_in4 (i := 141) rfl rfl, az_in1 (i := 1) rfl rfl, az_in4 (i := 142) rfl rfl⟩, by decide +kernel, by decide⟩
theorem li_X11_251 : az_lV RX11 251 (az_R 7) yX7_lookForRows cX7_lookForRows 1 none 0 := ⟨⟨az_in4 (i := 143) rfl rfl, az_in4 (i := 144) rfl rfl, az_in4 (i := 145) rfl rfl, az_in1 (i := 12) rfl rfl, az_in4 (i := 146) rfl rfl⟩, by decide +kernel, by decide⟩
theorem li_X7_39 : az_lV RX7 39 (az_R 4) yX4_copy cX4_copy 2 none 1 := ⟨⟨az_in4 (i := 147) rfl rfl, az_in4 (i := 3) rfl rfl, az_in4 (i := 4) rfl rfl, az_in1 (i := 2) rfl rfl, az_in4 (i := 5) rfl rfl⟩, by decide +kernel, by decide⟩
theorem li_X7_46 : az_lV RX7 46 (az_R 7) yX7_forgetBehind cX7_forgetBehind 2 none 0 := ⟨⟨az_in4 (i := 148) rfl rfl, az_in4 (i := 150) rfl rfl, az_in0 (i := 24) rfl rfl, az_in1 (i := 12) rfl rfl, az_in4 (i := 151) rfl rfl⟩, by decide +kernel, by decide⟩
theorem li_X7_49 : az_lV RX7 49 (az_R 7) yX7_tryQuarrels cX7_tryQuarrels 10 none 2 := ⟨⟨az_in4 (i := 152) rfl rfl, az_in4 (i := 154) rfl rfl, az_in0 (i := 25) rfl rfl, az_in1 (i := 12) rfl rfl, az_in4 (i := 155) rfl rfl⟩, by decide +kernel, by decide⟩
theorem li_X7_86 : az_lV RX7 86 (az_R 7) yX7_setFound cX7_setFound 5 none 4 := ⟨⟨az_in4 (i := 156) rfl rfl, az_in4 (i := 158) rfl rfl, az_in0 (i := 26) rfl rfl, az_in1 (i := 12) rfl rfl, az_in4 (i := 159) rfl rfl⟩, by decide +kernel, by decide⟩
theorem li_X7_90 : az_lV RX7 90 (az_R 7) yX7_isKnownBehind cX7_isKnownBehind 3 (some .boolean) 1 := ⟨⟨az_in4 (i := 160) rfl rfl, az_in4 (i := 162) rfl rfl, az_in0 (i := 27) rfl rfl, az_in1 (i := 12) rfl rfl, az_in4 (i := 163) rfl rfl⟩, by decide +kernel, by decide⟩
theorem li_X7_53 : az_lV RX7 53 (az_R 7) yX7_keepSheet cX7_keepSheet 2 none 1 := ⟨⟨az_in4 (i := 164) rfl rfl, az_in4 (i := 166) rfl rfl, az_in0 (i := 28) rfl rfl, az_in1 (i := 12) rfl rfl, az_in4 (i := 167) rfl rfl⟩, by decide +kernel, by decide⟩
theorem la_X7_80 : az_lA RX7 80 := ⟨az_in4 (i := 168) rfl rfl, az_in3 (i := 228) rfl rfl, az_in3 (i := 227) rfl rfl, az_in1 (i := 19) rfl rfl⟩
theorem li_X7_57 : az_lV RX7 57 (az_R 7) yX7_resetSheet cX7_resetSheet 2 none 1 := ⟨⟨az_in4 (i := 169) rfl rfl, az_in4 (i := 171) rfl rfl, az_in0 (i := 29) rfl rfl, az_in1 (i := 12) rfl rfl, az_in4 (i := 172) rfl rfl⟩, by decide +kernel, by decide⟩
theorem li_X7_94 : az_lV RX7 94 (az_R 7) yX7_canBeMissed cX7_canBeMissed 4 (some .boolean) 1 := ⟨⟨az_in4 (i := 173) rfl rfl, az_in4 (i := 175) rfl rfl, az_in0 (i := 30) rfl rfl, az_in1 (i := 12) rfl rfl, az_in4 (i := 176) rfl rfl⟩, by decide +kernel, by decide⟩
theorem li_X7_109 : az_lV RX7 109 (az_R 4) yX4_canBeFired cX4_canBeFired 1 (some .boolean) 0 := ⟨⟨az_in4 (i := 177) rfl rfl, az_in2 (i := 175) rfl rfl, az_in2 (i := 176) rfl rfl, az_in1 (i := 2) rfl rfl, az_in2 (i := 177) rfl rfl⟩, by decide +kernel, by decide⟩
theorem li_X7_113 : az_lV RX7 113 (az_R 8) yX8_shoot cX8_shoot 7 none 3 := ⟨⟨az_in4 (i := 178) rfl rfl, az_in4 (i := 37) rfl rfl, az_in4 (i := 38) rfl rfl, az_in1 (i := 9) rfl rfl, az_in4 (i := 39) rfl rfl⟩, by decide +kernel, by decide⟩
theorem lm_X7_103 : az_lM RX7 103 Lib.Math.max.name Lib.Math.max.code := ⟨az_in4 (i := 179) rfl rfl, az_in2 (i := 238) rfl rfl, az_in1 (i := 14) rfl rfl, az_in2 (i := 239) rfl rfl⟩
theorem li_X11_262 : az_lS RX11 262 yX7_inRow cX7_inRow 3 (some .int) 3 := ⟨⟨az_in4 (i := 180) rfl rfl, az_in4 (i := 181) rfl rfl, az_in1 (i := 12) rfl rfl, az_in4 (i := 182) rfl rfl⟩, by decide +kernel, by decide⟩
theorem li_L_123 : az_lV RL 123 (az_R 11) yX11_spades cX11_spades 1 (some .int) 0 := ⟨⟨az_in4 (i := 183) rfl rfl, az_in4 (i := 184) rfl rfl, az_in4 (i := 185) rfl rfl, az_in1 (i := 1) rfl rfl, az_in4 (i := 186) rfl rfl⟩, by decide +kernel, by decide⟩
theorem li_X11_268 : az_lV RX11 268 (az_R 7) yX7_fewestSpades cX7_fewestSpades 2 (some .int) 0 := ⟨⟨az_in4 (i := 187) rfl rfl, az_in4 (i := 188) rfl rfl, az_in4 (i := 189) rfl rfl, az_in1 (i := 12) rfl rfl, az_in4 (i := 190) rfl rfl⟩, by decide +kernel, by decide⟩
theorem li_L_127 : az_lV RL 127 (az_R 11) yX11_free cX11_free 3 (some .int) 1 := ⟨⟨az_in4 (i := 191) rfl rfl, az_in4 (i := 192) rfl rfl, az_in4 (i := 193) rfl rfl, az_in1 (i := 1) rfl rfl, az_in4 (i := 194) rfl rfl⟩, by decide +kernel, by decide⟩
theorem li_X11_272 : az_lV RX11 272 (az_R 2) yX2_freeQuarrels cX2_freeQuarrels 3 (some .int) 0 := ⟨⟨az_in4 (i := 195) rfl rfl, az_in4 (i := 196) rfl rfl, az_in4 (i := 197) rfl rfl, az_in1 (i := 11) rfl rfl, az_in4 (i := 198) rfl rfl⟩, by decide +kernel, by decide⟩
theorem li_X2_62 : az_lS RX2 62 yJ6_bitCount_0f7a4 cJ6_bitCount_0f7a4 1 (some .int) 1 := ⟨⟨az_in4 (i := 199) rfl rfl, az_in4 (i := 200) rfl rfl, az_in1 (i := 20) rfl rfl, az_in4 (i := 201) rfl rfl⟩, by decide +kernel, by decide⟩
theorem li_X2_68 : az_lV RX2 68 (az_R 2) yX2_areFree cX2_areFree 5 (some .boolean) 1 := ⟨⟨az_in4 (i := 205) rfl rfl, az_in4 (i := 207) rfl rfl, az_in0 (i := 31) rfl rfl, az_in1 (i := 11) rfl rfl, az_in4 (i := 208) rfl rfl⟩, by decide +kernel, by decide⟩
theorem li_X11_275 : az_lS RX11 275 yJ6_bitCount_0f7a4 cJ6_bitCount_0f7a4 1 (some .int) 1 := ⟨⟨az_in4 (i := 209) rfl rfl, az_in4 (i := 200) rfl rfl, az_in1 (i := 20) rfl rfl, az_in4 (i := 201) rfl rfl⟩, by decide +kernel, by decide⟩
theorem li_L_131 : az_lV RL 131 (az_R 11) yX11_marks cX11_marks 5 (some .int) 4 := ⟨⟨az_in4 (i := 210) rfl rfl, az_in4 (i := 211) rfl rfl, az_in4 (i := 212) rfl rfl, az_in1 (i := 1) rfl rfl, az_in4 (i := 213) rfl rfl⟩, by decide +kernel, by decide⟩
theorem li_X11_278 : az_lS RX11 278 yX11_canBeWeighed cX11_canBeWeighed 2 (some .boolean) 2 := ⟨⟨az_in4 (i := 214) rfl rfl, az_in4 (i := 215) rfl rfl, az_in1 (i := 1) rfl rfl, az_in4 (i := 216) rfl rfl⟩, by decide +kernel, by decide⟩
theorem li_X11_282 : az_lV RX11 282 (az_R 7) yX7_lookForMarks cX7_lookForMarks 4 none 3 := ⟨⟨az_in4 (i := 217) rfl rfl, az_in4 (i := 218) rfl rfl, az_in4 (i := 219) rfl rfl, az_in1 (i := 12) rfl rfl, az_in4 (i := 220) rfl rfl⟩, by decide +kernel, by decide⟩
theorem li_X7_76 : az_lV RX7 76 (az_R 7) yX7_tryShots cX7_tryShots 5 none 3 := ⟨⟨az_in4 (i := 221) rfl rfl, az_in4 (i := 223) rfl rfl, az_in0 (i := 32) rfl rfl, az_in1 (i := 12) rfl rfl, az_in4 (i := 224) rfl rfl⟩, by decide +kernel, by decide⟩
theorem li_L_135 : az_lV RL 135 (az_R 11) yX11_game cX11_game 2 (some .int) 1 := ⟨⟨az_in4 (i := 225) rfl rfl, az_in4 (i := 226) rfl rfl, az_in4 (i := 227) rfl rfl, az_in1 (i := 1) rfl rfl, az_in4 (i := 228) rfl rfl⟩, by decide +kernel, by decide⟩
theorem li_X11_286 : az_lV RX11 286 (az_R 2) yX2_play cX2_play 4 none 0 := ⟨⟨az_in4 (i := 229) rfl rfl, az_in4 (i := 230) rfl rfl, az_in4 (i := 231) rfl rfl, az_in1 (i := 11) rfl rfl, az_in4 (i := 232) rfl rfl⟩, by decide +kernel, by decide⟩
theorem li_X2_79 : az_lV RX2 79 (az_R 2) yX2_winsInto cX2_winsInto 4 (some .boolean) 1 := ⟨⟨az_in4 (i := 233) rfl rfl, az_in4 (i := 235) rfl rfl, az_in0 (i := 33) rfl rfl, az_in1 (i := 11) rfl rfl, az_in4 (i := 236) rfl rfl⟩, by decide +kernel, by decide⟩
theorem li_L_139 : az_lV RL 139 (az_R 11) yX11_share cX11_share 6 (some .int) 2 := ⟨⟨az_in4 (i := 237) rfl rfl, az_in4 (i := 238) rfl rfl, az_in4 (i := 239) rfl rfl, az_in1 (i := 1) rfl rfl, az_in5 (i := 0) rfl rfl⟩, by decide +kernel, by decide⟩
theorem li_X11_295 : az_lS RX11 295 yX11_commonDivisor cX11_commonDivisor 6 (some .int) 2 := ⟨⟨az_in5 (i := 1) rfl rfl, az_in5 (i := 2) rfl rfl, az_in1 (i := 1) rfl rfl, az_in5 (i := 3) rfl rfl⟩, by decide +kernel, by decide⟩
theorem li_L_143 : az_lV RL 143 (az_R 11) yX11_season cX11_season 3 (some .int) 2 := ⟨⟨az_in5 (i := 4) rfl rfl, az_in5 (i := 5) rfl rfl, az_in5 (i := 6) rfl rfl, az_in1 (i := 1) rfl rfl, az_in5 (i := 7) rfl rfl⟩, by decide +kernel, by decide⟩
theorem li_X11_299 : az_lV RX11 299 (az_R 2) yX2_drawSeason cX2_drawSeason 8 (some .int) 2 := ⟨⟨az_in5 (i := 9) rfl rfl, az_in5 (i := 10) rfl rfl, az_in5 (i := 11) rfl rfl, az_in1 (i := 11) rfl rfl, az_in5 (i := 12) rfl rfl⟩, by decide +kernel, by decide⟩
theorem li_X2_85 : az_lV RX2 85 (az_R 8) yX8_draw cX8_draw 2 (some .int) 1 := ⟨⟨az_in5 (i := 13) rfl rfl, az_in4 (i := 61) rfl rfl, az_in4 (i := 62) rfl rfl, az_in1 (i := 9) rfl rfl, az_in4 (i := 63) rfl rfl⟩, by decide +kernel, by decide⟩
theorem li_X2_88 : az_lV RX2 88 (az_R 8) yX8_canBeHad cX8_canBeHad 6 (some .boolean) 2 := ⟨⟨az_in5 (i := 14) rfl rfl, az_in3 (i := 37) rfl rfl, az_in3 (i := 38) rfl rfl, az_in1 (i := 9) rfl rfl, az_in3 (i := 39) rfl rfl⟩, by decide +kernel, by decide⟩
theorem li_X2_92 : az_lV RX2 92 (az_R 8) yX8_hold cX8_hold 11 (some .int) 2 := ⟨⟨az_in5 (i := 15) rfl rfl, az_in4 (i := 57) rfl rfl, az_in4 (i := 58) rfl rfl, az_in1 (i := 9) rfl rfl, az_in4 (i := 59) rfl rfl⟩, by decide +kernel, by decide⟩
theorem li_X2_96 : az_lV RX2 96 (az_R 4) yX4_passDays cX4_passDays 3 none 1 := ⟨⟨az_in5 (i := 16) rfl rfl, az_in4 (i := 45) rfl rfl, az_in4 (i := 46) rfl rfl, az_in1 (i := 2) rfl rfl, az_in4 (i := 47) rfl rfl⟩, by decide +kernel, by decide⟩
theorem la_X2_100 : az_lA RX2 100 := ⟨az_in5 (i := 17) rfl rfl, az_in3 (i := 228) rfl rfl, az_in3 (i := 227) rfl rfl, az_in1 (i := 19) rfl rfl⟩
theorem li_L_147 : az_lV RL 147 (az_R 11) yX11_drawn cX11_drawn 2 (some .int) 1 := ⟨⟨az_in5 (i := 18) rfl rfl, az_in5 (i := 19) rfl rfl, az_in5 (i := 20) rfl rfl, az_in1 (i := 1) rfl rfl, az_in5 (i := 21) rfl rfl⟩, by decide +kernel, by decide⟩
theorem li_L_151 : az_lV RL 151 (az_R 11) yX11_image cX11_image 2 (some .int) 1 := ⟨⟨az_in5 (i := 22) rfl rfl, az_in5 (i := 23) rfl rfl, az_in5 (i := 24) rfl rfl, az_in1 (i := 1) rfl rfl, az_in5 (i := 25) rfl rfl⟩, by decide +kernel, by decide⟩
theorem li_X11_309 : az_lV RX11 309 (az_R 4) yX4_copy cX4_copy 2 none 1 := ⟨⟨az_in5 (i := 26) rfl rfl, az_in4 (i := 3) rfl rfl, az_in4 (i := 4) rfl rfl, az_in1 (i := 2) rfl rfl, az_in4 (i := 5) rfl rfl⟩, by decide +kernel, by decide⟩
theorem li_X11_313 : az_lV RX11 313 (az_R 0) yX0_copy cX0_copy 3 none 1 := ⟨⟨az_in5 (i := 27) rfl rfl, az_in5 (i := 28) rfl rfl, az_in5 (i := 29) rfl rfl, az_in1 (i := 3) rfl rfl, az_in5 (i := 30) rfl rfl⟩, by decide +kernel, by decide⟩
theorem li_L_155 : az_lV RL 155 (az_R 11) yX11_back cX11_back 2 (some .int) 1 := ⟨⟨az_in5 (i := 31) rfl rfl, az_in5 (i := 32) rfl rfl, az_in5 (i := 33) rfl rfl, az_in1 (i := 1) rfl rfl, az_in5 (i := 34) rfl rfl⟩, by decide +kernel, by decide⟩
theorem li_L_159 : az_lV RL 159 (az_R 11) yX11_count cX11_count 2 (some .int) 1 := ⟨⟨az_in5 (i := 35) rfl rfl, az_in5 (i := 36) rfl rfl, az_in5 (i := 37) rfl rfl, az_in1 (i := 1) rfl rfl, az_in5 (i := 38) rfl rfl⟩, by decide +kernel, by decide⟩
theorem li_L_163 : az_lV RL 163 (az_R 11) yX11_status cX11_status 1 (some .int) 0 := ⟨⟨az_in5 (i := 39) rfl rfl, az_in5 (i := 40) rfl rfl, az_in5 (i := 41) rfl rfl, az_in1 (i := 1) rfl rfl, az_in5 (i := 42) rfl rfl⟩, by decide +kernel, by decide⟩
theorem li_L_110 : az_lV RL 110 (az_R 12) yX12_undo cX12_undo 1 (some .int) 0 := ⟨⟨az_in6 (i := 8) rfl rfl, az_in6 (i := 9) rfl rfl, az_in6 (i := 10) rfl rfl, az_in1 (i := 13) rfl rfl, az_in6 (i := 11) rfl rfl⟩, by decide +kernel, by decide⟩
theorem li_X12_158 : az_lV RX12 158 (az_R 12) yX12_tell cX12_tell 2 (some .int) 1 := ⟨⟨az_in6 (i := 12) rfl rfl, az_in6 (i := 14) rfl rfl, az_in0 (i := 34) rfl rfl, az_in1 (i := 13) rfl rfl, az_in6 (i := 15) rfl rfl⟩, by decide +kernel, by decide⟩
theorem li_X12_166 : az_lV RX12 166 (az_R 12) yX12_putBack cX12_putBack 3 none 1 := ⟨⟨az_in6 (i := 16) rfl rfl, az_in6 (i := 18) rfl rfl, az_in0 (i := 35) rfl rfl, az_in1 (i := 13) rfl rfl, az_in6 (i := 19) rfl rfl⟩, by decide +kernel, by decide⟩
theorem li_L_154 : az_lV RL 154 (az_R 12) yX12_image cX12_image 3 (some .int) 1 := ⟨⟨az_in6 (i := 20) rfl rfl, az_in6 (i := 21) rfl rfl, az_in6 (i := 22) rfl rfl, az_in1 (i := 13) rfl rfl, az_in6 (i := 23) rfl rfl⟩, by decide +kernel, by decide⟩
theorem li_X12_169 : az_lS RX12 169 yX12_in cX12_in 6 (some .boolean) 3 := ⟨⟨az_in6 (i := 24) rfl rfl, az_in6 (i := 25) rfl rfl, az_in1 (i := 13) rfl rfl, az_in6 (i := 26) rfl rfl⟩, by decide +kernel, by decide⟩
theorem li_L_158 : az_lV RL 158 (az_R 12) yX12_back cX12_back 3 (some .int) 1 := ⟨⟨az_in6 (i := 27) rfl rfl, az_in6 (i := 28) rfl rfl, az_in6 (i := 29) rfl rfl, az_in1 (i := 13) rfl rfl, az_in6 (i := 30) rfl rfl⟩, by decide +kernel, by decide⟩
theorem li_X12_173 : az_lV RX12 173 (az_R 12) yX12_settled cX12_settled 2 (some .int) 1 := ⟨⟨az_in6 (i := 31) rfl rfl, az_in6 (i := 33) rfl rfl, az_in0 (i := 36) rfl rfl, az_in1 (i := 13) rfl rfl, az_in6 (i := 34) rfl rfl⟩, by decide +kernel, by decide⟩
theorem li_L_17 : az_lV RL 17 (az_R 12) yX12_put cX12_put 3 (some .int) 2 := ⟨⟨az_in6 (i := 35) rfl rfl, az_in6 (i := 36) rfl rfl, az_in6 (i := 37) rfl rfl, az_in1 (i := 13) rfl rfl, az_in6 (i := 38) rfl rfl⟩, by decide +kernel, by decide⟩
theorem li_X12_182 : az_lV RX12 182 (az_R 12) yX12_change cX12_change 4 (some .int) 2 := ⟨⟨az_in6 (i := 42) rfl rfl, az_in6 (i := 44) rfl rfl, az_in0 (i := 37) rfl rfl, az_in1 (i := 13) rfl rfl, az_in6 (i := 45) rfl rfl⟩, by decide +kernel, by decide⟩
theorem li_L_22 : az_lV RL 22 (az_R 12) yX12_bullet cX12_bullet 2 (some .int) 1 := ⟨⟨az_in6 (i := 46) rfl rfl, az_in6 (i := 47) rfl rfl, az_in6 (i := 48) rfl rfl, az_in1 (i := 13) rfl rfl, az_in6 (i := 49) rfl rfl⟩, by decide +kernel, by decide⟩
theorem li_X12_186 : az_lV RX12 186 (az_R 12) yX12_bulletOf cX12_bulletOf 2 (some .int) 1 := ⟨⟨az_in6 (i := 51) rfl rfl, az_in6 (i := 53) rfl rfl, az_in0 (i := 38) rfl rfl, az_in1 (i := 13) rfl rfl, az_in6 (i := 54) rfl rfl⟩, by decide +kernel, by decide⟩
theorem li_X12_194 : az_lV RX12 194 (az_R 12) yX12_canFire cX12_canFire 1 (some .boolean) 0 := ⟨⟨az_in6 (i := 55) rfl rfl, az_in6 (i := 57) rfl rfl, az_in0 (i := 39) rfl rfl, az_in1 (i := 13) rfl rfl, az_in6 (i := 58) rfl rfl⟩, by decide +kernel, by decide⟩
theorem li_X12_189 : az_lV RX12 189 (az_R 12) yX12_term cX12_term 2 (some .int) 1 := ⟨⟨az_in6 (i := 59) rfl rfl, az_in6 (i := 61) rfl rfl, az_in0 (i := 40) rfl rfl, az_in1 (i := 13) rfl rfl, az_in6 (i := 62) rfl rfl⟩, by decide +kernel, by decide⟩
theorem li_L_27 : az_lV RL 27 (az_R 12) yX12_place cX12_place 4 (some .int) 3 := ⟨⟨az_in6 (i := 63) rfl rfl, az_in6 (i := 64) rfl rfl, az_in6 (i := 65) rfl rfl, az_in1 (i := 13) rfl rfl, az_in6 (i := 66) rfl rfl⟩, by decide +kernel, by decide⟩
theorem li_X12_202 : az_lV RX12 202 (az_R 12) yX12_place1 cX12_place1 6 (some .int) 3 := ⟨⟨az_in6 (i := 67) rfl rfl, az_in6 (i := 69) rfl rfl, az_in0 (i := 41) rfl rfl, az_in1 (i := 13) rfl rfl, az_in6 (i := 70) rfl rfl⟩, by decide +kernel, by decide⟩
theorem li_L_31 : az_lV RL 31 (az_R 12) yX12_at cX12_at 3 (some .int) 2 := ⟨⟨az_in6 (i := 73) rfl rfl, az_in6 (i := 74) rfl rfl, az_in6 (i := 75) rfl rfl, az_in1 (i := 13) rfl rfl, az_in6 (i := 76) rfl rfl⟩, by decide +kernel, by decide⟩
theorem li_X12_206 : az_lV RX12 206 (az_R 12) yX12_isPlace cX12_isPlace 2 (some .boolean) 1 := ⟨⟨az_in6 (i := 77) rfl rfl, az_in6 (i := 79) rfl rfl, az_in0 (i := 42) rfl rfl, az_in1 (i := 13) rfl rfl, az_in6 (i := 80) rfl rfl⟩, by decide +kernel, by decide⟩
theorem li_X12_212 : az_lV RX12 212 (az_R 12) yX12_wearsOf cX12_wearsOf 3 (some .int) 2 := ⟨⟨az_in6 (i := 82) rfl rfl, az_in6 (i := 84) rfl rfl, az_in0 (i := 43) rfl rfl, az_in1 (i := 13) rfl rfl, az_in6 (i := 85) rfl rfl⟩, by decide +kernel, by decide⟩
theorem li_X12_221 : az_lV RX12 221 (az_R 12) yX12_ofPlace cX12_ofPlace 3 (some .int) 2 := ⟨⟨az_in6 (i := 86) rfl rfl, az_in6 (i := 88) rfl rfl, az_in0 (i := 44) rfl rfl, az_in1 (i := 13) rfl rfl, az_in6 (i := 89) rfl rfl⟩, by decide +kernel, by decide⟩
theorem li_X12_441 : az_lV RX12 441 (az_R 12) yX12_tells cX12_tells 11 (some .long) 5 := ⟨⟨az_in6 (i := 90) rfl rfl, az_in6 (i := 92) rfl rfl, az_in0 (i := 45) rfl rfl, az_in1 (i := 13) rfl rfl, az_in6 (i := 93) rfl rfl⟩, by decide +kernel, by decide⟩
theorem li_X12_226 : az_lV RX12 226 (az_R 12) yX12_ofPerson cX12_ofPerson 3 (some .int) 2 := ⟨⟨az_in6 (i := 95) rfl rfl, az_in6 (i := 97) rfl rfl, az_in0 (i := 46) rfl rfl, az_in1 (i := 13) rfl rfl, az_in6 (i := 98) rfl rfl⟩, by decide +kernel, by decide⟩
theorem li_X12_438 : az_lV RX12 438 (az_R 12) yX12_isSo cX12_isSo 2 (some .boolean) 1 := ⟨⟨az_in6 (i := 99) rfl rfl, az_in6 (i := 101) rfl rfl, az_in0 (i := 47) rfl rfl, az_in1 (i := 13) rfl rfl, az_in6 (i := 102) rfl rfl⟩, by decide +kernel, by decide⟩
theorem li_X12_432 : az_lV RX12 432 (az_R 12) yX12_reckonAll cX12_reckonAll 7 none 2 := ⟨⟨az_in6 (i := 103) rfl rfl, az_in6 (i := 105) rfl rfl, az_in0 (i := 48) rfl rfl, az_in1 (i := 13) rfl rfl, az_in6 (i := 106) rfl rfl⟩, by decide +kernel, by decide⟩
theorem li_X12_229 : az_lV RX12 229 (az_R 12) yX12_isPerson cX12_isPerson 2 (some .boolean) 1 := ⟨⟨az_in6 (i := 107) rfl rfl, az_in6 (i := 109) rfl rfl, az_in0 (i := 49) rfl rfl, az_in1 (i := 13) rfl rfl, az_in6 (i := 110) rfl rfl⟩, by decide +kernel, by decide⟩
theorem li_X12_421 : az_lV RX12 421 (az_R 12) yX12_reckon cX12_reckon 6 (some .long) 3 := ⟨⟨az_in6 (i := 111) rfl rfl, az_in6 (i := 113) rfl rfl, az_in0 (i := 50) rfl rfl, az_in1 (i := 13) rfl rfl, az_in6 (i := 114) rfl rfl⟩, by decide +kernel, by decide⟩
theorem li_X12_445 : az_lS RX12 445 yX12_within cX12_within 4 (some .int) 3 := ⟨⟨az_in6 (i := 117) rfl rfl, az_in6 (i := 118) rfl rfl, az_in1 (i := 13) rfl rfl, az_in6 (i := 119) rfl rfl⟩, by decide +kernel, by decide⟩
theorem li_X12_215 : az_lV RX12 215 (az_R 12) yX12_flattensOf cX12_flattensOf 2 (some .int) 1 := ⟨⟨az_in6 (i := 120) rfl rfl, az_in6 (i := 122) rfl rfl, az_in0 (i := 51) rfl rfl, az_in1 (i := 13) rfl rfl, az_in6 (i := 123) rfl rfl⟩, by decide +kernel, by decide⟩
theorem li_X12_218 : az_lV RX12 218 (az_R 12) yX12_pricesOf cX12_pricesOf 4 (some .int) 1 := ⟨⟨az_in6 (i := 124) rfl rfl, az_in6 (i := 126) rfl rfl, az_in0 (i := 52) rfl rfl, az_in1 (i := 13) rfl rfl, az_in6 (i := 127) rfl rfl⟩, by decide +kernel, by decide⟩
theorem li_L_35 : az_lV RL 35 (az_R 12) yX12_person cX12_person 4 (some .int) 2 := ⟨⟨az_in6 (i := 129) rfl rfl, az_in6 (i := 130) rfl rfl, az_in6 (i := 131) rfl rfl, az_in1 (i := 13) rfl rfl, az_in6 (i := 132) rfl rfl⟩, by decide +kernel, by decide⟩
theorem li_L_39 : az_lV RL 39 (az_R 12) yX12_of cX12_of 3 (some .int) 2 := ⟨⟨az_in6 (i := 134) rfl rfl, az_in6 (i := 135) rfl rfl, az_in6 (i := 136) rfl rfl, az_in1 (i := 13) rfl rfl, az_in6 (i := 137) rfl rfl⟩, by decide +kernel, by decide⟩
theorem li_X12_232 : az_lV RX12 232 (az_R 12) yX12_isHurt cX12_isHurt 2 (some .boolean) 1 := ⟨⟨az_in6 (i := 138) rfl rfl, az_in6 (i := 140) rfl rfl, az_in0 (i := 53) rfl rfl, az_in1 (i := 13) rfl rfl, az_in6 (i := 141) rfl rfl⟩, by decide +kernel, by decide⟩
theorem li_X12_235 : az_lV RX12 235 (az_R 12) yX12_aimsOf cX12_aimsOf 3 (some .int) 2 := ⟨⟨az_in6 (i := 142) rfl rfl, az_in6 (i := 144) rfl rfl, az_in0 (i := 54) rfl rfl, az_in1 (i := 13) rfl rfl, az_in6 (i := 145) rfl rfl⟩, by decide +kernel, by decide⟩
theorem li_L_44 : az_lV RL 44 (az_R 12) yX12_quarrel cX12_quarrel 7 (some .int) 4 := ⟨⟨az_in6 (i := 146) rfl rfl, az_in6 (i := 147) rfl rfl, az_in6 (i := 148) rfl rfl, az_in1 (i := 13) rfl rfl, az_in6 (i := 149) rfl rfl⟩, by decide +kernel, by decide⟩
theorem li_L_48 : az_lV RL 48 (az_R 12) yX12_about cX12_about 3 (some .int) 2 := ⟨⟨az_in6 (i := 150) rfl rfl, az_in6 (i := 151) rfl rfl, az_in6 (i := 152) rfl rfl, az_in1 (i := 13) rfl rfl, az_in6 (i := 153) rfl rfl⟩, by decide +kernel, by decide⟩
theorem li_X12_245 : az_lV RX12 245 (az_R 12) yX12_isQuarrel cX12_isQuarrel 2 (some .boolean) 1 := ⟨⟨az_in6 (i := 154) rfl rfl, az_in6 (i := 156) rfl rfl, az_in0 (i := 55) rfl rfl, az_in1 (i := 13) rfl rfl, az_in6 (i := 157) rfl rfl⟩, by decide +kernel, by decide⟩
theorem li_X12_238 : az_lV RX12 238 (az_R 12) yX12_ofQuarrel cX12_ofQuarrel 3 (some .int) 2 := ⟨⟨az_in6 (i := 159) rfl rfl, az_in6 (i := 161) rfl rfl, az_in0 (i := 56) rfl rfl, az_in1 (i := 13) rfl rfl, az_in6 (i := 162) rfl rfl⟩, by decide +kernel, by decide⟩
theorem li_X12_250 : az_lV RX12 250 (az_R 12) yX12_canHave cX12_canHave 6 (some .boolean) 1 := ⟨⟨az_in6 (i := 163) rfl rfl, az_in6 (i := 165) rfl rfl, az_in0 (i := 57) rfl rfl, az_in1 (i := 13) rfl rfl, az_in6 (i := 166) rfl rfl⟩, by decide +kernel, by decide⟩
theorem li_X12_241 : az_lV RX12 241 (az_R 12) yX12_isBarred cX12_isBarred 3 (some .boolean) 2 := ⟨⟨az_in6 (i := 167) rfl rfl, az_in6 (i := 169) rfl rfl, az_in0 (i := 58) rfl rfl, az_in1 (i := 13) rfl rfl, az_in6 (i := 170) rfl rfl⟩, by decide +kernel, by decide⟩
theorem li_L_52 : az_lV RL 52 (az_R 12) yX12_terms cX12_terms 3 (some .int) 2 := ⟨⟨az_in6 (i := 171) rfl rfl, az_in6 (i := 172) rfl rfl, az_in6 (i := 173) rfl rfl, az_in1 (i := 13) rfl rfl, az_in6 (i := 174) rfl rfl⟩, by decide +kernel, by decide⟩
theorem li_X12_255 : az_lS RX12 255 yX12_isTerm cX12_isTerm 2 (some .boolean) 2 := ⟨⟨az_in6 (i := 175) rfl rfl, az_in6 (i := 176) rfl rfl, az_in1 (i := 13) rfl rfl, az_in6 (i := 177) rfl rfl⟩, by decide +kernel, by decide⟩
theorem li_L_66 : az_lV RL 66 (az_R 12) yX12_row cX12_row 4 (some .int) 0 := ⟨⟨az_in6 (i := 179) rfl rfl, az_in6 (i := 180) rfl rfl, az_in6 (i := 181) rfl rfl, az_in1 (i := 13) rfl rfl, az_in6 (i := 182) rfl rfl⟩, by decide +kernel, by decide⟩
theorem li_L_70 : az_lV RL 70 (az_R 12) yX12_chips cX12_chips 1 (some .int) 0 := ⟨⟨az_in6 (i := 183) rfl rfl, az_in6 (i := 184) rfl rfl, az_in6 (i := 185) rfl rfl, az_in1 (i := 13) rfl rfl, az_in6 (i := 186) rfl rfl⟩, by decide +kernel, by decide⟩
theorem li_L_57 : az_lV RL 57 (az_R 12) yX12_feed cX12_feed 6 (some .int) 5 := ⟨⟨az_in6 (i := 187) rfl rfl, az_in6 (i := 188) rfl rfl, az_in6 (i := 189) rfl rfl, az_in1 (i := 13) rfl rfl, az_in6 (i := 190) rfl rfl⟩, by decide +kernel, by decide⟩
theorem li_X12_264 : az_lV RX12 264 (az_R 12) yX12_four cX12_four 3 none 1 := ⟨⟨az_in6 (i := 191) rfl rfl, az_in6 (i := 193) rfl rfl, az_in0 (i := 59) rfl rfl, az_in1 (i := 13) rfl rfl, az_in6 (i := 194) rfl rfl⟩, by decide +kernel, by decide⟩
theorem li_L_61 : az_lV RL 61 (az_R 12) yX12_end cX12_end 2 (some .int) 1 := ⟨⟨az_in6 (i := 195) rfl rfl, az_in6 (i := 196) rfl rfl, az_in6 (i := 197) rfl rfl, az_in1 (i := 13) rfl rfl, az_in6 (i := 198) rfl rfl⟩, by decide +kernel, by decide⟩
theorem li_L_82 : az_lV RL 82 (az_R 12) yX12_fault cX12_fault 1 (some .int) 0 := ⟨⟨az_in6 (i := 199) rfl rfl, az_in6 (i := 200) rfl rfl, az_in6 (i := 201) rfl rfl, az_in1 (i := 13) rfl rfl, az_in6 (i := 202) rfl rfl⟩, by decide +kernel, by decide⟩
theorem li_L_74 : az_lV RL 74 (az_R 12) yX12_law cX12_law 3 (some .int) 0 := ⟨⟨az_in6 (i := 203) rfl rfl, az_in6 (i := 204) rfl rfl, az_in6 (i := 205) rfl rfl, az_in1 (i := 13) rfl rfl, az_in6 (i := 206) rfl rfl⟩, by decide +kernel, by decide⟩
theorem li_X12_406 : az_lV RX12 406 (az_R 12) yX12_beginText cX12_beginText 2 none 1 := ⟨⟨az_in6 (i := 207) rfl rfl, az_in6 (i := 209) rfl rfl, az_in0 (i := 60) rfl rfl, az_in1 (i := 13) rfl rfl, az_in6 (i := 210) rfl rfl⟩, by decide +kernel, by decide⟩
theorem li_X12_395 : az_lV RX12 395 (az_R 12) yX12_begin cX12_begin 1 none 0 := ⟨⟨az_in6 (i := 211) rfl rfl, az_in6 (i := 213) rfl rfl, az_in0 (i := 61) rfl rfl, az_in1 (i := 13) rfl rfl, az_in6 (i := 214) rfl rfl⟩, by decide +kernel, by decide⟩
theorem li_X12_274 : az_lV RX12 274 (az_R 12) yX12_next cX12_next 1 none 0 := ⟨⟨az_in6 (i := 215) rfl rfl, az_in6 (i := 217) rfl rfl, az_in0 (i := 62) rfl rfl, az_in1 (i := 13) rfl rfl, az_in6 (i := 218) rfl rfl⟩, by decide +kernel, by decide⟩
theorem li_X12_284 : az_lS RX12 284 yX12_isSmall cX12_isSmall 1 (some .boolean) 1 := ⟨⟨az_in6 (i := 219) rfl rfl, az_in6 (i := 220) rfl rfl, az_in1 (i := 13) rfl rfl, az_in6 (i := 221) rfl rfl⟩, by decide +kernel, by decide⟩
theorem li_X12_287 : az_lS RX12 287 yX12_isDigit cX12_isDigit 1 (some .boolean) 1 := ⟨⟨az_in6 (i := 222) rfl rfl, az_in6 (i := 223) rfl rfl, az_in1 (i := 13) rfl rfl, az_in6 (i := 224) rfl rfl⟩, by decide +kernel, by decide⟩
theorem li_X12_409 : az_lV RX12 409 (az_R 12) yX12_readLaw cX12_readLaw 4 none 0 := ⟨⟨az_in6 (i := 229) rfl rfl, az_in6 (i := 231) rfl rfl, az_in0 (i := 63) rfl rfl, az_in1 (i := 13) rfl rfl, az_in6 (i := 232) rfl rfl⟩, by decide +kernel, by decide⟩
theorem li_X12_326 : az_lV RX12 326 (az_R 12) yX12_isWord cX12_isWord 3 (some .boolean) 1 := ⟨⟨az_in6 (i := 233) rfl rfl, az_in6 (i := 235) rfl rfl, az_in0 (i := 64) rfl rfl, az_in1 (i := 13) rfl rfl, az_in6 (i := 236) rfl rfl⟩, by decide +kernel, by decide⟩
theorem li_X12_303 : az_lV RX12 303 (az_R 12) yX12_must cX12_must 2 none 1 := ⟨⟨az_in6 (i := 237) rfl rfl, az_in6 (i := 239) rfl rfl, az_in0 (i := 65) rfl rfl, az_in1 (i := 13) rfl rfl, az_in7 (i := 0) rfl rfl⟩, by decide +kernel, by decide⟩
theorem li_X12_401 : az_lV RX12 401 (az_R 12) yX12_readExpression cX12_readExpression 3 none 1 := ⟨⟨az_in7 (i := 1) rfl rfl, az_in7 (i := 3) rfl rfl, az_in0 (i := 66) rfl rfl, az_in1 (i := 13) rfl rfl, az_in7 (i := 4) rfl rfl⟩, by decide +kernel, by decide⟩
theorem li_X12_385 : az_lV RX12 385 (az_R 12) yX12_readPlain cX12_readPlain 1 (some .int) 0 := ⟨⟨az_in7 (i := 5) rfl rfl, az_in7 (i := 7) rfl rfl, az_in0 (i := 67) rfl rfl, az_in1 (i := 13) rfl rfl, az_in7 (i := 8) rfl rfl⟩, by decide +kernel, by decide⟩
theorem li_X12_333 : az_lV RX12 333 (az_R 12) yX12_push cX12_push 3 none 2 := ⟨⟨az_in7 (i := 10) rfl rfl, az_in7 (i := 12) rfl rfl, az_in0 (i := 68) rfl rfl, az_in1 (i := 13) rfl rfl, az_in7 (i := 13) rfl rfl⟩, by decide +kernel, by decide⟩
theorem li_X12_339 : az_lV RX12 339 (az_R 12) yX12_isSign cX12_isSign 2 (some .boolean) 1 := ⟨⟨az_in7 (i := 14) rfl rfl, az_in7 (i := 16) rfl rfl, az_in0 (i := 69) rfl rfl, az_in1 (i := 13) rfl rfl, az_in7 (i := 17) rfl rfl⟩, by decide +kernel, by decide⟩
theorem li_X12_342 : az_lV RX12 342 (az_R 12) yX12_openBracket cX12_openBracket 2 none 1 := ⟨⟨az_in7 (i := 18) rfl rfl, az_in7 (i := 20) rfl rfl, az_in0 (i := 70) rfl rfl, az_in1 (i := 13) rfl rfl, az_in7 (i := 21) rfl rfl⟩, by decide +kernel, by decide⟩
theorem li_X12_369 : az_lV RX12 369 (az_R 12) yX12_readPart cX12_readPart 4 (some .int) 0 := ⟨⟨az_in7 (i := 22) rfl rfl, az_in7 (i := 24) rfl rfl, az_in0 (i := 71) rfl rfl, az_in1 (i := 13) rfl rfl, az_in7 (i := 25) rfl rfl⟩, by decide +kernel, by decide⟩
theorem li_X12_348 : az_lV RX12 348 (az_R 12) yX12_orderPartAt cX12_orderPartAt 3 (some .int) 0 := ⟨⟨az_in7 (i := 26) rfl rfl, az_in7 (i := 28) rfl rfl, az_in0 (i := 72) rfl rfl, az_in1 (i := 13) rfl rfl, az_in7 (i := 29) rfl rfl⟩, by decide +kernel, by decide⟩
theorem li_X12_352 : az_lV RX12 352 (az_R 12) yX12_partAt cX12_partAt 3 (some .int) 0 := ⟨⟨az_in7 (i := 30) rfl rfl, az_in7 (i := 32) rfl rfl, az_in0 (i := 73) rfl rfl, az_in1 (i := 13) rfl rfl, az_in7 (i := 33) rfl rfl⟩, by decide +kernel, by decide⟩
theorem li_X12_357 : az_lV RX12 357 (az_R 12) yX12_leaf cX12_leaf 4 none 3 := ⟨⟨az_in7 (i := 35) rfl rfl, az_in7 (i := 37) rfl rfl, az_in0 (i := 74) rfl rfl, az_in1 (i := 13) rfl rfl, az_in7 (i := 38) rfl rfl⟩, by decide +kernel, by decide⟩
theorem li_X12_316 : az_lV RX12 316 (az_R 12) yX12_emit cX12_emit 3 none 2 := ⟨⟨az_in7 (i := 39) rfl rfl, az_in7 (i := 41) rfl rfl, az_in0 (i := 75) rfl rfl, az_in1 (i := 13) rfl rfl, az_in7 (i := 42) rfl rfl⟩, by decide +kernel, by decide⟩
theorem li_X12_363 : az_lV RX12 363 (az_R 12) yX12_number cX12_number 6 (some .int) 2 := ⟨⟨az_in7 (i := 44) rfl rfl, az_in7 (i := 46) rfl rfl, az_in0 (i := 76) rfl rfl, az_in1 (i := 13) rfl rfl, az_in7 (i := 47) rfl rfl⟩, by decide +kernel, by decide⟩
theorem li_X12_388 : az_lV RX12 388 (az_R 12) yX12_behindSum cX12_behindSum 4 (some .int) 1 := ⟨⟨az_in7 (i := 48) rfl rfl, az_in7 (i := 50) rfl rfl, az_in0 (i := 77) rfl rfl, az_in1 (i := 13) rfl rfl, az_in7 (i := 51) rfl rfl⟩, by decide +kernel, by decide⟩
theorem li_X12_313 : az_lS RX12 313 yX12_binds cX12_binds 1 (some .int) 1 := ⟨⟨az_in7 (i := 52) rfl rfl, az_in7 (i := 53) rfl rfl, az_in1 (i := 13) rfl rfl, az_in7 (i := 54) rfl rfl⟩, by decide +kernel, by decide⟩
theorem li_X12_372 : az_lV RX12 372 (az_R 12) yX12_settle cX12_settle 2 none 1 := ⟨⟨az_in7 (i := 55) rfl rfl, az_in7 (i := 57) rfl rfl, az_in0 (i := 78) rfl rfl, az_in1 (i := 13) rfl rfl, az_in7 (i := 58) rfl rfl⟩, by decide +kernel, by decide⟩
theorem li_X12_375 : az_lV RX12 375 (az_R 12) yX12_inner cX12_inner 3 (some .int) 0 := ⟨⟨az_in7 (i := 59) rfl rfl, az_in7 (i := 61) rfl rfl, az_in0 (i := 79) rfl rfl, az_in1 (i := 13) rfl rfl, az_in7 (i := 62) rfl rfl⟩, by decide +kernel, by decide⟩
theorem li_X12_378 : az_lV RX12 378 (az_R 12) yX12_isCompared cX12_isCompared 2 (some .boolean) 0 := ⟨⟨az_in7 (i := 63) rfl rfl, az_in7 (i := 65) rfl rfl, az_in0 (i := 80) rfl rfl, az_in1 (i := 13) rfl rfl, az_in7 (i := 66) rfl rfl⟩, by decide +kernel, by decide⟩
theorem li_X12_392 : az_lV RX12 392 (az_R 12) yX12_behindTest cX12_behindTest 2 (some .int) 0 := ⟨⟨az_in7 (i := 70) rfl rfl, az_in7 (i := 72) rfl rfl, az_in0 (i := 81) rfl rfl, az_in1 (i := 13) rfl rfl, az_in7 (i := 73) rfl rfl⟩, by decide +kernel, by decide⟩
theorem li_X12_412 : az_lV RX12 412 (az_R 12) yX12_endText cX12_endText 1 none 0 := ⟨⟨az_in7 (i := 77) rfl rfl, az_in7 (i := 79) rfl rfl, az_in0 (i := 82) rfl rfl, az_in1 (i := 13) rfl rfl, az_in7 (i := 80) rfl rfl⟩, by decide +kernel, by decide⟩
theorem li_L_90 : az_lV RL 90 (az_R 12) yX12_force cX12_force 2 (some .int) 1 := ⟨⟨az_in7 (i := 81) rfl rfl, az_in7 (i := 82) rfl rfl, az_in7 (i := 83) rfl rfl, az_in1 (i := 13) rfl rfl, az_in7 (i := 84) rfl rfl⟩, by decide +kernel, by decide⟩
theorem li_L_94 : az_lV RL 94 (az_R 12) yX12_barred cX12_barred 3 (some .int) 2 := ⟨⟨az_in7 (i := 85) rfl rfl, az_in7 (i := 86) rfl rfl, az_in7 (i := 87) rfl rfl, az_in1 (i := 13) rfl rfl, az_in7 (i := 88) rfl rfl⟩, by decide +kernel, by decide⟩
theorem li_L_98 : az_lV RL 98 (az_R 12) yX12_fire cX12_fire 3 (some .int) 2 := ⟨⟨az_in7 (i := 89) rfl rfl, az_in7 (i := 90) rfl rfl, az_in7 (i := 91) rfl rfl, az_in1 (i := 13) rfl rfl, az_in7 (i := 92) rfl rfl⟩, by decide +kernel, by decide⟩
theorem li_X12_463 : az_lV RX12 463 (az_R 12) yX12_fireNow cX12_fireNow 3 (some .int) 2 := ⟨⟨az_in7 (i := 93) rfl rfl, az_in7 (i := 95) rfl rfl, az_in0 (i := 83) rfl rfl, az_in1 (i := 13) rfl rfl, az_in7 (i := 96) rfl rfl⟩, by decide +kernel, by decide⟩
theorem li_X12_457 : az_lV RX12 457 (az_R 12) yX12_remember cX12_remember 3 none 1 := ⟨⟨az_in7 (i := 97) rfl rfl, az_in7 (i := 99) rfl rfl, az_in0 (i := 84) rfl rfl, az_in1 (i := 13) rfl rfl, az_in7 (i := 100) rfl rfl⟩, by decide +kernel, by decide⟩
theorem li_X12_162 : az_lV RX12 162 (az_R 12) yX12_keepAll cX12_keepAll 3 none 1 := ⟨⟨az_in7 (i := 101) rfl rfl, az_in7 (i := 103) rfl rfl, az_in0 (i := 85) rfl rfl, az_in1 (i := 13) rfl rfl, az_in7 (i := 104) rfl rfl⟩, by decide +kernel, by decide⟩
theorem li_X12_460 : az_lV RX12 460 (az_R 12) yX12_shoot cX12_shoot 6 none 2 := ⟨⟨az_in7 (i := 105) rfl rfl, az_in7 (i := 107) rfl rfl, az_in0 (i := 86) rfl rfl, az_in1 (i := 13) rfl rfl, az_in7 (i := 108) rfl rfl⟩, by decide +kernel, by decide⟩
theorem li_X12_451 : az_lV RX12 451 (az_R 12) yX12_note cX12_note 3 none 1 := ⟨⟨az_in7 (i := 109) rfl rfl, az_in7 (i := 111) rfl rfl, az_in0 (i := 87) rfl rfl, az_in1 (i := 13) rfl rfl, az_in7 (i := 112) rfl rfl⟩, by decide +kernel, by decide⟩
theorem li_X12_454 : az_lV RX12 454 (az_R 12) yX12_goDays cX12_goDays 3 none 1 := ⟨⟨az_in7 (i := 113) rfl rfl, az_in7 (i := 115) rfl rfl, az_in0 (i := 88) rfl rfl, az_in1 (i := 13) rfl rfl, az_in7 (i := 116) rfl rfl⟩, by decide +kernel, by decide⟩
theorem li_L_102 : az_lV RL 102 (az_R 12) yX12_duel cX12_duel 3 (some .int) 2 := ⟨⟨az_in7 (i := 117) rfl rfl, az_in7 (i := 118) rfl rfl, az_in7 (i := 119) rfl rfl, az_in1 (i := 13) rfl rfl, az_in7 (i := 120) rfl rfl⟩, by decide +kernel, by decide⟩
theorem li_X12_484 : az_lV RX12 484 (az_R 12) yX12_duelNow cX12_duelNow 3 (some .int) 2 := ⟨⟨az_in7 (i := 121) rfl rfl, az_in7 (i := 123) rfl rfl, az_in0 (i := 89) rfl rfl, az_in1 (i := 13) rfl rfl, az_in7 (i := 124) rfl rfl⟩, by decide +kernel, by decide⟩
theorem li_X12_481 : az_lV RX12 481 (az_R 12) yX12_have cX12_have 7 (some .int) 1 := ⟨⟨az_in7 (i := 125) rfl rfl, az_in7 (i := 127) rfl rfl, az_in0 (i := 90) rfl rfl, az_in1 (i := 13) rfl rfl, az_in7 (i := 128) rfl rfl⟩, by decide +kernel, by decide⟩
theorem li_X12_475 : az_lV RX12 475 (az_R 12) yX12_draw cX12_draw 2 (some .int) 1 := ⟨⟨az_in7 (i := 129) rfl rfl, az_in7 (i := 131) rfl rfl, az_in0 (i := 91) rfl rfl, az_in1 (i := 13) rfl rfl, az_in7 (i := 132) rfl rfl⟩, by decide +kernel, by decide⟩
theorem li_X12_478 : az_lV RX12 478 (az_R 12) yX12_dropQuarrel cX12_dropQuarrel 3 none 1 := ⟨⟨az_in7 (i := 136) rfl rfl, az_in7 (i := 138) rfl rfl, az_in0 (i := 92) rfl rfl, az_in1 (i := 13) rfl rfl, az_in7 (i := 139) rfl rfl⟩, by decide +kernel, by decide⟩
theorem li_L_106 : az_lV RL 106 (az_R 12) yX12_rest cX12_rest 2 (some .int) 1 := ⟨⟨az_in7 (i := 140) rfl rfl, az_in7 (i := 141) rfl rfl, az_in7 (i := 142) rfl rfl, az_in1 (i := 13) rfl rfl, az_in7 (i := 143) rfl rfl⟩, by decide +kernel, by decide⟩
theorem li_X12_487 : az_lV RX12 487 (az_R 12) yX12_restNow cX12_restNow 2 (some .int) 1 := ⟨⟨az_in7 (i := 144) rfl rfl, az_in7 (i := 146) rfl rfl, az_in0 (i := 93) rfl rfl, az_in1 (i := 13) rfl rfl, az_in7 (i := 147) rfl rfl⟩, by decide +kernel, by decide⟩
theorem li_L_114 : az_lV RL 114 (az_R 12) yX12_log cX12_log 2 (some .int) 1 := ⟨⟨az_in7 (i := 148) rfl rfl, az_in7 (i := 149) rfl rfl, az_in7 (i := 150) rfl rfl, az_in1 (i := 13) rfl rfl, az_in7 (i := 151) rfl rfl⟩, by decide +kernel, by decide⟩
theorem li_L_118 : az_lV RL 118 (az_R 12) yX12_odds cX12_odds 3 (some .int) 2 := ⟨⟨az_in7 (i := 152) rfl rfl, az_in7 (i := 153) rfl rfl, az_in7 (i := 154) rfl rfl, az_in1 (i := 13) rfl rfl, az_in7 (i := 155) rfl rfl⟩, by decide +kernel, by decide⟩
theorem li_X12_491 : az_lV RX12 491 (az_R 12) yX12_findEnds cX12_findEnds 7 none 1 := ⟨⟨az_in7 (i := 156) rfl rfl, az_in7 (i := 158) rfl rfl, az_in0 (i := 94) rfl rfl, az_in1 (i := 13) rfl rfl, az_in7 (i := 159) rfl rfl⟩, by decide +kernel, by decide⟩
theorem li_L_122 : az_lV RL 122 (az_R 12) yX12_queue cX12_queue 3 (some .int) 1 := ⟨⟨az_in7 (i := 161) rfl rfl, az_in7 (i := 162) rfl rfl, az_in7 (i := 163) rfl rfl, az_in1 (i := 13) rfl rfl, az_in7 (i := 164) rfl rfl⟩, by decide +kernel, by decide⟩
theorem li_X12_515 : az_lV RX12 515 (az_R 12) yX12_findOrders cX12_findOrders 4 none 0 := ⟨⟨az_in7 (i := 165) rfl rfl, az_in7 (i := 167) rfl rfl, az_in0 (i := 95) rfl rfl, az_in1 (i := 13) rfl rfl, az_in7 (i := 168) rfl rfl⟩, by decide +kernel, by decide⟩
theorem li_X12_500 : az_lV RX12 500 (az_R 12) yX12_keepWait cX12_keepWait 3 none 1 := ⟨⟨az_in7 (i := 169) rfl rfl, az_in7 (i := 171) rfl rfl, az_in0 (i := 96) rfl rfl, az_in1 (i := 13) rfl rfl, az_in7 (i := 172) rfl rfl⟩, by decide +kernel, by decide⟩
theorem li_X12_503 : az_lV RX12 503 (az_R 12) yX12_keepOrder cX12_keepOrder 3 none 1 := ⟨⟨az_in7 (i := 173) rfl rfl, az_in7 (i := 175) rfl rfl, az_in0 (i := 97) rfl rfl, az_in1 (i := 13) rfl rfl, az_in7 (i := 176) rfl rfl⟩, by decide +kernel, by decide⟩
theorem li_X12_506 : az_lV RX12 506 (az_R 12) yX12_putWait cX12_putWait 3 none 1 := ⟨⟨az_in7 (i := 177) rfl rfl, az_in7 (i := 179) rfl rfl, az_in0 (i := 98) rfl rfl, az_in1 (i := 13) rfl rfl, az_in7 (i := 180) rfl rfl⟩, by decide +kernel, by decide⟩
theorem li_X12_509 : az_lV RX12 509 (az_R 12) yX12_isFresh cX12_isFresh 4 (some .boolean) 1 := ⟨⟨az_in7 (i := 181) rfl rfl, az_in7 (i := 183) rfl rfl, az_in0 (i := 99) rfl rfl, az_in1 (i := 13) rfl rfl, az_in7 (i := 184) rfl rfl⟩, by decide +kernel, by decide⟩
theorem li_X12_512 : az_lV RX12 512 (az_R 12) yX12_isHad cX12_isHad 4 (some .boolean) 1 := ⟨⟨az_in7 (i := 185) rfl rfl, az_in7 (i := 187) rfl rfl, az_in0 (i := 100) rfl rfl, az_in1 (i := 13) rfl rfl, az_in7 (i := 188) rfl rfl⟩, by decide +kernel, by decide⟩
theorem li_L_126 : az_lV RL 126 (az_R 12) yX12_spades cX12_spades 4 (some .int) 0 := ⟨⟨az_in7 (i := 189) rfl rfl, az_in7 (i := 190) rfl rfl, az_in7 (i := 191) rfl rfl, az_in1 (i := 13) rfl rfl, az_in7 (i := 192) rfl rfl⟩, by decide +kernel, by decide⟩
theorem li_L_130 : az_lV RL 130 (az_R 12) yX12_free cX12_free 8 (some .int) 1 := ⟨⟨az_in7 (i := 193) rfl rfl, az_in7 (i := 194) rfl rfl, az_in7 (i := 195) rfl rfl, az_in1 (i := 13) rfl rfl, az_in7 (i := 196) rfl rfl⟩, by decide +kernel, by decide⟩
theorem li_X12_518 : az_lS RX12 518 yX12_is cX12_is 2 (some .boolean) 2 := ⟨⟨az_in7 (i := 197) rfl rfl, az_in7 (i := 198) rfl rfl, az_in1 (i := 13) rfl rfl, az_in7 (i := 199) rfl rfl⟩, by decide +kernel, by decide⟩
theorem li_X12_521 : az_lS RX12 521 yX12_ones cX12_ones 3 (some .int) 1 := ⟨⟨az_in7 (i := 200) rfl rfl, az_in7 (i := 201) rfl rfl, az_in1 (i := 13) rfl rfl, az_in7 (i := 202) rfl rfl⟩, by decide +kernel, by decide⟩
theorem li_L_134 : az_lV RL 134 (az_R 12) yX12_marks cX12_marks 6 (some .int) 4 := ⟨⟨az_in7 (i := 203) rfl rfl, az_in7 (i := 204) rfl rfl, az_in7 (i := 205) rfl rfl, az_in1 (i := 13) rfl rfl, az_in7 (i := 206) rfl rfl⟩, by decide +kernel, by decide⟩
theorem li_X12_524 : az_lV RX12 524 (az_R 12) yX12_findMarks cX12_findMarks 10 (some .int) 3 := ⟨⟨az_in7 (i := 207) rfl rfl, az_in7 (i := 209) rfl rfl, az_in0 (i := 101) rfl rfl, az_in1 (i := 13) rfl rfl, az_in7 (i := 210) rfl rfl⟩, by decide +kernel, by decide⟩
theorem li_L_138 : az_lV RL 138 (az_R 12) yX12_game cX12_game 6 (some .int) 1 := ⟨⟨az_in7 (i := 211) rfl rfl, az_in7 (i := 212) rfl rfl, az_in7 (i := 213) rfl rfl, az_in1 (i := 13) rfl rfl, az_in7 (i := 214) rfl rfl⟩, by decide +kernel, by decide⟩
theorem li_X12_527 : az_lV RX12 527 (az_R 12) yX12_isWon cX12_isWon 4 (some .boolean) 2 := ⟨⟨az_in7 (i := 215) rfl rfl, az_in7 (i := 217) rfl rfl, az_in0 (i := 102) rfl rfl, az_in1 (i := 13) rfl rfl, az_in7 (i := 218) rfl rfl⟩, by decide +kernel, by decide⟩
theorem li_L_142 : az_lV RL 142 (az_R 12) yX12_share cX12_share 7 (some .int) 2 := ⟨⟨az_in7 (i := 219) rfl rfl, az_in7 (i := 220) rfl rfl, az_in7 (i := 221) rfl rfl, az_in1 (i := 13) rfl rfl, az_in7 (i := 222) rfl rfl⟩, by decide +kernel, by decide⟩
theorem li_L_78 : az_lV RL 78 (az_R 12) yX12_orders cX12_orders 4 (some .int) 0 := ⟨⟨az_in7 (i := 223) rfl rfl, az_in7 (i := 224) rfl rfl, az_in7 (i := 225) rfl rfl, az_in1 (i := 13) rfl rfl, az_in7 (i := 226) rfl rfl⟩, by decide +kernel, by decide⟩
theorem li_X12_558 : az_lV RX12 558 (az_R 12) yX12_readOrder cX12_readOrder 3 none 0 := ⟨⟨az_in7 (i := 227) rfl rfl, az_in7 (i := 229) rfl rfl, az_in0 (i := 103) rfl rfl, az_in1 (i := 13) rfl rfl, az_in7 (i := 230) rfl rfl⟩, by decide +kernel, by decide⟩
theorem li_X12_536 : az_lV RX12 536 (az_R 12) yX12_readSum cX12_readSum 2 none 1 := ⟨⟨az_in7 (i := 234) rfl rfl, az_in7 (i := 236) rfl rfl, az_in0 (i := 104) rfl rfl, az_in1 (i := 13) rfl rfl, az_in7 (i := 237) rfl rfl⟩, by decide +kernel, by decide⟩
theorem li_X12_561 : az_lV RX12 561 (az_R 12) yX12_run cX12_run 5 (some .int) 1 := ⟨⟨az_in8 (i := 1) rfl rfl, az_in8 (i := 3) rfl rfl, az_in0 (i := 105) rfl rfl, az_in1 (i := 13) rfl rfl, az_in8 (i := 4) rfl rfl⟩, by decide +kernel, by decide⟩
theorem li_X12_554 : az_lV RX12 554 (az_R 12) yX12_sumOf cX12_sumOf 2 (some .long) 1 := ⟨⟨az_in8 (i := 5) rfl rfl, az_in8 (i := 7) rfl rfl, az_in0 (i := 106) rfl rfl, az_in1 (i := 13) rfl rfl, az_in8 (i := 8) rfl rfl⟩, by decide +kernel, by decide⟩
theorem li_X12_564 : az_lV RX12 564 (az_R 12) yX12_giveBack cX12_giveBack 3 none 1 := ⟨⟨az_in8 (i := 9) rfl rfl, az_in8 (i := 11) rfl rfl, az_in0 (i := 107) rfl rfl, az_in1 (i := 13) rfl rfl, az_in8 (i := 12) rfl rfl⟩, by decide +kernel, by decide⟩
theorem li_L_86 : az_lV RL 86 (az_R 12) yX12_stopped cX12_stopped 1 (some .int) 0 := ⟨⟨az_in8 (i := 13) rfl rfl, az_in8 (i := 14) rfl rfl, az_in8 (i := 15) rfl rfl, az_in1 (i := 13) rfl rfl, az_in8 (i := 16) rfl rfl⟩, by decide +kernel, by decide⟩
theorem li_L_146 : az_lV RL 146 (az_R 12) yX12_season cX12_season 7 (some .int) 2 := ⟨⟨az_in8 (i := 17) rfl rfl, az_in8 (i := 18) rfl rfl, az_in8 (i := 19) rfl rfl, az_in1 (i := 13) rfl rfl, az_in8 (i := 20) rfl rfl⟩, by decide +kernel, by decide⟩
theorem li_L_150 : az_lV RL 150 (az_R 12) yX12_drawn cX12_drawn 2 (some .int) 1 := ⟨⟨az_in8 (i := 22) rfl rfl, az_in8 (i := 23) rfl rfl, az_in8 (i := 24) rfl rfl, az_in1 (i := 13) rfl rfl, az_in8 (i := 25) rfl rfl⟩, by decide +kernel, by decide⟩
theorem li_L_162 : az_lV RL 162 (az_R 12) yX12_count cX12_count 2 (some .int) 1 := ⟨⟨az_in8 (i := 26) rfl rfl, az_in8 (i := 27) rfl rfl, az_in8 (i := 28) rfl rfl, az_in1 (i := 13) rfl rfl, az_in8 (i := 29) rfl rfl⟩, by decide +kernel, by decide⟩
theorem li_L_166 : az_lV RL 166 (az_R 12) yX12_status cX12_status 1 (some .int) 0 := ⟨⟨az_in8 (i := 32) rfl rfl, az_in8 (i := 33) rfl rfl, az_in8 (i := 34) rfl rfl, az_in1 (i := 13) rfl rfl, az_in8 (i := 35) rfl rfl⟩, by decide +kernel, by decide⟩
