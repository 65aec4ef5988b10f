/-! links of constructors -/
theorem aw_int : Cond.arrayClass .int ∈ az_B := az_in1 (i := 45) rfl rfl
theorem aw_long : Cond.arrayClass .long ∈ az_B := az_in6 (i := 7) rfl rfl
theorem aw_boolean : Cond.arrayClass .boolean ∈ az_B := az_in2 (i := 39) rfl rfl
theorem lc_L_9 : kz_lI RL 9 yX11_init cX11_init 2 0 := ⟨⟨az_in1 (i := 23) rfl rfl, az_in1 (i := 24) rfl rfl, az_in1 (i := 1) rfl rfl, az_in1 (i := 25) rfl rfl⟩, by decide +kernel, by decide⟩
theorem lo_X11_5 : kz_lo RX11 5 := ⟨az_in1 (i := 26) rfl rfl, az_in1 (i := 27) rfl rfl, az_in1 (i := 28) rfl rfl⟩
theorem lo_X4_3 : kz_lo RX4 3 := ⟨az_in1 (i := 34) rfl rfl, az_in1 (i := 27) rfl rfl, az_in1 (i := 28) rfl rfl⟩
theorem lo_X0_3 : kz_lo RX0 3 := ⟨az_in1 (i := 51) rfl rfl, az_in1 (i := 27) rfl rfl, az_in1 (i := 28) rfl rfl⟩
theorem lo_X9_3 : kz_lo RX9 3 := ⟨az_in1 (i := 71) rfl rfl, az_in1 (i := 27) rfl rfl, az_in1 (i := 28) rfl rfl⟩
theorem lo_X3_3 : kz_lo RX3 3 := ⟨az_in1 (i := 88) rfl rfl, az_in1 (i := 27) rfl rfl, az_in1 (i := 28) rfl rfl⟩
theorem lo_X6_3 : kz_lo RX6 3 := ⟨az_in1 (i := 110) rfl rfl, az_in1 (i := 27) rfl rfl, az_in1 (i := 28) rfl rfl⟩
theorem lc_X11_72 : kz_lI RX11 72 yX5_init cX5_init 2 1 := ⟨⟨az_in1 (i := 121) rfl rfl, az_in1 (i := 122) rfl rfl, az_in1 (i := 7) rfl rfl, az_in1 (i := 123) rfl rfl⟩, by decide +kernel, by decide⟩
theorem lo_X5_3 : kz_lo RX5 3 := ⟨az_in1 (i := 124) rfl rfl, az_in1 (i := 27) rfl rfl, az_in1 (i := 28) rfl rfl⟩
theorem lc_X5_11 : kz_lI RX5 11 yX10_init cX10_init 1 0 := ⟨⟨az_in1 (i := 127) rfl rfl, az_in1 (i := 128) rfl rfl, az_in1 (i := 8) rfl rfl, az_in1 (i := 129) rfl rfl⟩, by decide +kernel, by decide⟩
theorem lo_X10_3 : kz_lo RX10 3 := ⟨az_in1 (i := 130) rfl rfl, az_in1 (i := 27) rfl rfl, az_in1 (i := 28) rfl rfl⟩
theorem lc_X11_81 : kz_lI RX11 81 yX8_init cX8_init 3 2 := ⟨⟨az_in1 (i := 181) rfl rfl, az_in1 (i := 182) rfl rfl, az_in1 (i := 9) rfl rfl, az_in1 (i := 183) rfl rfl⟩, by decide +kernel, by decide⟩
theorem lo_X8_3 : kz_lo RX8 3 := ⟨az_in1 (i := 184) rfl rfl, az_in1 (i := 27) rfl rfl, az_in1 (i := 28) rfl rfl⟩
theorem lc_X11_90 : kz_lI RX11 90 yX1_init cX1_init 5 4 := ⟨⟨az_in1 (i := 202) rfl rfl, az_in1 (i := 203) rfl rfl, az_in1 (i := 10) rfl rfl, az_in1 (i := 204) rfl rfl⟩, by decide +kernel, by decide⟩
theorem lo_X1_3 : kz_lo RX1 3 := ⟨az_in1 (i := 205) rfl rfl, az_in1 (i := 27) rfl rfl, az_in1 (i := 28) rfl rfl⟩
theorem lc_X11_99 : kz_lI RX11 99 yX2_init cX2_init 3 2 := ⟨⟨az_in2 (i := 1) rfl rfl, az_in2 (i := 2) rfl rfl, az_in1 (i := 11) rfl rfl, az_in2 (i := 3) rfl rfl⟩, by decide +kernel, by decide⟩
theorem lo_X2_3 : kz_lo RX2 3 := ⟨az_in2 (i := 4) rfl rfl, az_in1 (i := 27) rfl rfl, az_in1 (i := 28) rfl rfl⟩
theorem lc_X11_108 : kz_lI RX11 108 yX7_init cX7_init 3 2 := ⟨⟨az_in2 (i := 42) rfl rfl, az_in2 (i := 43) rfl rfl, az_in1 (i := 12) rfl rfl, az_in2 (i := 44) rfl rfl⟩, by decide +kernel, by decide⟩
theorem lo_X7_3 : kz_lo RX7 3 := ⟨az_in2 (i := 45) rfl rfl, az_in1 (i := 27) rfl rfl, az_in1 (i := 28) rfl rfl⟩
theorem lc_X11_202 : kz_lI RX11 202 yX10_init_ cX10_init_ 2 1 := ⟨⟨az_in3 (i := 223) rfl rfl, az_in3 (i := 224) rfl rfl, az_in1 (i := 8) rfl rfl, az_in3 (i := 225) rfl rfl⟩, by decide +kernel, by decide⟩
theorem lc_L_12 : kz_lI RL 12 yX12_init cX12_init 1 0 := ⟨⟨az_in5 (i := 45) rfl rfl, az_in5 (i := 46) rfl rfl, az_in1 (i := 13) rfl rfl, az_in5 (i := 47) rfl rfl⟩, by decide +kernel, by decide⟩
theorem lo_X12_1 : kz_lo RX12 1 := ⟨az_in5 (i := 48) rfl rfl, az_in1 (i := 27) rfl rfl, az_in1 (i := 28) rfl rfl⟩
theorem lc_X11_13 : kz_lN RX11 13 yX4_init cX4_init 1 0 := ⟨⟨by decide +kernel, az_in1 (i := 32) rfl rfl, az_in1 (i := 2) rfl rfl, az_in1 (i := 33) rfl rfl⟩, by decide +kernel, by decide⟩
theorem lc_X11_20 : kz_lN RX11 20 yX0_init cX0_init 1 0 := ⟨⟨by decide +kernel, az_in1 (i := 49) rfl rfl, az_in1 (i := 3) rfl rfl, az_in1 (i := 50) rfl rfl⟩, by decide +kernel, by decide⟩
theorem lc_X11_27 : kz_lN RX11 27 yX9_init cX9_init 1 0 := ⟨⟨by decide +kernel, az_in1 (i := 69) rfl rfl, az_in1 (i := 4) rfl rfl, az_in1 (i := 70) rfl rfl⟩, by decide +kernel, by decide⟩
theorem lc_X11_34 : kz_lN RX11 34 yX3_init cX3_init 1 0 := ⟨⟨by decide +kernel, az_in1 (i := 86) rfl rfl, az_in1 (i := 5) rfl rfl, az_in1 (i := 87) rfl rfl⟩, by decide +kernel, by decide⟩
theorem lc_X11_66 : kz_lN RX11 66 yX6_init cX6_init 1 0 := ⟨⟨by decide +kernel, az_in1 (i := 108) rfl rfl, az_in1 (i := 6) rfl rfl, az_in1 (i := 109) rfl rfl⟩, by decide +kernel, by decide⟩
theorem lc_X1_11 : kz_lN RX1 11 yX4_init cX4_init 1 0 := ⟨⟨by decide +kernel, az_in1 (i := 32) rfl rfl, az_in1 (i := 2) rfl rfl, az_in1 (i := 33) rfl rfl⟩, by decide +kernel, by decide⟩
theorem lc_X1_20 : kz_lN RX1 20 yX3_init cX3_init 1 0 := ⟨⟨by decide +kernel, az_in1 (i := 86) rfl rfl, az_in1 (i := 5) rfl rfl, az_in1 (i := 87) rfl rfl⟩, by decide +kernel, by decide⟩
theorem lc_X2_21 : kz_lN RX2 21 yX4_init cX4_init 1 0 := ⟨⟨by decide +kernel, az_in1 (i := 32) rfl rfl, az_in1 (i := 2) rfl rfl, az_in1 (i := 33) rfl rfl⟩, by decide +kernel, by decide⟩
theorem lc_X7_11 : kz_lN RX7 11 yX4_init cX4_init 1 0 := ⟨⟨by decide +kernel, az_in1 (i := 32) rfl rfl, az_in1 (i := 2) rfl rfl, az_in1 (i := 33) rfl rfl⟩, by decide +kernel, by decide⟩
theorem ln_L_7 : kz_ln RL 7 11 := ⟨by decide, az_in1 (i := 21) rfl rfl, az_in1 (i := 22) rfl rfl, az_in1 (i := 1) rfl rfl⟩
theorem ln_X11_11 : kz_ln RX11 11 4 := ⟨by decide, az_in1 (i := 29) rfl rfl, az_in1 (i := 30) rfl rfl, az_in1 (i := 2) rfl rfl⟩
theorem ln_X11_18 : kz_ln RX11 18 0 := ⟨by decide, az_in1 (i := 46) rfl rfl, az_in1 (i := 47) rfl rfl, az_in1 (i := 3) rfl rfl⟩
theorem ln_X0_9 : kz_ln RX0 9 10 := ⟨by decide, az_in1 (i := 52) rfl rfl, az_in1 (i := 126) rfl rfl, az_in1 (i := 8) rfl rfl⟩
theorem ln_X11_25 : kz_ln RX11 25 9 := ⟨by decide, az_in1 (i := 66) rfl rfl, az_in1 (i := 67) rfl rfl, az_in1 (i := 4) rfl rfl⟩
theorem ln_X11_32 : kz_ln RX11 32 3 := ⟨by decide, az_in1 (i := 83) rfl rfl, az_in1 (i := 84) rfl rfl, az_in1 (i := 5) rfl rfl⟩
theorem ln_X11_64 : kz_ln RX11 64 6 := ⟨by decide, az_in1 (i := 105) rfl rfl, az_in1 (i := 106) rfl rfl, az_in1 (i := 6) rfl rfl⟩
theorem ln_X11_70 : kz_ln RX11 70 5 := ⟨by decide, az_in1 (i := 119) rfl rfl, az_in1 (i := 120) rfl rfl, az_in1 (i := 7) rfl rfl⟩
theorem ln_X5_9 : kz_ln RX5 9 10 := ⟨by decide, az_in1 (i := 125) rfl rfl, az_in1 (i := 126) rfl rfl, az_in1 (i := 8) rfl rfl⟩
theorem ln_X11_79 : kz_ln RX11 79 8 := ⟨by decide, az_in1 (i := 179) rfl rfl, az_in1 (i := 180) rfl rfl, az_in1 (i := 9) rfl rfl⟩
theorem ln_X11_88 : kz_ln RX11 88 1 := ⟨by decide, az_in1 (i := 200) rfl rfl, az_in1 (i := 201) rfl rfl, az_in1 (i := 10) rfl rfl⟩
theorem ln_X1_9 : kz_ln RX1 9 4 := ⟨by decide, az_in1 (i := 206) rfl rfl, az_in1 (i := 30) rfl rfl, az_in1 (i := 2) rfl rfl⟩
theorem ln_X1_18 : kz_ln RX1 18 3 := ⟨by decide, az_in1 (i := 208) rfl rfl, az_in1 (i := 84) rfl rfl, az_in1 (i := 5) rfl rfl⟩
theorem ln_X11_97 : kz_ln RX11 97 2 := ⟨by decide, az_in1 (i := 239) rfl rfl, az_in2 (i := 0) rfl rfl, az_in1 (i := 11) rfl rfl⟩
theorem ln_X2_19 : kz_ln RX2 19 4 := ⟨by decide, az_in2 (i := 5) rfl rfl, az_in1 (i := 30) rfl rfl, az_in1 (i := 2) rfl rfl⟩
theorem ln_X11_106 : kz_ln RX11 106 7 := ⟨by decide, az_in2 (i := 40) rfl rfl, az_in2 (i := 41) rfl rfl, az_in1 (i := 12) rfl rfl⟩
theorem ln_X7_9 : kz_ln RX7 9 4 := ⟨by decide, az_in2 (i := 46) rfl rfl, az_in1 (i := 30) rfl rfl, az_in1 (i := 2) rfl rfl⟩
theorem ln_X11_196 : kz_ln RX11 196 10 := ⟨by decide, az_in3 (i := 222) rfl rfl, az_in1 (i := 126) rfl rfl, az_in1 (i := 8) rfl rfl⟩
theorem ln_L_10 : kz_ln RL 10 12 := ⟨by decide, az_in5 (i := 43) rfl rfl, az_in5 (i := 44) rfl rfl, az_in1 (i := 13) rfl rfl⟩
