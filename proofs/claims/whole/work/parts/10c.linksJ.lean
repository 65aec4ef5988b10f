/-! THE LINKS of String's methods -/
theorem jf_9 : Cond.fieldLink RJ0 9 "java/lang/String" "value" "[B" ∈ az_B := az_in8 (i := 36) rfl rfl
theorem jf_15 : Cond.fieldLink RJ0 15 "java/lang/String" "coder" "B" ∈ az_B := az_in8 (i := 37) rfl rfl
theorem jf_38 : Cond.fieldLink RJ0 38 "java/lang/String" "COMPACT_STRINGS" "Z" ∈ az_B := az_in3 (i := 112) rfl rfl
theorem jf_1053 : Cond.fieldLink RJ0 1053 "jdk/internal/util/Preconditions" "SIOOBE_FORMATTER" "Ljava/util/function/BiFunction;" ∈ az_B := az_in3 (i := 128) rfl rfl
theorem li_J0_335 : az_lV RJ0 335 "java/lang/String" yJ0_coder_7d493 cJ0_coder_7d493 1 (some .byte) 0 := ⟨⟨az_in3 (i := 108) rfl rfl, az_in3 (i := 109) rfl rfl, az_in3 (i := 110) rfl rfl, az_in1 (i := 15) rfl rfl, az_in3 (i := 111) rfl rfl⟩, by decide +kernel, by decide⟩
theorem li_J0_492 : az_lV RJ0 492 "java/lang/String" yJ0_isLatin1_aae02 cJ0_isLatin1_aae02 1 (some .boolean) 0 := ⟨⟨az_in3 (i := 118) rfl rfl, az_in3 (i := 119) rfl rfl, az_in3 (i := 120) rfl rfl, az_in1 (i := 15) rfl rfl, az_in3 (i := 121) rfl rfl⟩, by decide +kernel, by decide⟩
theorem li_J0_495 : az_lS RJ0 495 yJ1_charAt_3b067 cJ1_charAt_3b067 2 (some .char) 2 := ⟨⟨az_in3 (i := 122) rfl rfl, az_in3 (i := 123) rfl rfl, az_in1 (i := 16) rfl rfl, az_in3 (i := 124) rfl rfl⟩, by decide +kernel, by decide⟩
theorem li_J1_9 : az_lS RJ1 9 yJ0_checkIndex_df160 cJ0_checkIndex_df160 2 none 2 := ⟨⟨az_in3 (i := 125) rfl rfl, az_in3 (i := 126) rfl rfl, az_in1 (i := 15) rfl rfl, az_in3 (i := 127) rfl rfl⟩, by decide +kernel, by decide⟩
theorem li_J0_1059 : az_lS RJ0 1059 yJ3_checkIndex_8e157 cJ3_checkIndex_8e157 3 (some .int) 3 := ⟨⟨az_in3 (i := 130) rfl rfl, az_in3 (i := 131) rfl rfl, az_in1 (i := 17) rfl rfl, az_in3 (i := 132) rfl rfl⟩, by decide +kernel, by decide⟩
theorem li_X5_142 : az_lV RX5 142 "java/lang/String" yJ0_length_8abf5 cJ0_length_8abf5 1 (some .int) 0 := ⟨⟨az_in3 (i := 104) rfl rfl, az_in3 (i := 105) rfl rfl, az_in3 (i := 106) rfl rfl, az_in1 (i := 15) rfl rfl, az_in3 (i := 107) rfl rfl⟩, by decide +kernel, by decide⟩
theorem li_X5_147 : az_lV RX5 147 "java/lang/String" yJ0_charAt_5068e cJ0_charAt_5068e 2 (some .char) 1 := ⟨⟨az_in3 (i := 114) rfl rfl, az_in3 (i := 115) rfl rfl, az_in3 (i := 116) rfl rfl, az_in1 (i := 15) rfl rfl, az_in3 (i := 117) rfl rfl⟩, by decide +kernel, by decide⟩
