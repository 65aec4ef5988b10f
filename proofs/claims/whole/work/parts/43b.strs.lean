/-! the elements of the String constants among what is given -/
abbrev az_F0 : List Cond := flatC (Jvm.Cond.and given_1 narrow_1)
theorem sx_0_0 : Cond.eq (.elem (.field (.string "OneBullet$Reader" 62) "java/lang/String" "value" "[B") (.int 0)) (.int 97) ∈ az_F0 := List.mem_of_getElem? (i := 300) rfl
theorem sx_0_1 : Cond.eq (.elem (.field (.string "OneBullet$Reader" 62) "java/lang/String" "value" "[B") (.int 1)) (.int 105) ∈ az_F0 := List.mem_of_getElem? (i := 301) rfl
theorem sx_0_2 : Cond.eq (.elem (.field (.string "OneBullet$Reader" 62) "java/lang/String" "value" "[B") (.int 2)) (.int 109) ∈ az_F0 := List.mem_of_getElem? (i := 302) rfl
theorem sx_0_3 : Cond.eq (.elem (.field (.string "OneBullet$Reader" 62) "java/lang/String" "value" "[B") (.int 3)) (.int 115) ∈ az_F0 := List.mem_of_getElem? (i := 303) rfl
theorem sx_0_4 : Cond.eq (.elem (.field (.string "OneBullet$Reader" 62) "java/lang/String" "value" "[B") (.int 4)) (.int 32) ∈ az_F0 := List.mem_of_getElem? (i := 304) rfl
theorem sx_0_5 : Cond.eq (.elem (.field (.string "OneBullet$Reader" 62) "java/lang/String" "value" "[B") (.int 5)) (.int 119) ∈ az_F0 := List.mem_of_getElem? (i := 305) rfl
theorem sx_0_6 : Cond.eq (.elem (.field (.string "OneBullet$Reader" 62) "java/lang/String" "value" "[B") (.int 6)) (.int 101) ∈ az_F0 := List.mem_of_getElem? (i := 306) rfl
theorem sx_0_7 : Cond.eq (.elem (.field (.string "OneBullet$Reader" 62) "java/lang/String" "value" "[B") (.int 7)) (.int 97) ∈ az_F0 := List.mem_of_getElem? (i := 307) rfl
theorem sx_0_8 : Cond.eq (.elem (.field (.string "OneBullet$Reader" 62) "java/lang/String" "value" "[B") (.int 8)) (.int 114) ∈ az_F0 := List.mem_of_getElem? (i := 308) rfl
theorem sx_0_9 : Cond.eq (.elem (.field (.string "OneBullet$Reader" 62) "java/lang/String" "value" "[B") (.int 9)) (.int 115) ∈ az_F0 := List.mem_of_getElem? (i := 309) rfl
theorem sx_0_10 : Cond.eq (.elem (.field (.string "OneBullet$Reader" 62) "java/lang/String" "value" "[B") (.int 10)) (.int 32) ∈ az_F0 := List.mem_of_getElem? (i := 310) rfl
theorem sx_0_11 : Cond.eq (.elem (.field (.string "OneBullet$Reader" 62) "java/lang/String" "value" "[B") (.int 11)) (.int 102) ∈ az_F0 := List.mem_of_getElem? (i := 311) rfl
theorem sx_0_12 : Cond.eq (.elem (.field (.string "OneBullet$Reader" 62) "java/lang/String" "value" "[B") (.int 12)) (.int 108) ∈ az_F0 := List.mem_of_getElem? (i := 312) rfl
theorem sx_0_13 : Cond.eq (.elem (.field (.string "OneBullet$Reader" 62) "java/lang/String" "value" "[B") (.int 13)) (.int 97) ∈ az_F0 := List.mem_of_getElem? (i := 313) rfl
theorem sx_0_14 : Cond.eq (.elem (.field (.string "OneBullet$Reader" 62) "java/lang/String" "value" "[B") (.int 14)) (.int 116) ∈ az_F0 := List.mem_of_getElem? (i := 314) rfl
theorem sx_0_15 : Cond.eq (.elem (.field (.string "OneBullet$Reader" 62) "java/lang/String" "value" "[B") (.int 15)) (.int 116) ∈ az_F0 := List.mem_of_getElem? (i := 315) rfl
theorem sx_0_16 : Cond.eq (.elem (.field (.string "OneBullet$Reader" 62) "java/lang/String" "value" "[B") (.int 16)) (.int 101) ∈ az_F0 := List.mem_of_getElem? (i := 316) rfl
theorem sx_0_17 : Cond.eq (.elem (.field (.string "OneBullet$Reader" 62) "java/lang/String" "value" "[B") (.int 17)) (.int 110) ∈ az_F0 := List.mem_of_getElem? (i := 317) rfl
theorem sx_0_18 : Cond.eq (.elem (.field (.string "OneBullet$Reader" 62) "java/lang/String" "value" "[B") (.int 18)) (.int 115) ∈ az_F0 := List.mem_of_getElem? (i := 318) rfl
theorem sx_0_19 : Cond.eq (.elem (.field (.string "OneBullet$Reader" 62) "java/lang/String" "value" "[B") (.int 19)) (.int 32) ∈ az_F0 := List.mem_of_getElem? (i := 319) rfl
theorem sx_0_20 : Cond.eq (.elem (.field (.string "OneBullet$Reader" 62) "java/lang/String" "value" "[B") (.int 20)) (.int 112) ∈ az_F0 := List.mem_of_getElem? (i := 320) rfl
theorem sx_0_21 : Cond.eq (.elem (.field (.string "OneBullet$Reader" 62) "java/lang/String" "value" "[B") (.int 21)) (.int 114) ∈ az_F0 := List.mem_of_getElem? (i := 321) rfl
theorem sx_0_22 : Cond.eq (.elem (.field (.string "OneBullet$Reader" 62) "java/lang/String" "value" "[B") (.int 22)) (.int 105) ∈ az_F0 := List.mem_of_getElem? (i := 322) rfl
theorem sx_0_23 : Cond.eq (.elem (.field (.string "OneBullet$Reader" 62) "java/lang/String" "value" "[B") (.int 23)) (.int 99) ∈ az_F0 := List.mem_of_getElem? (i := 323) rfl
theorem sx_0_24 : Cond.eq (.elem (.field (.string "OneBullet$Reader" 62) "java/lang/String" "value" "[B") (.int 24)) (.int 101) ∈ az_F0 := List.mem_of_getElem? (i := 324) rfl
theorem sx_0_25 : Cond.eq (.elem (.field (.string "OneBullet$Reader" 62) "java/lang/String" "value" "[B") (.int 25)) (.int 115) ∈ az_F0 := List.mem_of_getElem? (i := 325) rfl
theorem sx_0_26 : Cond.eq (.elem (.field (.string "OneBullet$Reader" 62) "java/lang/String" "value" "[B") (.int 26)) (.int 32) ∈ az_F0 := List.mem_of_getElem? (i := 326) rfl
theorem sx_0_27 : Cond.eq (.elem (.field (.string "OneBullet$Reader" 62) "java/lang/String" "value" "[B") (.int 27)) (.int 98) ∈ az_F0 := List.mem_of_getElem? (i := 327) rfl
theorem sx_0_28 : Cond.eq (.elem (.field (.string "OneBullet$Reader" 62) "java/lang/String" "value" "[B") (.int 28)) (.int 97) ∈ az_F0 := List.mem_of_getElem? (i := 328) rfl
theorem sx_0_29 : Cond.eq (.elem (.field (.string "OneBullet$Reader" 62) "java/lang/String" "value" "[B") (.int 29)) (.int 114) ∈ az_F0 := List.mem_of_getElem? (i := 329) rfl
theorem sx_0_30 : Cond.eq (.elem (.field (.string "OneBullet$Reader" 62) "java/lang/String" "value" "[B") (.int 30)) (.int 115) ∈ az_F0 := List.mem_of_getElem? (i := 330) rfl
theorem sy_0 : ∀ j : Nat, j < 31 → Cond.eq (.elem (.field (.string "OneBullet$Reader" 62) "java/lang/String" "value" "[B") (.int (Int32.ofNat j))) (.int ((az_zb.getD 0 []).getD j 0)) ∈ az_F0 := by
  intro j hj
  match j, hj with
  | 0, _ => exact sx_0_0
  | 1, _ => exact sx_0_1
  | 2, _ => exact sx_0_2
  | 3, _ => exact sx_0_3
  | 4, _ => exact sx_0_4
  | 5, _ => exact sx_0_5
  | 6, _ => exact sx_0_6
  | 7, _ => exact sx_0_7
  | 8, _ => exact sx_0_8
  | 9, _ => exact sx_0_9
  | 10, _ => exact sx_0_10
  | 11, _ => exact sx_0_11
  | 12, _ => exact sx_0_12
  | 13, _ => exact sx_0_13
  | 14, _ => exact sx_0_14
  | 15, _ => exact sx_0_15
  | 16, _ => exact sx_0_16
  | 17, _ => exact sx_0_17
  | 18, _ => exact sx_0_18
  | 19, _ => exact sx_0_19
  | 20, _ => exact sx_0_20
  | 21, _ => exact sx_0_21
  | 22, _ => exact sx_0_22
  | 23, _ => exact sx_0_23
  | 24, _ => exact sx_0_24
  | 25, _ => exact sx_0_25
  | 26, _ => exact sx_0_26
  | 27, _ => exact sx_0_27
  | 28, _ => exact sx_0_28
  | 29, _ => exact sx_0_29
  | 30, _ => exact sx_0_30
  | j + 31, h => exact absurd h (by omega)
theorem sx_1_0 : Cond.eq (.elem (.field (.string "OneBullet$Reader" 79) "java/lang/String" "value" "[B") (.int 0)) (.int 102) ∈ az_F0 := List.mem_of_getElem? (i := 82) rfl
theorem sx_1_1 : Cond.eq (.elem (.field (.string "OneBullet$Reader" 79) "java/lang/String" "value" "[B") (.int 1)) (.int 105) ∈ az_F0 := List.mem_of_getElem? (i := 83) rfl
theorem sx_1_2 : Cond.eq (.elem (.field (.string "OneBullet$Reader" 79) "java/lang/String" "value" "[B") (.int 2)) (.int 114) ∈ az_F0 := List.mem_of_getElem? (i := 84) rfl
theorem sx_1_3 : Cond.eq (.elem (.field (.string "OneBullet$Reader" 79) "java/lang/String" "value" "[B") (.int 3)) (.int 101) ∈ az_F0 := List.mem_of_getElem? (i := 85) rfl
theorem sx_1_4 : Cond.eq (.elem (.field (.string "OneBullet$Reader" 79) "java/lang/String" "value" "[B") (.int 4)) (.int 32) ∈ az_F0 := List.mem_of_getElem? (i := 86) rfl
theorem sx_1_5 : Cond.eq (.elem (.field (.string "OneBullet$Reader" 79) "java/lang/String" "value" "[B") (.int 5)) (.int 100) ∈ az_F0 := List.mem_of_getElem? (i := 87) rfl
theorem sx_1_6 : Cond.eq (.elem (.field (.string "OneBullet$Reader" 79) "java/lang/String" "value" "[B") (.int 6)) (.int 117) ∈ az_F0 := List.mem_of_getElem? (i := 88) rfl
theorem sx_1_7 : Cond.eq (.elem (.field (.string "OneBullet$Reader" 79) "java/lang/String" "value" "[B") (.int 7)) (.int 101) ∈ az_F0 := List.mem_of_getElem? (i := 89) rfl
theorem sx_1_8 : Cond.eq (.elem (.field (.string "OneBullet$Reader" 79) "java/lang/String" "value" "[B") (.int 8)) (.int 108) ∈ az_F0 := List.mem_of_getElem? (i := 90) rfl
theorem sx_1_9 : Cond.eq (.elem (.field (.string "OneBullet$Reader" 79) "java/lang/String" "value" "[B") (.int 9)) (.int 32) ∈ az_F0 := List.mem_of_getElem? (i := 91) rfl
theorem sx_1_10 : Cond.eq (.elem (.field (.string "OneBullet$Reader" 79) "java/lang/String" "value" "[B") (.int 10)) (.int 114) ∈ az_F0 := List.mem_of_getElem? (i := 92) rfl
theorem sx_1_11 : Cond.eq (.elem (.field (.string "OneBullet$Reader" 79) "java/lang/String" "value" "[B") (.int 11)) (.int 101) ∈ az_F0 := List.mem_of_getElem? (i := 93) rfl
theorem sx_1_12 : Cond.eq (.elem (.field (.string "OneBullet$Reader" 79) "java/lang/String" "value" "[B") (.int 12)) (.int 115) ∈ az_F0 := List.mem_of_getElem? (i := 94) rfl
theorem sx_1_13 : Cond.eq (.elem (.field (.string "OneBullet$Reader" 79) "java/lang/String" "value" "[B") (.int 13)) (.int 116) ∈ az_F0 := List.mem_of_getElem? (i := 95) rfl
theorem sy_1 : ∀ j : Nat, j < 14 → Cond.eq (.elem (.field (.string "OneBullet$Reader" 79) "java/lang/String" "value" "[B") (.int (Int32.ofNat j))) (.int ((az_zb.getD 1 []).getD j 0)) ∈ az_F0 := by
  intro j hj
  match j, hj with
  | 0, _ => exact sx_1_0
  | 1, _ => exact sx_1_1
  | 2, _ => exact sx_1_2
  | 3, _ => exact sx_1_3
  | 4, _ => exact sx_1_4
  | 5, _ => exact sx_1_5
  | 6, _ => exact sx_1_6
  | 7, _ => exact sx_1_7
  | 8, _ => exact sx_1_8
  | 9, _ => exact sx_1_9
  | 10, _ => exact sx_1_10
  | 11, _ => exact sx_1_11
  | 12, _ => exact sx_1_12
  | 13, _ => exact sx_1_13
  | j + 14, h => exact absurd h (by omega)
theorem sx_2_0 : Cond.eq (.elem (.field (.string "OneBullet$Reader" 81) "java/lang/String" "value" "[B") (.int 0)) (.int 97) ∈ az_F0 := List.mem_of_getElem? (i := 211) rfl
theorem sx_2_1 : Cond.eq (.elem (.field (.string "OneBullet$Reader" 81) "java/lang/String" "value" "[B") (.int 1)) (.int 116) ∈ az_F0 := List.mem_of_getElem? (i := 212) rfl
theorem sy_2 : ∀ j : Nat, j < 2 → Cond.eq (.elem (.field (.string "OneBullet$Reader" 81) "java/lang/String" "value" "[B") (.int (Int32.ofNat j))) (.int ((az_zb.getD 2 []).getD j 0)) ∈ az_F0 := by
  intro j hj
  match j, hj with
  | 0, _ => exact sx_2_0
  | 1, _ => exact sx_2_1
  | j + 2, h => exact absurd h (by omega)
theorem sx_3_0 : Cond.eq (.elem (.field (.string "OneBullet$Reader" 83) "java/lang/String" "value" "[B") (.int 0)) (.int 98) ∈ az_F0 := List.mem_of_getElem? (i := 220) rfl
theorem sx_3_1 : Cond.eq (.elem (.field (.string "OneBullet$Reader" 83) "java/lang/String" "value" "[B") (.int 1)) (.int 121) ∈ az_F0 := List.mem_of_getElem? (i := 221) rfl
theorem sy_3 : ∀ j : Nat, j < 2 → Cond.eq (.elem (.field (.string "OneBullet$Reader" 83) "java/lang/String" "value" "[B") (.int (Int32.ofNat j))) (.int ((az_zb.getD 3 []).getD j 0)) ∈ az_F0 := by
  intro j hj
  match j, hj with
  | 0, _ => exact sx_3_0
  | 1, _ => exact sx_3_1
  | j + 2, h => exact absurd h (by omega)
theorem sx_4_0 : Cond.eq (.elem (.field (.string "OneBullet$Reader" 88) "java/lang/String" "value" "[B") (.int 0)) (.int 116) ∈ az_F0 := List.mem_of_getElem? (i := 230) rfl
theorem sx_4_1 : Cond.eq (.elem (.field (.string "OneBullet$Reader" 88) "java/lang/String" "value" "[B") (.int 1)) (.int 105) ∈ az_F0 := List.mem_of_getElem? (i := 231) rfl
theorem sx_4_2 : Cond.eq (.elem (.field (.string "OneBullet$Reader" 88) "java/lang/String" "value" "[B") (.int 2)) (.int 109) ∈ az_F0 := List.mem_of_getElem? (i := 232) rfl
theorem sx_4_3 : Cond.eq (.elem (.field (.string "OneBullet$Reader" 88) "java/lang/String" "value" "[B") (.int 3)) (.int 101) ∈ az_F0 := List.mem_of_getElem? (i := 233) rfl
theorem sx_4_4 : Cond.eq (.elem (.field (.string "OneBullet$Reader" 88) "java/lang/String" "value" "[B") (.int 4)) (.int 115) ∈ az_F0 := List.mem_of_getElem? (i := 234) rfl
theorem sy_4 : ∀ j : Nat, j < 5 → Cond.eq (.elem (.field (.string "OneBullet$Reader" 88) "java/lang/String" "value" "[B") (.int (Int32.ofNat j))) (.int ((az_zb.getD 4 []).getD j 0)) ∈ az_F0 := by
  intro j hj
  match j, hj with
  | 0, _ => exact sx_4_0
  | 1, _ => exact sx_4_1
  | 2, _ => exact sx_4_2
  | 3, _ => exact sx_4_3
  | 4, _ => exact sx_4_4
  | j + 5, h => exact absurd h (by omega)
theorem sx_5_0 : Cond.eq (.elem (.field (.string "OneBullet$Reader" 93) "java/lang/String" "value" "[B") (.int 0)) (.int 105) ∈ az_F0 := List.mem_of_getElem? (i := 244) rfl
theorem sx_5_1 : Cond.eq (.elem (.field (.string "OneBullet$Reader" 93) "java/lang/String" "value" "[B") (.int 1)) (.int 102) ∈ az_F0 := List.mem_of_getElem? (i := 245) rfl
theorem sy_5 : ∀ j : Nat, j < 2 → Cond.eq (.elem (.field (.string "OneBullet$Reader" 93) "java/lang/String" "value" "[B") (.int (Int32.ofNat j))) (.int ((az_zb.getD 5 []).getD j 0)) ∈ az_F0 := by
  intro j hj
  match j, hj with
  | 0, _ => exact sx_5_0
  | 1, _ => exact sx_5_1
  | j + 2, h => exact absurd h (by omega)
theorem sx_6_0 : Cond.eq (.elem (.field (.string "OneBullet$Reader" 101) "java/lang/String" "value" "[B") (.int 0)) (.int 111) ∈ az_F0 := List.mem_of_getElem? (i := 285) rfl
theorem sx_6_1 : Cond.eq (.elem (.field (.string "OneBullet$Reader" 101) "java/lang/String" "value" "[B") (.int 1)) (.int 114) ∈ az_F0 := List.mem_of_getElem? (i := 286) rfl
theorem sy_6 : ∀ j : Nat, j < 2 → Cond.eq (.elem (.field (.string "OneBullet$Reader" 101) "java/lang/String" "value" "[B") (.int (Int32.ofNat j))) (.int ((az_zb.getD 6 []).getD j 0)) ∈ az_F0 := by
  intro j hj
  match j, hj with
  | 0, _ => exact sx_6_0
  | 1, _ => exact sx_6_1
  | j + 2, h => exact absurd h (by omega)
theorem sx_7_0 : Cond.eq (.elem (.field (.string "OneBullet$Reader" 113) "java/lang/String" "value" "[B") (.int 0)) (.int 97) ∈ az_F0 := List.mem_of_getElem? (i := 270) rfl
theorem sx_7_1 : Cond.eq (.elem (.field (.string "OneBullet$Reader" 113) "java/lang/String" "value" "[B") (.int 1)) (.int 110) ∈ az_F0 := List.mem_of_getElem? (i := 271) rfl
theorem sx_7_2 : Cond.eq (.elem (.field (.string "OneBullet$Reader" 113) "java/lang/String" "value" "[B") (.int 2)) (.int 100) ∈ az_F0 := List.mem_of_getElem? (i := 272) rfl
theorem sy_7 : ∀ j : Nat, j < 3 → Cond.eq (.elem (.field (.string "OneBullet$Reader" 113) "java/lang/String" "value" "[B") (.int (Int32.ofNat j))) (.int ((az_zb.getD 7 []).getD j 0)) ∈ az_F0 := by
  intro j hj
  match j, hj with
  | 0, _ => exact sx_7_0
  | 1, _ => exact sx_7_1
  | 2, _ => exact sx_7_2
  | j + 3, h => exact absurd h (by omega)
theorem sx_8_0 : Cond.eq (.elem (.field (.string "OneBullet$Reader" 119) "java/lang/String" "value" "[B") (.int 0)) (.int 110) ∈ az_F0 := List.mem_of_getElem? (i := 256) rfl
theorem sx_8_1 : Cond.eq (.elem (.field (.string "OneBullet$Reader" 119) "java/lang/String" "value" "[B") (.int 1)) (.int 111) ∈ az_F0 := List.mem_of_getElem? (i := 257) rfl
theorem sx_8_2 : Cond.eq (.elem (.field (.string "OneBullet$Reader" 119) "java/lang/String" "value" "[B") (.int 2)) (.int 116) ∈ az_F0 := List.mem_of_getElem? (i := 258) rfl
theorem sy_8 : ∀ j : Nat, j < 3 → Cond.eq (.elem (.field (.string "OneBullet$Reader" 119) "java/lang/String" "value" "[B") (.int (Int32.ofNat j))) (.int ((az_zb.getD 8 []).getD j 0)) ∈ az_F0 := by
  intro j hj
  match j, hj with
  | 0, _ => exact sx_8_0
  | 1, _ => exact sx_8_1
  | 2, _ => exact sx_8_2
  | j + 3, h => exact absurd h (by omega)
theorem sx_9_0 : Cond.eq (.elem (.field (.string "OneBullet$Reader" 133) "java/lang/String" "value" "[B") (.int 0)) (.int 110) ∈ az_F0 := List.mem_of_getElem? (i := 100) rfl
theorem sx_9_1 : Cond.eq (.elem (.field (.string "OneBullet$Reader" 133) "java/lang/String" "value" "[B") (.int 1)) (.int 111) ∈ az_F0 := List.mem_of_getElem? (i := 101) rfl
theorem sx_9_2 : Cond.eq (.elem (.field (.string "OneBullet$Reader" 133) "java/lang/String" "value" "[B") (.int 2)) (.int 119) ∈ az_F0 := List.mem_of_getElem? (i := 102) rfl
theorem sx_9_3 : Cond.eq (.elem (.field (.string "OneBullet$Reader" 133) "java/lang/String" "value" "[B") (.int 3)) (.int 32) ∈ az_F0 := List.mem_of_getElem? (i := 103) rfl
theorem sx_9_4 : Cond.eq (.elem (.field (.string "OneBullet$Reader" 133) "java/lang/String" "value" "[B") (.int 4)) (.int 119) ∈ az_F0 := List.mem_of_getElem? (i := 104) rfl
theorem sx_9_5 : Cond.eq (.elem (.field (.string "OneBullet$Reader" 133) "java/lang/String" "value" "[B") (.int 5)) (.int 101) ∈ az_F0 := List.mem_of_getElem? (i := 105) rfl
theorem sx_9_6 : Cond.eq (.elem (.field (.string "OneBullet$Reader" 133) "java/lang/String" "value" "[B") (.int 6)) (.int 105) ∈ az_F0 := List.mem_of_getElem? (i := 106) rfl
theorem sx_9_7 : Cond.eq (.elem (.field (.string "OneBullet$Reader" 133) "java/lang/String" "value" "[B") (.int 7)) (.int 103) ∈ az_F0 := List.mem_of_getElem? (i := 107) rfl
theorem sx_9_8 : Cond.eq (.elem (.field (.string "OneBullet$Reader" 133) "java/lang/String" "value" "[B") (.int 8)) (.int 104) ∈ az_F0 := List.mem_of_getElem? (i := 108) rfl
theorem sx_9_9 : Cond.eq (.elem (.field (.string "OneBullet$Reader" 133) "java/lang/String" "value" "[B") (.int 9)) (.int 116) ∈ az_F0 := List.mem_of_getElem? (i := 109) rfl
theorem sx_9_10 : Cond.eq (.elem (.field (.string "OneBullet$Reader" 133) "java/lang/String" "value" "[B") (.int 10)) (.int 32) ∈ az_F0 := List.mem_of_getElem? (i := 110) rfl
theorem sx_9_11 : Cond.eq (.elem (.field (.string "OneBullet$Reader" 133) "java/lang/String" "value" "[B") (.int 11)) (.int 102) ∈ az_F0 := List.mem_of_getElem? (i := 111) rfl
theorem sx_9_12 : Cond.eq (.elem (.field (.string "OneBullet$Reader" 133) "java/lang/String" "value" "[B") (.int 12)) (.int 108) ∈ az_F0 := List.mem_of_getElem? (i := 112) rfl
theorem sx_9_13 : Cond.eq (.elem (.field (.string "OneBullet$Reader" 133) "java/lang/String" "value" "[B") (.int 13)) (.int 97) ∈ az_F0 := List.mem_of_getElem? (i := 113) rfl
theorem sx_9_14 : Cond.eq (.elem (.field (.string "OneBullet$Reader" 133) "java/lang/String" "value" "[B") (.int 14)) (.int 116) ∈ az_F0 := List.mem_of_getElem? (i := 114) rfl
theorem sx_9_15 : Cond.eq (.elem (.field (.string "OneBullet$Reader" 133) "java/lang/String" "value" "[B") (.int 15)) (.int 32) ∈ az_F0 := List.mem_of_getElem? (i := 115) rfl
theorem sx_9_16 : Cond.eq (.elem (.field (.string "OneBullet$Reader" 133) "java/lang/String" "value" "[B") (.int 16)) (.int 114) ∈ az_F0 := List.mem_of_getElem? (i := 116) rfl
theorem sx_9_17 : Cond.eq (.elem (.field (.string "OneBullet$Reader" 133) "java/lang/String" "value" "[B") (.int 17)) (.int 117) ∈ az_F0 := List.mem_of_getElem? (i := 117) rfl
theorem sx_9_18 : Cond.eq (.elem (.field (.string "OneBullet$Reader" 133) "java/lang/String" "value" "[B") (.int 18)) (.int 115) ∈ az_F0 := List.mem_of_getElem? (i := 118) rfl
theorem sx_9_19 : Cond.eq (.elem (.field (.string "OneBullet$Reader" 133) "java/lang/String" "value" "[B") (.int 19)) (.int 116) ∈ az_F0 := List.mem_of_getElem? (i := 119) rfl
theorem sx_9_20 : Cond.eq (.elem (.field (.string "OneBullet$Reader" 133) "java/lang/String" "value" "[B") (.int 20)) (.int 32) ∈ az_F0 := List.mem_of_getElem? (i := 120) rfl
theorem sx_9_21 : Cond.eq (.elem (.field (.string "OneBullet$Reader" 133) "java/lang/String" "value" "[B") (.int 21)) (.int 100) ∈ az_F0 := List.mem_of_getElem? (i := 121) rfl
theorem sx_9_22 : Cond.eq (.elem (.field (.string "OneBullet$Reader" 133) "java/lang/String" "value" "[B") (.int 22)) (.int 111) ∈ az_F0 := List.mem_of_getElem? (i := 122) rfl
theorem sx_9_23 : Cond.eq (.elem (.field (.string "OneBullet$Reader" 133) "java/lang/String" "value" "[B") (.int 23)) (.int 110) ∈ az_F0 := List.mem_of_getElem? (i := 123) rfl
theorem sx_9_24 : Cond.eq (.elem (.field (.string "OneBullet$Reader" 133) "java/lang/String" "value" "[B") (.int 24)) (.int 101) ∈ az_F0 := List.mem_of_getElem? (i := 124) rfl
theorem sx_9_25 : Cond.eq (.elem (.field (.string "OneBullet$Reader" 133) "java/lang/String" "value" "[B") (.int 25)) (.int 32) ∈ az_F0 := List.mem_of_getElem? (i := 125) rfl
theorem sx_9_26 : Cond.eq (.elem (.field (.string "OneBullet$Reader" 133) "java/lang/String" "value" "[B") (.int 26)) (.int 101) ∈ az_F0 := List.mem_of_getElem? (i := 126) rfl
theorem sx_9_27 : Cond.eq (.elem (.field (.string "OneBullet$Reader" 133) "java/lang/String" "value" "[B") (.int 27)) (.int 110) ∈ az_F0 := List.mem_of_getElem? (i := 127) rfl
theorem sx_9_28 : Cond.eq (.elem (.field (.string "OneBullet$Reader" 133) "java/lang/String" "value" "[B") (.int 28)) (.int 100) ∈ az_F0 := List.mem_of_getElem? (i := 128) rfl
theorem sx_9_29 : Cond.eq (.elem (.field (.string "OneBullet$Reader" 133) "java/lang/String" "value" "[B") (.int 29)) (.int 101) ∈ az_F0 := List.mem_of_getElem? (i := 129) rfl
theorem sx_9_30 : Cond.eq (.elem (.field (.string "OneBullet$Reader" 133) "java/lang/String" "value" "[B") (.int 30)) (.int 100) ∈ az_F0 := List.mem_of_getElem? (i := 130) rfl
theorem sx_9_31 : Cond.eq (.elem (.field (.string "OneBullet$Reader" 133) "java/lang/String" "value" "[B") (.int 31)) (.int 32) ∈ az_F0 := List.mem_of_getElem? (i := 131) rfl
theorem sx_9_32 : Cond.eq (.elem (.field (.string "OneBullet$Reader" 133) "java/lang/String" "value" "[B") (.int 32)) (.int 104) ∈ az_F0 := List.mem_of_getElem? (i := 132) rfl
theorem sx_9_33 : Cond.eq (.elem (.field (.string "OneBullet$Reader" 133) "java/lang/String" "value" "[B") (.int 33)) (.int 117) ∈ az_F0 := List.mem_of_getElem? (i := 133) rfl
theorem sx_9_34 : Cond.eq (.elem (.field (.string "OneBullet$Reader" 133) "java/lang/String" "value" "[B") (.int 34)) (.int 114) ∈ az_F0 := List.mem_of_getElem? (i := 134) rfl
theorem sx_9_35 : Cond.eq (.elem (.field (.string "OneBullet$Reader" 133) "java/lang/String" "value" "[B") (.int 35)) (.int 116) ∈ az_F0 := List.mem_of_getElem? (i := 135) rfl
theorem sx_9_36 : Cond.eq (.elem (.field (.string "OneBullet$Reader" 133) "java/lang/String" "value" "[B") (.int 36)) (.int 32) ∈ az_F0 := List.mem_of_getElem? (i := 136) rfl
theorem sx_9_37 : Cond.eq (.elem (.field (.string "OneBullet$Reader" 133) "java/lang/String" "value" "[B") (.int 37)) (.int 100) ∈ az_F0 := List.mem_of_getElem? (i := 137) rfl
theorem sx_9_38 : Cond.eq (.elem (.field (.string "OneBullet$Reader" 133) "java/lang/String" "value" "[B") (.int 38)) (.int 101) ∈ az_F0 := List.mem_of_getElem? (i := 138) rfl
theorem sx_9_39 : Cond.eq (.elem (.field (.string "OneBullet$Reader" 133) "java/lang/String" "value" "[B") (.int 39)) (.int 110) ∈ az_F0 := List.mem_of_getElem? (i := 139) rfl
theorem sx_9_40 : Cond.eq (.elem (.field (.string "OneBullet$Reader" 133) "java/lang/String" "value" "[B") (.int 40)) (.int 116) ∈ az_F0 := List.mem_of_getElem? (i := 140) rfl
theorem sx_9_41 : Cond.eq (.elem (.field (.string "OneBullet$Reader" 133) "java/lang/String" "value" "[B") (.int 41)) (.int 115) ∈ az_F0 := List.mem_of_getElem? (i := 141) rfl
theorem sy_9 : ∀ j : Nat, j < 42 → Cond.eq (.elem (.field (.string "OneBullet$Reader" 133) "java/lang/String" "value" "[B") (.int (Int32.ofNat j))) (.int ((az_zb.getD 9 []).getD j 0)) ∈ az_F0 := by
  intro j hj
  match j, hj with
  | 0, _ => exact sx_9_0
  | 1, _ => exact sx_9_1
  | 2, _ => exact sx_9_2
  | 3, _ => exact sx_9_3
  | 4, _ => exact sx_9_4
  | 5, _ => exact sx_9_5
  | 6, _ => exact sx_9_6
  | 7, _ => exact sx_9_7
  | 8, _ => exact sx_9_8
  | 9, _ => exact sx_9_9
  | 10, _ => exact sx_9_10
  | 11, _ => exact sx_9_11
  | 12, _ => exact sx_9_12
  | 13, _ => exact sx_9_13
  | 14, _ => exact sx_9_14
  | 15, _ => exact sx_9_15
  | 16, _ => exact sx_9_16
  | 17, _ => exact sx_9_17
  | 18, _ => exact sx_9_18
  | 19, _ => exact sx_9_19
  | 20, _ => exact sx_9_20
  | 21, _ => exact sx_9_21
  | 22, _ => exact sx_9_22
  | 23, _ => exact sx_9_23
  | 24, _ => exact sx_9_24
  | 25, _ => exact sx_9_25
  | 26, _ => exact sx_9_26
  | 27, _ => exact sx_9_27
  | 28, _ => exact sx_9_28
  | 29, _ => exact sx_9_29
  | 30, _ => exact sx_9_30
  | 31, _ => exact sx_9_31
  | 32, _ => exact sx_9_32
  | 33, _ => exact sx_9_33
  | 34, _ => exact sx_9_34
  | 35, _ => exact sx_9_35
  | 36, _ => exact sx_9_36
  | 37, _ => exact sx_9_37
  | 38, _ => exact sx_9_38
  | 39, _ => exact sx_9_39
  | 40, _ => exact sx_9_40
  | 41, _ => exact sx_9_41
  | j + 42, h => exact absurd h (by omega)
theorem sx_10_0 : Cond.eq (.elem (.field (.string "OneBullet$Reader" 135) "java/lang/String" "value" "[B") (.int 0)) (.int 112) ∈ az_F0 := List.mem_of_getElem? (i := 147) rfl
theorem sx_10_1 : Cond.eq (.elem (.field (.string "OneBullet$Reader" 135) "java/lang/String" "value" "[B") (.int 1)) (.int 101) ∈ az_F0 := List.mem_of_getElem? (i := 148) rfl
theorem sx_10_2 : Cond.eq (.elem (.field (.string "OneBullet$Reader" 135) "java/lang/String" "value" "[B") (.int 2)) (.int 114) ∈ az_F0 := List.mem_of_getElem? (i := 149) rfl
theorem sx_10_3 : Cond.eq (.elem (.field (.string "OneBullet$Reader" 135) "java/lang/String" "value" "[B") (.int 3)) (.int 115) ∈ az_F0 := List.mem_of_getElem? (i := 150) rfl
theorem sx_10_4 : Cond.eq (.elem (.field (.string "OneBullet$Reader" 135) "java/lang/String" "value" "[B") (.int 4)) (.int 111) ∈ az_F0 := List.mem_of_getElem? (i := 151) rfl
theorem sx_10_5 : Cond.eq (.elem (.field (.string "OneBullet$Reader" 135) "java/lang/String" "value" "[B") (.int 5)) (.int 110) ∈ az_F0 := List.mem_of_getElem? (i := 152) rfl
theorem sx_10_6 : Cond.eq (.elem (.field (.string "OneBullet$Reader" 135) "java/lang/String" "value" "[B") (.int 6)) (.int 32) ∈ az_F0 := List.mem_of_getElem? (i := 153) rfl
theorem sx_10_7 : Cond.eq (.elem (.field (.string "OneBullet$Reader" 135) "java/lang/String" "value" "[B") (.int 7)) (.int 97) ∈ az_F0 := List.mem_of_getElem? (i := 154) rfl
theorem sx_10_8 : Cond.eq (.elem (.field (.string "OneBullet$Reader" 135) "java/lang/String" "value" "[B") (.int 8)) (.int 105) ∈ az_F0 := List.mem_of_getElem? (i := 155) rfl
theorem sx_10_9 : Cond.eq (.elem (.field (.string "OneBullet$Reader" 135) "java/lang/String" "value" "[B") (.int 9)) (.int 109) ∈ az_F0 := List.mem_of_getElem? (i := 156) rfl
theorem sx_10_10 : Cond.eq (.elem (.field (.string "OneBullet$Reader" 135) "java/lang/String" "value" "[B") (.int 10)) (.int 32) ∈ az_F0 := List.mem_of_getElem? (i := 157) rfl
theorem sx_10_11 : Cond.eq (.elem (.field (.string "OneBullet$Reader" 135) "java/lang/String" "value" "[B") (.int 11)) (.int 112) ∈ az_F0 := List.mem_of_getElem? (i := 158) rfl
theorem sx_10_12 : Cond.eq (.elem (.field (.string "OneBullet$Reader" 135) "java/lang/String" "value" "[B") (.int 12)) (.int 108) ∈ az_F0 := List.mem_of_getElem? (i := 159) rfl
theorem sx_10_13 : Cond.eq (.elem (.field (.string "OneBullet$Reader" 135) "java/lang/String" "value" "[B") (.int 13)) (.int 97) ∈ az_F0 := List.mem_of_getElem? (i := 160) rfl
theorem sx_10_14 : Cond.eq (.elem (.field (.string "OneBullet$Reader" 135) "java/lang/String" "value" "[B") (.int 14)) (.int 99) ∈ az_F0 := List.mem_of_getElem? (i := 161) rfl
theorem sx_10_15 : Cond.eq (.elem (.field (.string "OneBullet$Reader" 135) "java/lang/String" "value" "[B") (.int 15)) (.int 101) ∈ az_F0 := List.mem_of_getElem? (i := 162) rfl
theorem sx_10_16 : Cond.eq (.elem (.field (.string "OneBullet$Reader" 135) "java/lang/String" "value" "[B") (.int 16)) (.int 32) ∈ az_F0 := List.mem_of_getElem? (i := 163) rfl
theorem sx_10_17 : Cond.eq (.elem (.field (.string "OneBullet$Reader" 135) "java/lang/String" "value" "[B") (.int 17)) (.int 107) ∈ az_F0 := List.mem_of_getElem? (i := 164) rfl
theorem sx_10_18 : Cond.eq (.elem (.field (.string "OneBullet$Reader" 135) "java/lang/String" "value" "[B") (.int 18)) (.int 105) ∈ az_F0 := List.mem_of_getElem? (i := 165) rfl
theorem sx_10_19 : Cond.eq (.elem (.field (.string "OneBullet$Reader" 135) "java/lang/String" "value" "[B") (.int 19)) (.int 110) ∈ az_F0 := List.mem_of_getElem? (i := 166) rfl
theorem sx_10_20 : Cond.eq (.elem (.field (.string "OneBullet$Reader" 135) "java/lang/String" "value" "[B") (.int 20)) (.int 100) ∈ az_F0 := List.mem_of_getElem? (i := 167) rfl
theorem sx_10_21 : Cond.eq (.elem (.field (.string "OneBullet$Reader" 135) "java/lang/String" "value" "[B") (.int 21)) (.int 32) ∈ az_F0 := List.mem_of_getElem? (i := 168) rfl
theorem sx_10_22 : Cond.eq (.elem (.field (.string "OneBullet$Reader" 135) "java/lang/String" "value" "[B") (.int 22)) (.int 104) ∈ az_F0 := List.mem_of_getElem? (i := 169) rfl
theorem sx_10_23 : Cond.eq (.elem (.field (.string "OneBullet$Reader" 135) "java/lang/String" "value" "[B") (.int 23)) (.int 97) ∈ az_F0 := List.mem_of_getElem? (i := 170) rfl
theorem sx_10_24 : Cond.eq (.elem (.field (.string "OneBullet$Reader" 135) "java/lang/String" "value" "[B") (.int 24)) (.int 114) ∈ az_F0 := List.mem_of_getElem? (i := 171) rfl
theorem sx_10_25 : Cond.eq (.elem (.field (.string "OneBullet$Reader" 135) "java/lang/String" "value" "[B") (.int 25)) (.int 100) ∈ az_F0 := List.mem_of_getElem? (i := 172) rfl
theorem sx_10_26 : Cond.eq (.elem (.field (.string "OneBullet$Reader" 135) "java/lang/String" "value" "[B") (.int 26)) (.int 32) ∈ az_F0 := List.mem_of_getElem? (i := 173) rfl
theorem sx_10_27 : Cond.eq (.elem (.field (.string "OneBullet$Reader" 135) "java/lang/String" "value" "[B") (.int 27)) (.int 100) ∈ az_F0 := List.mem_of_getElem? (i := 174) rfl
theorem sx_10_28 : Cond.eq (.elem (.field (.string "OneBullet$Reader" 135) "java/lang/String" "value" "[B") (.int 28)) (.int 101) ∈ az_F0 := List.mem_of_getElem? (i := 175) rfl
theorem sx_10_29 : Cond.eq (.elem (.field (.string "OneBullet$Reader" 135) "java/lang/String" "value" "[B") (.int 29)) (.int 110) ∈ az_F0 := List.mem_of_getElem? (i := 176) rfl
theorem sx_10_30 : Cond.eq (.elem (.field (.string "OneBullet$Reader" 135) "java/lang/String" "value" "[B") (.int 30)) (.int 116) ∈ az_F0 := List.mem_of_getElem? (i := 177) rfl
theorem sx_10_31 : Cond.eq (.elem (.field (.string "OneBullet$Reader" 135) "java/lang/String" "value" "[B") (.int 31)) (.int 115) ∈ az_F0 := List.mem_of_getElem? (i := 178) rfl
theorem sx_10_32 : Cond.eq (.elem (.field (.string "OneBullet$Reader" 135) "java/lang/String" "value" "[B") (.int 32)) (.int 32) ∈ az_F0 := List.mem_of_getElem? (i := 179) rfl
theorem sx_10_33 : Cond.eq (.elem (.field (.string "OneBullet$Reader" 135) "java/lang/String" "value" "[B") (.int 33)) (.int 119) ∈ az_F0 := List.mem_of_getElem? (i := 180) rfl
theorem sx_10_34 : Cond.eq (.elem (.field (.string "OneBullet$Reader" 135) "java/lang/String" "value" "[B") (.int 34)) (.int 101) ∈ az_F0 := List.mem_of_getElem? (i := 181) rfl
theorem sx_10_35 : Cond.eq (.elem (.field (.string "OneBullet$Reader" 135) "java/lang/String" "value" "[B") (.int 35)) (.int 105) ∈ az_F0 := List.mem_of_getElem? (i := 182) rfl
theorem sx_10_36 : Cond.eq (.elem (.field (.string "OneBullet$Reader" 135) "java/lang/String" "value" "[B") (.int 36)) (.int 103) ∈ az_F0 := List.mem_of_getElem? (i := 183) rfl
theorem sx_10_37 : Cond.eq (.elem (.field (.string "OneBullet$Reader" 135) "java/lang/String" "value" "[B") (.int 37)) (.int 104) ∈ az_F0 := List.mem_of_getElem? (i := 184) rfl
theorem sx_10_38 : Cond.eq (.elem (.field (.string "OneBullet$Reader" 135) "java/lang/String" "value" "[B") (.int 38)) (.int 116) ∈ az_F0 := List.mem_of_getElem? (i := 185) rfl
theorem sx_10_39 : Cond.eq (.elem (.field (.string "OneBullet$Reader" 135) "java/lang/String" "value" "[B") (.int 39)) (.int 32) ∈ az_F0 := List.mem_of_getElem? (i := 186) rfl
theorem sx_10_40 : Cond.eq (.elem (.field (.string "OneBullet$Reader" 135) "java/lang/String" "value" "[B") (.int 40)) (.int 102) ∈ az_F0 := List.mem_of_getElem? (i := 187) rfl
theorem sx_10_41 : Cond.eq (.elem (.field (.string "OneBullet$Reader" 135) "java/lang/String" "value" "[B") (.int 41)) (.int 108) ∈ az_F0 := List.mem_of_getElem? (i := 188) rfl
theorem sx_10_42 : Cond.eq (.elem (.field (.string "OneBullet$Reader" 135) "java/lang/String" "value" "[B") (.int 42)) (.int 97) ∈ az_F0 := List.mem_of_getElem? (i := 189) rfl
theorem sx_10_43 : Cond.eq (.elem (.field (.string "OneBullet$Reader" 135) "java/lang/String" "value" "[B") (.int 43)) (.int 116) ∈ az_F0 := List.mem_of_getElem? (i := 190) rfl
theorem sx_10_44 : Cond.eq (.elem (.field (.string "OneBullet$Reader" 135) "java/lang/String" "value" "[B") (.int 44)) (.int 32) ∈ az_F0 := List.mem_of_getElem? (i := 191) rfl
theorem sx_10_45 : Cond.eq (.elem (.field (.string "OneBullet$Reader" 135) "java/lang/String" "value" "[B") (.int 45)) (.int 114) ∈ az_F0 := List.mem_of_getElem? (i := 192) rfl
theorem sx_10_46 : Cond.eq (.elem (.field (.string "OneBullet$Reader" 135) "java/lang/String" "value" "[B") (.int 46)) (.int 117) ∈ az_F0 := List.mem_of_getElem? (i := 193) rfl
theorem sx_10_47 : Cond.eq (.elem (.field (.string "OneBullet$Reader" 135) "java/lang/String" "value" "[B") (.int 47)) (.int 115) ∈ az_F0 := List.mem_of_getElem? (i := 194) rfl
theorem sx_10_48 : Cond.eq (.elem (.field (.string "OneBullet$Reader" 135) "java/lang/String" "value" "[B") (.int 48)) (.int 116) ∈ az_F0 := List.mem_of_getElem? (i := 195) rfl
theorem sx_10_49 : Cond.eq (.elem (.field (.string "OneBullet$Reader" 135) "java/lang/String" "value" "[B") (.int 49)) (.int 32) ∈ az_F0 := List.mem_of_getElem? (i := 196) rfl
theorem sx_10_50 : Cond.eq (.elem (.field (.string "OneBullet$Reader" 135) "java/lang/String" "value" "[B") (.int 50)) (.int 100) ∈ az_F0 := List.mem_of_getElem? (i := 197) rfl
theorem sx_10_51 : Cond.eq (.elem (.field (.string "OneBullet$Reader" 135) "java/lang/String" "value" "[B") (.int 51)) (.int 97) ∈ az_F0 := List.mem_of_getElem? (i := 198) rfl
theorem sx_10_52 : Cond.eq (.elem (.field (.string "OneBullet$Reader" 135) "java/lang/String" "value" "[B") (.int 52)) (.int 121) ∈ az_F0 := List.mem_of_getElem? (i := 199) rfl
theorem sx_10_53 : Cond.eq (.elem (.field (.string "OneBullet$Reader" 135) "java/lang/String" "value" "[B") (.int 53)) (.int 32) ∈ az_F0 := List.mem_of_getElem? (i := 200) rfl
theorem sx_10_54 : Cond.eq (.elem (.field (.string "OneBullet$Reader" 135) "java/lang/String" "value" "[B") (.int 54)) (.int 109) ∈ az_F0 := List.mem_of_getElem? (i := 201) rfl
theorem sx_10_55 : Cond.eq (.elem (.field (.string "OneBullet$Reader" 135) "java/lang/String" "value" "[B") (.int 55)) (.int 111) ∈ az_F0 := List.mem_of_getElem? (i := 202) rfl
theorem sx_10_56 : Cond.eq (.elem (.field (.string "OneBullet$Reader" 135) "java/lang/String" "value" "[B") (.int 56)) (.int 111) ∈ az_F0 := List.mem_of_getElem? (i := 203) rfl
theorem sx_10_57 : Cond.eq (.elem (.field (.string "OneBullet$Reader" 135) "java/lang/String" "value" "[B") (.int 57)) (.int 100) ∈ az_F0 := List.mem_of_getElem? (i := 204) rfl
theorem sy_10 : ∀ j : Nat, j < 58 → Cond.eq (.elem (.field (.string "OneBullet$Reader" 135) "java/lang/String" "value" "[B") (.int (Int32.ofNat j))) (.int ((az_zb.getD 10 []).getD j 0)) ∈ az_F0 := by
  intro j hj
  match j, hj with
  | 0, _ => exact sx_10_0
  | 1, _ => exact sx_10_1
  | 2, _ => exact sx_10_2
  | 3, _ => exact sx_10_3
  | 4, _ => exact sx_10_4
  | 5, _ => exact sx_10_5
  | 6, _ => exact sx_10_6
  | 7, _ => exact sx_10_7
  | 8, _ => exact sx_10_8
  | 9, _ => exact sx_10_9
  | 10, _ => exact sx_10_10
  | 11, _ => exact sx_10_11
  | 12, _ => exact sx_10_12
  | 13, _ => exact sx_10_13
  | 14, _ => exact sx_10_14
  | 15, _ => exact sx_10_15
  | 16, _ => exact sx_10_16
  | 17, _ => exact sx_10_17
  | 18, _ => exact sx_10_18
  | 19, _ => exact sx_10_19
  | 20, _ => exact sx_10_20
  | 21, _ => exact sx_10_21
  | 22, _ => exact sx_10_22
  | 23, _ => exact sx_10_23
  | 24, _ => exact sx_10_24
  | 25, _ => exact sx_10_25
  | 26, _ => exact sx_10_26
  | 27, _ => exact sx_10_27
  | 28, _ => exact sx_10_28
  | 29, _ => exact sx_10_29
  | 30, _ => exact sx_10_30
  | 31, _ => exact sx_10_31
  | 32, _ => exact sx_10_32
  | 33, _ => exact sx_10_33
  | 34, _ => exact sx_10_34
  | 35, _ => exact sx_10_35
  | 36, _ => exact sx_10_36
  | 37, _ => exact sx_10_37
  | 38, _ => exact sx_10_38
  | 39, _ => exact sx_10_39
  | 40, _ => exact sx_10_40
  | 41, _ => exact sx_10_41
  | 42, _ => exact sx_10_42
  | 43, _ => exact sx_10_43
  | 44, _ => exact sx_10_44
  | 45, _ => exact sx_10_45
  | 46, _ => exact sx_10_46
  | 47, _ => exact sx_10_47
  | 48, _ => exact sx_10_48
  | 49, _ => exact sx_10_49
  | 50, _ => exact sx_10_50
  | 51, _ => exact sx_10_51
  | 52, _ => exact sx_10_52
  | 53, _ => exact sx_10_53
  | 54, _ => exact sx_10_54
  | 55, _ => exact sx_10_55
  | 56, _ => exact sx_10_56
  | 57, _ => exact sx_10_57
  | j + 58, h => exact absurd h (by omega)
theorem sy_all : ∀ i : Nat, i < 11 → ∀ j : Nat, j < az_zl.getD i 0 → Cond.eq (.elem (.field (.string "OneBullet$Reader" (az_zi.getD i 0)) "java/lang/String" "value" "[B") (.int (Int32.ofNat j))) (.int ((az_zb.getD i []).getD j 0)) ∈ az_F0 := by
  intro i hi
  match i, hi with
  | 0, _ => exact sy_0
  | 1, _ => exact sy_1
  | 2, _ => exact sy_2
  | 3, _ => exact sy_3
  | 4, _ => exact sy_4
  | 5, _ => exact sy_5
  | 6, _ => exact sy_6
  | 7, _ => exact sy_7
  | 8, _ => exact sy_8
  | 9, _ => exact sy_9
  | 10, _ => exact sy_10
  | i + 11, h => exact absurd h (by omega)
