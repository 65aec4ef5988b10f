set_option maxHeartbeats 4000000 in
set_option maxRecDepth 100000 in
theorem s_J6_bitCount_0f7a4_e {Y : az_Y} {V : az_V} {post : Option Value → az_M → Prop} (C : az_C Y V cJ6_bitCount_0f7a4 1 RJ6 (some .int) 1) (p0 : Int32) (M : az_M) (r : Int32) (h : f_J6_bitCount_0f7a4 p0 M = some r) (hp : post (some (.int r)) M) : AW Y V (az_end Y V post) 1 M 0 [(0, .int p0)] [] := by
  unfold f_J6_bitCount_0f7a4 at h
  refine az_iload_n C 0 dJ6_bitCount_0f7a4_0 rfl ?_
  refine az_iload_n C 0 dJ6_bitCount_0f7a4_1 rfl ?_
  refine az_iconst (v := 1) C dJ6_bitCount_0f7a4_2 (by decide) ?_
  refine az_iushr C dJ6_bitCount_0f7a4_3 ?_
  refine az_ldcw C ck_J6_265 dJ6_bitCount_0f7a4_4 ?_
  refine az_iand C dJ6_bitCount_0f7a4_7 ?_
  refine az_isub C dJ6_bitCount_0f7a4_8 ?_
  refine az_istore_n C dJ6_bitCount_0f7a4_9 rfl (by decide) rfl ?_
  refine az_iload_n C 0 dJ6_bitCount_0f7a4_10 rfl ?_
  refine az_ldcw C ck_J6_266 dJ6_bitCount_0f7a4_11 ?_
  refine az_iand C dJ6_bitCount_0f7a4_14 ?_
  refine az_iload_n C 0 dJ6_bitCount_0f7a4_15 rfl ?_
  refine az_iconst (v := 2) C dJ6_bitCount_0f7a4_16 (by decide) ?_
  refine az_iushr C dJ6_bitCount_0f7a4_17 ?_
  refine az_ldcw C ck_J6_266 dJ6_bitCount_0f7a4_18 ?_
  refine az_iand C dJ6_bitCount_0f7a4_21 ?_
  refine az_iadd C dJ6_bitCount_0f7a4_22 ?_
  refine az_istore_n C dJ6_bitCount_0f7a4_23 rfl (by decide) rfl ?_
  refine az_iload_n C 0 dJ6_bitCount_0f7a4_24 rfl ?_
  refine az_iload_n C 0 dJ6_bitCount_0f7a4_25 rfl ?_
  refine az_iconst (v := 4) C dJ6_bitCount_0f7a4_26 (by decide) ?_
  refine az_iushr C dJ6_bitCount_0f7a4_27 ?_
  refine az_iadd C dJ6_bitCount_0f7a4_28 ?_
  refine az_ldcw C ck_J6_267 dJ6_bitCount_0f7a4_29 ?_
  refine az_iand C dJ6_bitCount_0f7a4_32 ?_
  refine az_istore_n C dJ6_bitCount_0f7a4_33 rfl (by decide) rfl ?_
  refine az_iload_n C 0 dJ6_bitCount_0f7a4_34 rfl ?_
  refine az_iload_n C 0 dJ6_bitCount_0f7a4_35 rfl ?_
  refine az_bipush (v := 8) C dJ6_bitCount_0f7a4_36 (by decide) ?_
  refine az_iushr C dJ6_bitCount_0f7a4_38 ?_
  refine az_iadd C dJ6_bitCount_0f7a4_39 ?_
  refine az_istore_n C dJ6_bitCount_0f7a4_40 rfl (by decide) rfl ?_
  refine az_iload_n C 0 dJ6_bitCount_0f7a4_41 rfl ?_
  refine az_iload_n C 0 dJ6_bitCount_0f7a4_42 rfl ?_
  refine az_bipush (v := 16) C dJ6_bitCount_0f7a4_43 (by decide) ?_
  refine az_iushr C dJ6_bitCount_0f7a4_45 ?_
  refine az_iadd C dJ6_bitCount_0f7a4_46 ?_
  refine az_istore_n C dJ6_bitCount_0f7a4_47 rfl (by decide) rfl ?_
  refine az_iload_n C 0 dJ6_bitCount_0f7a4_48 rfl ?_
  refine az_bipush (v := 63) C dJ6_bitCount_0f7a4_49 (by decide) ?_
  refine az_iand C dJ6_bitCount_0f7a4_51 ?_
  obtain rfl := Option.some.inj h
  exact az_iret C dJ6_bitCount_0f7a4_52 hp
theorem c_J6_bitCount_0f7a4 {l : Launch} {V : az_V} (hL : az_L V) (p0 : Int32) (M : az_M) {r : Int32} (h : f_J6_bitCount_0f7a4 p0 M = some r) : az_Ct l V yJ6_bitCount_0f7a4 cJ6_bitCount_0f7a4 1 (some .int) 1 [.int p0] M (fun v M' => v = some (.int r) ∧ M' = M) :=
  az_Ct.of (by decide) (Nat.le_of_ble_eq_true rfl) (fun Y _ _ C => s_J6_bitCount_0f7a4_e C p0 M r h ⟨rfl, rfl⟩)
set_option maxHeartbeats 4000000 in
set_option maxRecDepth 100000 in
theorem s_X4_found_e {Y : az_Y} {V : az_V} {post : Option Value → az_M → Prop} (C : az_C Y V cX4_found 1 RX4 none 1) (o : Nat) (ho : az_pv V o)  (M : az_M) (r : az_M) (h : f_X4_found o M = some r) (hp : post none r) : AW Y V (az_end Y V post) 1 M 0 [(0, .ref (az_ad V o))] [] := by
  unfold f_X4_found at h
  refine az_aload_n C 0 dX4_found_0 rfl ?_
  refine az_getr (r := (o + 1)) C ho.1 fl_X4_9 rfl rfl dX4_found_1 ?_
  refine az_iconst (v := 0) C dX4_found_4 (by decide) ?_
  refine az_bipush (v := 100) C dX4_found_5 (by decide) ?_
  refine az_ist (k := 0) C ho.2 (az_vin (by decide)) (by decide) dX4_found_7 ?_
  refine az_aload_n C 0 dX4_found_8 rfl ?_
  refine az_getr (r := (o + 1)) C ho.1 fl_X4_9 rfl rfl dX4_found_9 ?_
  refine az_bipush (v := 17) C dX4_found_12 (by decide) ?_
  refine az_iconst (v := 2) C dX4_found_14 (by decide) ?_
  refine az_ist (k := 17) C ho.2 (az_vin (by decide)) (by decide) dX4_found_15 ?_
  refine az_aload_n C 0 dX4_found_16 rfl ?_
  refine az_getr (r := (o + 1)) C ho.1 fl_X4_9 rfl rfl dX4_found_17 ?_
  refine az_bipush (v := 18) C dX4_found_20 (by decide) ?_
  refine az_bipush (v := 20) C dX4_found_22 (by decide) ?_
  refine az_ist (k := 18) C ho.2 (az_vin (by decide)) (by decide) dX4_found_24 ?_
  refine az_aload_n C 0 dX4_found_25 rfl ?_
  refine az_getr (r := (o + 1)) C ho.1 fl_X4_9 rfl rfl dX4_found_26 ?_
  refine az_bipush (v := 19) C dX4_found_29 (by decide) ?_
  refine az_iconst (v := 1) C dX4_found_31 (by decide) ?_
  refine az_ist (k := 19) C ho.2 (az_vin (by decide)) (by decide) dX4_found_32 ?_
  obtain rfl := Option.some.inj h
  exact az_vret C rfl dX4_found_33 hp
theorem c_X4_found {l : Launch} {V : az_V} (hL : az_L V) (o : Nat) (ho : az_pv V o)  (M : az_M) {r : az_M} (h : f_X4_found o M = some r) : az_Ct l V yX4_found cX4_found 1 none 1 [.ref (az_ad V o)] M (fun v M' => v = none ∧ M' = r) :=
  az_Ct.of (by decide) (Nat.le_of_ble_eq_true rfl) (fun Y _ _ C => s_X4_found_e C o ho M r h ⟨rfl, rfl⟩)
set_option maxHeartbeats 4000000 in
set_option maxRecDepth 100000 in
theorem s_X4_copy_e {Y : az_Y} {V : az_V} {post : Option Value → az_M → Prop} (C : az_C Y V cX4_copy 2 RX4 none 2) (o : Nat) (ho : az_pv V o) (a0 : Nat) (ha0 : az_pv V a0)  (M : az_M) (r : az_M) (h : f_X4_copy o a0 M = some r) (hp : post none r) : AW Y V (az_end Y V post) 2 M 0 [(0, .ref (az_ad V o)), (1, .ref (az_ad V a0))] [] := by
  unfold f_X4_copy at h
  refine az_aload_n C 1 dX4_copy_0 rfl ?_
  refine az_getr (r := (a0 + 1)) C ha0.1 fl_X4_9 rfl rfl dX4_copy_1 ?_
  refine az_iconst (v := 0) C dX4_copy_4 (by decide) ?_
  refine az_aload_n C 0 dX4_copy_5 rfl ?_
  refine az_getr (r := (o + 1)) C ho.1 fl_X4_9 rfl rfl dX4_copy_6 ?_
  refine az_iconst (v := 0) C dX4_copy_9 (by decide) ?_
  refine az_sipush (v := 145) C dX4_copy_10 (by decide) ?_
  refine az_copy (i := 0) (j := 0) (k := 145) C (by decide) la_X4_15 ha0.2 ho.2 (by decide) (by decide) (by decide) (by decide) (by decide) (by decide) (by decide) (by decide) (Nat.le_of_ble_eq_true rfl) dX4_copy_13 ?_
  obtain rfl := Option.some.inj h
  exact az_vret C rfl dX4_copy_16 hp
theorem c_X4_copy {l : Launch} {V : az_V} (hL : az_L V) (o : Nat) (ho : az_pv V o) (a0 : Nat) (ha0 : az_pv V a0)  (M : az_M) {r : az_M} (h : f_X4_copy o a0 M = some r) : az_Ct l V yX4_copy cX4_copy 2 none 2 [.ref (az_ad V o), .ref (az_ad V a0)] M (fun v M' => v = none ∧ M' = r) :=
  az_Ct.of (by decide) (Nat.le_of_ble_eq_true rfl) (fun Y _ _ C => s_X4_copy_e C o ho a0 ha0 M r h ⟨rfl, rfl⟩)
set_option maxHeartbeats 4000000 in
set_option maxRecDepth 100000 in
theorem s_X4_hasPlace_20 {Y : az_Y} {V : az_V} {post : Option Value → az_M → Prop} (C : az_C Y V cX4_hasPlace 2 RX4 (some .boolean) 1) (o : Nat) (ho : az_pv V o) (s0 : Int32) (M : az_M) (r : Int32) (h : f_X4_hasPlace_20 o s0 M = some r) (hp : post (some (.int r)) M) : AW Y V (az_end Y V post) 2 M 20 [] [.int s0] := by
  unfold f_X4_hasPlace_20 at h
  obtain ⟨g3, h⟩ := az_g2 h
  obtain rfl := Option.some.inj h
  exact az_zret C dX4_hasPlace_20 (az_nz g3) hp
set_option maxHeartbeats 4000000 in
set_option maxRecDepth 100000 in
theorem s_X4_hasPlace_19 {Y : az_Y} {V : az_V} {post : Option Value → az_M → Prop} (C : az_C Y V cX4_hasPlace 2 RX4 (some .boolean) 1) (o : Nat) (ho : az_pv V o)  (M : az_M) (r : Int32) (h : f_X4_hasPlace_19 o M = some r) (hp : post (some (.int r)) M) : AW Y V (az_end Y V post) 2 M 19 [] [] := by
  unfold f_X4_hasPlace_19 at h
  refine az_iconst (v := 0) C dX4_hasPlace_19 (by decide) ?_
  exact s_X4_hasPlace_20 C o ho 0 M r h hp
set_option maxHeartbeats 4000000 in
set_option maxRecDepth 100000 in
theorem s_X4_hasPlace_e {Y : az_Y} {V : az_V} {post : Option Value → az_M → Prop} (C : az_C Y V cX4_hasPlace 2 RX4 (some .boolean) 1) (o : Nat) (ho : az_pv V o) (p0 : Int32) (M : az_M) (r : Int32) (h : f_X4_hasPlace o p0 M = some r) (hp : post (some (.int r)) M) : AW Y V (az_end Y V post) 2 M 0 [(0, .ref (az_ad V o)), (1, .int p0)] [] := by
  unfold f_X4_hasPlace at h
  refine az_iload_n C 1 dX4_hasPlace_0 rfl ?_
  refine az_if_lt C 19 dX4_hasPlace_1 (by decide) (fun c1 => ?_) (fun c1 => ?_)
  · have h := az_t c1 h
    refine az_sub [] rfl ?_
    exact s_X4_hasPlace_19 C o ho M r h hp
  · have h := az_f c1 h
    refine az_iload_n C 1 dX4_hasPlace_4 rfl ?_
    refine az_aload_n C 0 dX4_hasPlace_5 rfl ?_
    refine az_getr (r := (o + 1)) C ho.1 fl_X4_9 rfl rfl dX4_hasPlace_6 ?_
    refine az_bipush (v := 23) C dX4_hasPlace_9 (by decide) ?_
    refine az_ild (k := 23) C ho.2 (az_vin (by decide)) (by decide) dX4_hasPlace_11 ?_
    refine az_icmp_ge C 19 dX4_hasPlace_12 (by decide) (fun c2 => ?_) (fun c2 => ?_)
    · have h := az_t c2 h
      refine az_sub [] rfl ?_
      exact s_X4_hasPlace_19 C o ho M r h hp
    · have h := az_f c2 h
      refine az_iconst (v := 1) C dX4_hasPlace_15 (by decide) ?_
      refine az_goto C 20 dX4_hasPlace_16 (by decide) ?_
      refine az_sub [] rfl ?_
      exact s_X4_hasPlace_20 C o ho 1 M r h hp
theorem c_X4_hasPlace {l : Launch} {V : az_V} (hL : az_L V) (o : Nat) (ho : az_pv V o) (p0 : Int32) (M : az_M) {r : Int32} (h : f_X4_hasPlace o p0 M = some r) : az_Ct l V yX4_hasPlace cX4_hasPlace 2 (some .boolean) 1 [.ref (az_ad V o), .int p0] M (fun v M' => v = some (.int r) ∧ M' = M) :=
  az_Ct.of (by decide) (Nat.le_of_ble_eq_true rfl) (fun Y _ _ C => s_X4_hasPlace_e C o ho p0 M r h ⟨rfl, rfl⟩)
set_option maxHeartbeats 4000000 in
set_option maxRecDepth 100000 in
theorem s_X4_hasPerson_20 {Y : az_Y} {V : az_V} {post : Option Value → az_M → Prop} (C : az_C Y V cX4_hasPerson 2 RX4 (some .boolean) 1) (o : Nat) (ho : az_pv V o) (s0 : Int32) (M : az_M) (r : Int32) (h : f_X4_hasPerson_20 o s0 M = some r) (hp : post (some (.int r)) M) : AW Y V (az_end Y V post) 2 M 20 [] [.int s0] := by
  unfold f_X4_hasPerson_20 at h
  obtain ⟨g3, h⟩ := az_g2 h
  obtain rfl := Option.some.inj h
  exact az_zret C dX4_hasPerson_20 (az_nz g3) hp
set_option maxHeartbeats 4000000 in
set_option maxRecDepth 100000 in
theorem s_X4_hasPerson_19 {Y : az_Y} {V : az_V} {post : Option Value → az_M → Prop} (C : az_C Y V cX4_hasPerson 2 RX4 (some .boolean) 1) (o : Nat) (ho : az_pv V o)  (M : az_M) (r : Int32) (h : f_X4_hasPerson_19 o M = some r) (hp : post (some (.int r)) M) : AW Y V (az_end Y V post) 2 M 19 [] [] := by
  unfold f_X4_hasPerson_19 at h
  refine az_iconst (v := 0) C dX4_hasPerson_19 (by decide) ?_
  exact s_X4_hasPerson_20 C o ho 0 M r h hp
set_option maxHeartbeats 4000000 in
set_option maxRecDepth 100000 in
theorem s_X4_hasPerson_e {Y : az_Y} {V : az_V} {post : Option Value → az_M → Prop} (C : az_C Y V cX4_hasPerson 2 RX4 (some .boolean) 1) (o : Nat) (ho : az_pv V o) (p0 : Int32) (M : az_M) (r : Int32) (h : f_X4_hasPerson o p0 M = some r) (hp : post (some (.int r)) M) : AW Y V (az_end Y V post) 2 M 0 [(0, .ref (az_ad V o)), (1, .int p0)] [] := by
  unfold f_X4_hasPerson at h
  refine az_iload_n C 1 dX4_hasPerson_0 rfl ?_
  refine az_if_lt C 19 dX4_hasPerson_1 (by decide) (fun c1 => ?_) (fun c1 => ?_)
  · have h := az_t c1 h
    refine az_sub [] rfl ?_
    exact s_X4_hasPerson_19 C o ho M r h hp
  · have h := az_f c1 h
    refine az_iload_n C 1 dX4_hasPerson_4 rfl ?_
    refine az_aload_n C 0 dX4_hasPerson_5 rfl ?_
    refine az_getr (r := (o + 1)) C ho.1 fl_X4_9 rfl rfl dX4_hasPerson_6 ?_
    refine az_bipush (v := 24) C dX4_hasPerson_9 (by decide) ?_
    refine az_ild (k := 24) C ho.2 (az_vin (by decide)) (by decide) dX4_hasPerson_11 ?_
    refine az_icmp_ge C 19 dX4_hasPerson_12 (by decide) (fun c2 => ?_) (fun c2 => ?_)
    · have h := az_t c2 h
      refine az_sub [] rfl ?_
      exact s_X4_hasPerson_19 C o ho M r h hp
    · have h := az_f c2 h
      refine az_iconst (v := 1) C dX4_hasPerson_15 (by decide) ?_
      refine az_goto C 20 dX4_hasPerson_16 (by decide) ?_
      refine az_sub [] rfl ?_
      exact s_X4_hasPerson_20 C o ho 1 M r h hp
theorem c_X4_hasPerson {l : Launch} {V : az_V} (hL : az_L V) (o : Nat) (ho : az_pv V o) (p0 : Int32) (M : az_M) {r : Int32} (h : f_X4_hasPerson o p0 M = some r) : az_Ct l V yX4_hasPerson cX4_hasPerson 2 (some .boolean) 1 [.ref (az_ad V o), .int p0] M (fun v M' => v = some (.int r) ∧ M' = M) :=
  az_Ct.of (by decide) (Nat.le_of_ble_eq_true rfl) (fun Y _ _ C => s_X4_hasPerson_e C o ho p0 M r h ⟨rfl, rfl⟩)
set_option maxHeartbeats 4000000 in
set_option maxRecDepth 100000 in
theorem s_X4_hasQuarrel_20 {Y : az_Y} {V : az_V} {post : Option Value → az_M → Prop} (C : az_C Y V cX4_hasQuarrel 2 RX4 (some .boolean) 1) (o : Nat) (ho : az_pv V o) (s0 : Int32) (M : az_M) (r : Int32) (h : f_X4_hasQuarrel_20 o s0 M = some r) (hp : post (some (.int r)) M) : AW Y V (az_end Y V post) 2 M 20 [] [.int s0] := by
  unfold f_X4_hasQuarrel_20 at h
  obtain ⟨g3, h⟩ := az_g2 h
  obtain rfl := Option.some.inj h
  exact az_zret C dX4_hasQuarrel_20 (az_nz g3) hp
set_option maxHeartbeats 4000000 in
set_option maxRecDepth 100000 in
theorem s_X4_hasQuarrel_19 {Y : az_Y} {V : az_V} {post : Option Value → az_M → Prop} (C : az_C Y V cX4_hasQuarrel 2 RX4 (some .boolean) 1) (o : Nat) (ho : az_pv V o)  (M : az_M) (r : Int32) (h : f_X4_hasQuarrel_19 o M = some r) (hp : post (some (.int r)) M) : AW Y V (az_end Y V post) 2 M 19 [] [] := by
  unfold f_X4_hasQuarrel_19 at h
  refine az_iconst (v := 0) C dX4_hasQuarrel_19 (by decide) ?_
  exact s_X4_hasQuarrel_20 C o ho 0 M r h hp
set_option maxHeartbeats 4000000 in
set_option maxRecDepth 100000 in
theorem s_X4_hasQuarrel_e {Y : az_Y} {V : az_V} {post : Option Value → az_M → Prop} (C : az_C Y V cX4_hasQuarrel 2 RX4 (some .boolean) 1) (o : Nat) (ho : az_pv V o) (p0 : Int32) (M : az_M) (r : Int32) (h : f_X4_hasQuarrel o p0 M = some r) (hp : post (some (.int r)) M) : AW Y V (az_end Y V post) 2 M 0 [(0, .ref (az_ad V o)), (1, .int p0)] [] := by
  unfold f_X4_hasQuarrel at h
  refine az_iload_n C 1 dX4_hasQuarrel_0 rfl ?_
  refine az_if_lt C 19 dX4_hasQuarrel_1 (by decide) (fun c1 => ?_) (fun c1 => ?_)
  · have h := az_t c1 h
    refine az_sub [] rfl ?_
    exact s_X4_hasQuarrel_19 C o ho M r h hp
  · have h := az_f c1 h
    refine az_iload_n C 1 dX4_hasQuarrel_4 rfl ?_
    refine az_aload_n C 0 dX4_hasQuarrel_5 rfl ?_
    refine az_getr (r := (o + 1)) C ho.1 fl_X4_9 rfl rfl dX4_hasQuarrel_6 ?_
    refine az_bipush (v := 25) C dX4_hasQuarrel_9 (by decide) ?_
    refine az_ild (k := 25) C ho.2 (az_vin (by decide)) (by decide) dX4_hasQuarrel_11 ?_
    refine az_icmp_ge C 19 dX4_hasQuarrel_12 (by decide) (fun c2 => ?_) (fun c2 => ?_)
    · have h := az_t c2 h
      refine az_sub [] rfl ?_
      exact s_X4_hasQuarrel_19 C o ho M r h hp
    · have h := az_f c2 h
      refine az_iconst (v := 1) C dX4_hasQuarrel_15 (by decide) ?_
      refine az_goto C 20 dX4_hasQuarrel_16 (by decide) ?_
      refine az_sub [] rfl ?_
      exact s_X4_hasQuarrel_20 C o ho 1 M r h hp
theorem c_X4_hasQuarrel {l : Launch} {V : az_V} (hL : az_L V) (o : Nat) (ho : az_pv V o) (p0 : Int32) (M : az_M) {r : Int32} (h : f_X4_hasQuarrel o p0 M = some r) : az_Ct l V yX4_hasQuarrel cX4_hasQuarrel 2 (some .boolean) 1 [.ref (az_ad V o), .int p0] M (fun v M' => v = some (.int r) ∧ M' = M) :=
  az_Ct.of (by decide) (Nat.le_of_ble_eq_true rfl) (fun Y _ _ C => s_X4_hasQuarrel_e C o ho p0 M r h ⟨rfl, rfl⟩)
set_option maxHeartbeats 4000000 in
set_option maxRecDepth 100000 in
theorem s_X4_canBeFired_30 {Y : az_Y} {V : az_V} {post : Option Value → az_M → Prop} (C : az_C Y V cX4_canBeFired 1 RX4 (some .boolean) 1) (o : Nat) (ho : az_pv V o) (s0 : Int32) (M : az_M) (r : Int32) (h : f_X4_canBeFired_30 o s0 M = some r) (hp : post (some (.int r)) M) : AW Y V (az_end Y V post) 1 M 30 [] [.int s0] := by
  unfold f_X4_canBeFired_30 at h
  obtain ⟨g3, h⟩ := az_g2 h
  obtain rfl := Option.some.inj h
  exact az_zret C dX4_canBeFired_30 (az_nz g3) hp
set_option maxHeartbeats 4000000 in
set_option maxRecDepth 100000 in
theorem s_X4_canBeFired_29 {Y : az_Y} {V : az_V} {post : Option Value → az_M → Prop} (C : az_C Y V cX4_canBeFired 1 RX4 (some .boolean) 1) (o : Nat) (ho : az_pv V o)  (M : az_M) (r : Int32) (h : f_X4_canBeFired_29 o M = some r) (hp : post (some (.int r)) M) : AW Y V (az_end Y V post) 1 M 29 [] [] := by
  unfold f_X4_canBeFired_29 at h
  refine az_iconst (v := 0) C dX4_canBeFired_29 (by decide) ?_
  exact s_X4_canBeFired_30 C o ho 0 M r h hp
set_option maxHeartbeats 4000000 in
set_option maxRecDepth 100000 in
theorem s_X4_canBeFired_e {Y : az_Y} {V : az_V} {post : Option Value → az_M → Prop} (C : az_C Y V cX4_canBeFired 1 RX4 (some .boolean) 1) (o : Nat) (ho : az_pv V o)  (M : az_M) (r : Int32) (h : f_X4_canBeFired o M = some r) (hp : post (some (.int r)) M) : AW Y V (az_end Y V post) 1 M 0 [(0, .ref (az_ad V o))] [] := by
  unfold f_X4_canBeFired at h
  refine az_aload_n C 0 dX4_canBeFired_0 rfl ?_
  refine az_getr (r := (o + 1)) C ho.1 fl_X4_9 rfl rfl dX4_canBeFired_1 ?_
  refine az_iconst (v := 3) C dX4_canBeFired_4 (by decide) ?_
  refine az_ild (k := 3) C ho.2 (az_vin (by decide)) (by decide) dX4_canBeFired_5 ?_
  refine az_if_ne C 29 dX4_canBeFired_6 (by decide) (fun c1 => ?_) (fun c1 => ?_)
  · have h := az_f c1 h
    refine az_sub [] rfl ?_
    exact s_X4_canBeFired_29 C o ho M r h hp
  · have h := az_t c1 h
    refine az_aload_n C 0 dX4_canBeFired_9 rfl ?_
    refine az_getr (r := (o + 1)) C ho.1 fl_X4_9 rfl rfl dX4_canBeFired_10 ?_
    refine az_iconst (v := 0) C dX4_canBeFired_13 (by decide) ?_
    refine az_ild (k := 0) C ho.2 (az_vin (by decide)) (by decide) dX4_canBeFired_14 ?_
    refine az_aload_n C 0 dX4_canBeFired_15 rfl ?_
    refine az_getr (r := (o + 1)) C ho.1 fl_X4_9 rfl rfl dX4_canBeFired_16 ?_
    refine az_bipush (v := 18) C dX4_canBeFired_19 (by decide) ?_
    refine az_ild (k := 18) C ho.2 (az_vin (by decide)) (by decide) dX4_canBeFired_21 ?_
    refine az_icmp_lt C 29 dX4_canBeFired_22 (by decide) (fun c2 => ?_) (fun c2 => ?_)
    · have h := az_t c2 h
      refine az_sub [] rfl ?_
      exact s_X4_canBeFired_29 C o ho M r h hp
    · have h := az_f c2 h
      refine az_iconst (v := 1) C dX4_canBeFired_25 (by decide) ?_
      refine az_goto C 30 dX4_canBeFired_26 (by decide) ?_
      refine az_sub [] rfl ?_
      exact s_X4_canBeFired_30 C o ho 1 M r h hp
theorem c_X4_canBeFired {l : Launch} {V : az_V} (hL : az_L V) (o : Nat) (ho : az_pv V o)  (M : az_M) {r : Int32} (h : f_X4_canBeFired o M = some r) : az_Ct l V yX4_canBeFired cX4_canBeFired 1 (some .boolean) 1 [.ref (az_ad V o)] M (fun v M' => v = some (.int r) ∧ M' = M) :=
  az_Ct.of (by decide) (Nat.le_of_ble_eq_true rfl) (fun Y _ _ C => s_X4_canBeFired_e C o ho M r h ⟨rfl, rfl⟩)
set_option maxHeartbeats 4000000 in
set_option maxRecDepth 100000 in
theorem s_X4_isHurt_24 {Y : az_Y} {V : az_V} {post : Option Value → az_M → Prop} (C : az_C Y V cX4_isHurt 2 RX4 (some .boolean) 1) (o : Nat) (ho : az_pv V o) (s0 : Int32) (M : az_M) (r : Int32) (h : f_X4_isHurt_24 o s0 M = some r) (hp : post (some (.int r)) M) : AW Y V (az_end Y V post) 2 M 24 [] [.int s0] := by
  unfold f_X4_isHurt_24 at h
  obtain ⟨g3, h⟩ := az_g2 h
  obtain rfl := Option.some.inj h
  exact az_zret C dX4_isHurt_24 (az_nz g3) hp
set_option maxHeartbeats 4000000 in
set_option maxRecDepth 100000 in
theorem s_X4_isHurt_e {Y : az_Y} {V : az_V} {post : Option Value → az_M → Prop} (C : az_C Y V cX4_isHurt 2 RX4 (some .boolean) 1) (o : Nat) (ho : az_pv V o) (p0 : Int32) (M : az_M) (r : Int32) (h : f_X4_isHurt o p0 M = some r) (hp : post (some (.int r)) M) : AW Y V (az_end Y V post) 2 M 0 [(0, .ref (az_ad V o)), (1, .int p0)] [] := by
  unfold f_X4_isHurt at h
  refine az_aload_n C 0 dX4_isHurt_0 rfl ?_
  refine az_getr (r := (o + 1)) C ho.1 fl_X4_9 rfl rfl dX4_isHurt_1 ?_
  refine az_bipush (v := 16) C dX4_isHurt_4 (by decide) ?_
  refine az_ild (k := 16) C ho.2 (az_vin (by decide)) (by decide) dX4_isHurt_6 ?_
  refine az_aload_n C 0 dX4_isHurt_7 rfl ?_
  refine az_getr (r := (o + 1)) C ho.1 fl_X4_9 rfl rfl dX4_isHurt_8 ?_
  refine az_bipush (v := 83) C dX4_isHurt_11 (by decide) ?_
  refine az_iload_n C 1 dX4_isHurt_13 rfl ?_
  refine az_iadd C dX4_isHurt_14 ?_
  obtain ⟨g1, h⟩ := az_g h
  refine az_ild (k := (83 + p0).toNatClampNeg) C ho.2 g1 rfl dX4_isHurt_15 ?_
  refine az_icmp_ge C 23 dX4_isHurt_16 (by decide) (fun c2 => ?_) (fun c2 => ?_)
  · have h := az_t c2 h
    refine az_iconst (v := 0) C dX4_isHurt_23 (by decide) ?_
    refine az_sub [] rfl ?_
    exact s_X4_isHurt_24 C o ho 0 M r h hp
  · have h := az_f c2 h
    refine az_iconst (v := 1) C dX4_isHurt_19 (by decide) ?_
    refine az_goto C 24 dX4_isHurt_20 (by decide) ?_
    refine az_sub [] rfl ?_
    exact s_X4_isHurt_24 C o ho 1 M r h hp
theorem c_X4_isHurt {l : Launch} {V : az_V} (hL : az_L V) (o : Nat) (ho : az_pv V o) (p0 : Int32) (M : az_M) {r : Int32} (h : f_X4_isHurt o p0 M = some r) : az_Ct l V yX4_isHurt cX4_isHurt 2 (some .boolean) 1 [.ref (az_ad V o), .int p0] M (fun v M' => v = some (.int r) ∧ M' = M) :=
  az_Ct.of (by decide) (Nat.le_of_ble_eq_true rfl) (fun Y _ _ C => s_X4_isHurt_e C o ho p0 M r h ⟨rfl, rfl⟩)
set_option maxHeartbeats 4000000 in
set_option maxRecDepth 100000 in
theorem s_X4_shotAt_28 {Y : az_Y} {V : az_V} {post : Option Value → az_M → Prop} (C : az_C Y V cX4_shotAt 2 RX4 (some .int) 1) (o : Nat) (ho : az_pv V o) (s0 : Int32) (M : az_M) (r : Int32) (h : f_X4_shotAt_28 o s0 M = some r) (hp : post (some (.int r)) M) : AW Y V (az_end Y V post) 2 M 28 [] [.int s0] := by
  unfold f_X4_shotAt_28 at h
  obtain rfl := Option.some.inj h
  exact az_iret C dX4_shotAt_28 hp
set_option maxHeartbeats 4000000 in
set_option maxRecDepth 100000 in
theorem s_X4_shotAt_27 {Y : az_Y} {V : az_V} {post : Option Value → az_M → Prop} (C : az_C Y V cX4_shotAt 2 RX4 (some .int) 1) (o : Nat) (ho : az_pv V o)  (M : az_M) (r : Int32) (h : f_X4_shotAt_27 o M = some r) (hp : post (some (.int r)) M) : AW Y V (az_end Y V post) 2 M 27 [] [] := by
  unfold f_X4_shotAt_27 at h
  refine az_iconst (v := (-1)) C dX4_shotAt_27 (by decide) ?_
  exact s_X4_shotAt_28 C o ho (-1) M r h hp
set_option maxHeartbeats 4000000 in
set_option maxRecDepth 100000 in
theorem s_X4_shotAt_e {Y : az_Y} {V : az_V} {post : Option Value → az_M → Prop} (C : az_C Y V cX4_shotAt 2 RX4 (some .int) 1) (o : Nat) (ho : az_pv V o) (p0 : Int32) (M : az_M) (r : Int32) (h : f_X4_shotAt o p0 M = some r) (hp : post (some (.int r)) M) : AW Y V (az_end Y V post) 2 M 0 [(0, .ref (az_ad V o)), (1, .int p0)] [] := by
  unfold f_X4_shotAt at h
  refine az_iload_n C 1 dX4_shotAt_0 rfl ?_
  refine az_if_lt C 27 dX4_shotAt_1 (by decide) (fun c1 => ?_) (fun c1 => ?_)
  · have h := az_t c1 h
    refine az_sub [] rfl ?_
    exact s_X4_shotAt_27 C o ho M r h hp
  · have h := az_f c1 h
    refine az_iload_n C 1 dX4_shotAt_4 rfl ?_
    refine az_aload_n C 0 dX4_shotAt_5 rfl ?_
    refine az_getr (r := (o + 1)) C ho.1 fl_X4_9 rfl rfl dX4_shotAt_6 ?_
    refine az_bipush (v := 26) C dX4_shotAt_9 (by decide) ?_
    refine az_ild (k := 26) C ho.2 (az_vin (by decide)) (by decide) dX4_shotAt_11 ?_
    refine az_icmp_ge C 27 dX4_shotAt_12 (by decide) (fun c2 => ?_) (fun c2 => ?_)
    · have h := az_t c2 h
      refine az_sub [] rfl ?_
      exact s_X4_shotAt_27 C o ho M r h hp
    · have h := az_f c2 h
      refine az_aload_n C 0 dX4_shotAt_15 rfl ?_
      refine az_getr (r := (o + 1)) C ho.1 fl_X4_9 rfl rfl dX4_shotAt_16 ?_
      refine az_bipush (v := 121) C dX4_shotAt_19 (by decide) ?_
      refine az_iload_n C 1 dX4_shotAt_21 rfl ?_
      refine az_iadd C dX4_shotAt_22 ?_
      obtain ⟨g3, h⟩ := az_g h
      refine az_ild (k := (121 + p0).toNatClampNeg) C ho.2 g3 rfl dX4_shotAt_23 ?_
      refine az_goto C 28 dX4_shotAt_24 (by decide) ?_
      refine az_sub [] rfl ?_
      exact s_X4_shotAt_28 C o ho (M.1 (o + 1) ((121 + p0).toNatClampNeg)) M r h hp
theorem c_X4_shotAt {l : Launch} {V : az_V} (hL : az_L V) (o : Nat) (ho : az_pv V o) (p0 : Int32) (M : az_M) {r : Int32} (h : f_X4_shotAt o p0 M = some r) : az_Ct l V yX4_shotAt cX4_shotAt 2 (some .int) 1 [.ref (az_ad V o), .int p0] M (fun v M' => v = some (.int r) ∧ M' = M) :=
  az_Ct.of (by decide) (Nat.le_of_ble_eq_true rfl) (fun Y _ _ C => s_X4_shotAt_e C o ho p0 M r h ⟨rfl, rfl⟩)
set_option maxHeartbeats 4000000 in
set_option maxRecDepth 100000 in
theorem s_X4_addPlace_e {Y : az_Y} {V : az_V} {post : Option Value → az_M → Prop} (C : az_C Y V cX4_addPlace 5 RX4 (some .int) 1) (o : Nat) (ho : az_pv V o) (p0 : Int32) (p1 : Int32) (p2 : Int32) (M : az_M) (r : (Int32 × az_M)) (h : f_X4_addPlace o p0 p1 p2 M = some r) (hp : post (some (.int r.1)) r.2) : AW Y V (az_end Y V post) 5 M 0 [(0, .ref (az_ad V o)), (1, .int p0), (2, .int p1), (3, .int p2)] [] := by
  unfold f_X4_addPlace at h
  refine az_aload_n C 0 dX4_addPlace_0 rfl ?_
  refine az_getr (r := (o + 1)) C ho.1 fl_X4_9 rfl rfl dX4_addPlace_1 ?_
  refine az_bipush (v := 23) C dX4_addPlace_4 (by decide) ?_
  refine az_ild (k := 23) C ho.2 (az_vin (by decide)) (by decide) dX4_addPlace_6 ?_
  refine az_istore C dX4_addPlace_7 (by decide) rfl ?_
  refine az_aload_n C 1 dX4_addPlace_9 rfl ?_
  refine az_getr (r := (o + 1)) C ho.1 fl_X4_9 rfl rfl dX4_addPlace_10 ?_
  refine az_bipush (v := 27) C dX4_addPlace_13 (by decide) ?_
  refine az_iload C 0 dX4_addPlace_15 rfl ?_
  refine az_iadd C dX4_addPlace_17 ?_
  refine az_iload_n C 2 dX4_addPlace_18 rfl ?_
  obtain ⟨g1, h⟩ := az_g h
  refine az_ist (k := (27 + (M.1 (o + 1) 23)).toNatClampNeg) C ho.2 g1 rfl dX4_addPlace_19 ?_
  refine az_aload_n C 1 dX4_addPlace_20 rfl ?_
  refine az_getr (r := (o + 1)) C ho.1 fl_X4_9 rfl rfl dX4_addPlace_21 ?_
  refine az_bipush (v := 39) C dX4_addPlace_24 (by decide) ?_
  refine az_iload C 0 dX4_addPlace_26 rfl ?_
  refine az_iadd C dX4_addPlace_28 ?_
  refine az_iload_n C 3 dX4_addPlace_29 rfl ?_
  obtain ⟨g2, h⟩ := az_g h
  refine az_ist (k := (39 + (M.1 (o + 1) 23)).toNatClampNeg) C ho.2 g2 rfl dX4_addPlace_30 ?_
  refine az_aload_n C 1 dX4_addPlace_31 rfl ?_
  refine az_getr (r := (o + 1)) C ho.1 fl_X4_9 rfl rfl dX4_addPlace_32 ?_
  refine az_bipush (v := 51) C dX4_addPlace_35 (by decide) ?_
  refine az_iload C 0 dX4_addPlace_37 rfl ?_
  refine az_iadd C dX4_addPlace_39 ?_
  refine az_iload_n C 4 dX4_addPlace_40 rfl ?_
  obtain ⟨g3, h⟩ := az_g h
  refine az_ist (k := (51 + (M.1 (o + 1) 23)).toNatClampNeg) C ho.2 g3 rfl dX4_addPlace_41 ?_
  refine az_aload_n C 1 dX4_addPlace_42 rfl ?_
  refine az_getr (r := (o + 1)) C ho.1 fl_X4_9 rfl rfl dX4_addPlace_43 ?_
  refine az_iconst (v := 4) C dX4_addPlace_46 (by decide) ?_
  refine az_iload C 0 dX4_addPlace_47 rfl ?_
  refine az_iadd C dX4_addPlace_49 ?_
  refine az_iconst (v := 0) C dX4_addPlace_50 (by decide) ?_
  obtain ⟨g4, h⟩ := az_g h
  refine az_ist (k := (4 + (M.1 (o + 1) 23)).toNatClampNeg) C ho.2 g4 rfl dX4_addPlace_51 ?_
  refine az_aload_n C 1 dX4_addPlace_52 rfl ?_
  refine az_getr (r := (o + 1)) C ho.1 fl_X4_9 rfl rfl dX4_addPlace_53 ?_
  refine az_bipush (v := 23) C dX4_addPlace_56 (by decide) ?_
  refine az_iload C 0 dX4_addPlace_58 rfl ?_
  refine az_iconst (v := 1) C dX4_addPlace_60 (by decide) ?_
  refine az_iadd C dX4_addPlace_61 ?_
  refine az_ist (k := 23) C ho.2 (az_vin (by decide)) (by decide) dX4_addPlace_62 ?_
  refine az_iload C 0 dX4_addPlace_63 rfl ?_
  obtain rfl := Option.some.inj h
  exact az_iret C dX4_addPlace_65 hp
theorem c_X4_addPlace {l : Launch} {V : az_V} (hL : az_L V) (o : Nat) (ho : az_pv V o) (p0 : Int32) (p1 : Int32) (p2 : Int32) (M : az_M) {r : (Int32 × az_M)} (h : f_X4_addPlace o p0 p1 p2 M = some r) : az_Ct l V yX4_addPlace cX4_addPlace 5 (some .int) 1 [.ref (az_ad V o), .int p0, .int p1, .int p2] M (fun v M' => v = some (.int r.1) ∧ M' = r.2) :=
  az_Ct.of (by decide) (Nat.le_of_ble_eq_true rfl) (fun Y _ _ C => s_X4_addPlace_e C o ho p0 p1 p2 M r h ⟨rfl, rfl⟩)
set_option maxHeartbeats 4000000 in
set_option maxRecDepth 100000 in
theorem s_X4_addPerson_e {Y : az_Y} {V : az_V} {post : Option Value → az_M → Prop} (C : az_C Y V cX4_addPerson 4 RX4 (some .int) 1) (o : Nat) (ho : az_pv V o) (p0 : Int32) (p1 : Int32) (M : az_M) (r : (Int32 × az_M)) (h : f_X4_addPerson o p0 p1 M = some r) (hp : post (some (.int r.1)) r.2) : AW Y V (az_end Y V post) 4 M 0 [(0, .ref (az_ad V o)), (1, .int p0), (2, .int p1)] [] := by
  unfold f_X4_addPerson at h
  refine az_aload_n C 0 dX4_addPerson_0 rfl ?_
  refine az_getr (r := (o + 1)) C ho.1 fl_X4_9 rfl rfl dX4_addPerson_1 ?_
  refine az_bipush (v := 24) C dX4_addPerson_4 (by decide) ?_
  refine az_ild (k := 24) C ho.2 (az_vin (by decide)) (by decide) dX4_addPerson_6 ?_
  refine az_istore_n C dX4_addPerson_7 rfl (by decide) rfl ?_
  refine az_aload_n C 1 dX4_addPerson_8 rfl ?_
  refine az_getr (r := (o + 1)) C ho.1 fl_X4_9 rfl rfl dX4_addPerson_9 ?_
  refine az_bipush (v := 63) C dX4_addPerson_12 (by decide) ?_
  refine az_iload_n C 0 dX4_addPerson_14 rfl ?_
  refine az_iadd C dX4_addPerson_15 ?_
  refine az_iload_n C 2 dX4_addPerson_16 rfl ?_
  obtain ⟨g1, h⟩ := az_g h
  refine az_ist (k := (63 + (M.1 (o + 1) 24)).toNatClampNeg) C ho.2 g1 rfl dX4_addPerson_17 ?_
  refine az_aload_n C 1 dX4_addPerson_18 rfl ?_
  refine az_getr (r := (o + 1)) C ho.1 fl_X4_9 rfl rfl dX4_addPerson_19 ?_
  refine az_bipush (v := 73) C dX4_addPerson_22 (by decide) ?_
  refine az_iload_n C 0 dX4_addPerson_24 rfl ?_
  refine az_iadd C dX4_addPerson_25 ?_
  refine az_iload_n C 3 dX4_addPerson_26 rfl ?_
  obtain ⟨g2, h⟩ := az_g h
  refine az_ist (k := (73 + (M.1 (o + 1) 24)).toNatClampNeg) C ho.2 g2 rfl dX4_addPerson_27 ?_
  refine az_aload_n C 1 dX4_addPerson_28 rfl ?_
  refine az_getr (r := (o + 1)) C ho.1 fl_X4_9 rfl rfl dX4_addPerson_29 ?_
  refine az_bipush (v := 83) C dX4_addPerson_32 (by decide) ?_
  refine az_iload_n C 0 dX4_addPerson_34 rfl ?_
  refine az_iadd C dX4_addPerson_35 ?_
  refine az_iconst (v := 0) C dX4_addPerson_36 (by decide) ?_
  obtain ⟨g3, h⟩ := az_g h
  refine az_ist (k := (83 + (M.1 (o + 1) 24)).toNatClampNeg) C ho.2 g3 rfl dX4_addPerson_37 ?_
  refine az_aload_n C 1 dX4_addPerson_38 rfl ?_
  refine az_getr (r := (o + 1)) C ho.1 fl_X4_9 rfl rfl dX4_addPerson_39 ?_
  refine az_bipush (v := 24) C dX4_addPerson_42 (by decide) ?_
  refine az_iload_n C 0 dX4_addPerson_44 rfl ?_
  refine az_iconst (v := 1) C dX4_addPerson_45 (by decide) ?_
  refine az_iadd C dX4_addPerson_46 ?_
  refine az_ist (k := 24) C ho.2 (az_vin (by decide)) (by decide) dX4_addPerson_47 ?_
  refine az_iload_n C 0 dX4_addPerson_48 rfl ?_
  obtain rfl := Option.some.inj h
  exact az_iret C dX4_addPerson_49 hp
theorem c_X4_addPerson {l : Launch} {V : az_V} (hL : az_L V) (o : Nat) (ho : az_pv V o) (p0 : Int32) (p1 : Int32) (M : az_M) {r : (Int32 × az_M)} (h : f_X4_addPerson o p0 p1 M = some r) : az_Ct l V yX4_addPerson cX4_addPerson 4 (some .int) 1 [.ref (az_ad V o), .int p0, .int p1] M (fun v M' => v = some (.int r.1) ∧ M' = r.2) :=
  az_Ct.of (by decide) (Nat.le_of_ble_eq_true rfl) (fun Y _ _ C => s_X4_addPerson_e C o ho p0 p1 M r h ⟨rfl, rfl⟩)
set_option maxHeartbeats 4000000 in
set_option maxRecDepth 100000 in
theorem s_X4_addQuarrel_e {Y : az_Y} {V : az_V} {post : Option Value → az_M → Prop} (C : az_C Y V cX4_addQuarrel 6 RX4 (some .int) 1) (o : Nat) (ho : az_pv V o) (p0 : Int32) (p1 : Int32) (p2 : Int32) (p3 : Int32) (M : az_M) (r : (Int32 × az_M)) (h : f_X4_addQuarrel o p0 p1 p2 p3 M = some r) (hp : post (some (.int r.1)) r.2) : AW Y V (az_end Y V post) 6 M 0 [(0, .ref (az_ad V o)), (1, .int p0), (2, .int p1), (3, .int p2), (4, .int p3)] [] := by
  unfold f_X4_addQuarrel at h
  refine az_aload_n C 0 dX4_addQuarrel_0 rfl ?_
  refine az_getr (r := (o + 1)) C ho.1 fl_X4_9 rfl rfl dX4_addQuarrel_1 ?_
  refine az_bipush (v := 25) C dX4_addQuarrel_4 (by decide) ?_
  refine az_ild (k := 25) C ho.2 (az_vin (by decide)) (by decide) dX4_addQuarrel_6 ?_
  refine az_istore C dX4_addQuarrel_7 (by decide) rfl ?_
  refine az_aload_n C 1 dX4_addQuarrel_9 rfl ?_
  refine az_getr (r := (o + 1)) C ho.1 fl_X4_9 rfl rfl dX4_addQuarrel_10 ?_
  refine az_bipush (v := 93) C dX4_addQuarrel_13 (by decide) ?_
  refine az_iload C 0 dX4_addQuarrel_15 rfl ?_
  refine az_iadd C dX4_addQuarrel_17 ?_
  refine az_iload_n C 2 dX4_addQuarrel_18 rfl ?_
  obtain ⟨g1, h⟩ := az_g h
  refine az_ist (k := (93 + (M.1 (o + 1) 25)).toNatClampNeg) C ho.2 g1 rfl dX4_addQuarrel_19 ?_
  refine az_aload_n C 1 dX4_addQuarrel_20 rfl ?_
  refine az_getr (r := (o + 1)) C ho.1 fl_X4_9 rfl rfl dX4_addQuarrel_21 ?_
  refine az_bipush (v := 100) C dX4_addQuarrel_24 (by decide) ?_
  refine az_iload C 0 dX4_addQuarrel_26 rfl ?_
  refine az_iadd C dX4_addQuarrel_28 ?_
  refine az_iload_n C 3 dX4_addQuarrel_29 rfl ?_
  obtain ⟨g2, h⟩ := az_g h
  refine az_ist (k := (100 + (M.1 (o + 1) 25)).toNatClampNeg) C ho.2 g2 rfl dX4_addQuarrel_30 ?_
  refine az_aload_n C 1 dX4_addQuarrel_31 rfl ?_
  refine az_getr (r := (o + 1)) C ho.1 fl_X4_9 rfl rfl dX4_addQuarrel_32 ?_
  refine az_bipush (v := 107) C dX4_addQuarrel_35 (by decide) ?_
  refine az_iload C 0 dX4_addQuarrel_37 rfl ?_
  refine az_iadd C dX4_addQuarrel_39 ?_
  refine az_iload_n C 4 dX4_addQuarrel_40 rfl ?_
  obtain ⟨g3, h⟩ := az_g h
  refine az_ist (k := (107 + (M.1 (o + 1) 25)).toNatClampNeg) C ho.2 g3 rfl dX4_addQuarrel_41 ?_
  refine az_aload_n C 1 dX4_addQuarrel_42 rfl ?_
  refine az_getr (r := (o + 1)) C ho.1 fl_X4_9 rfl rfl dX4_addQuarrel_43 ?_
  refine az_bipush (v := 114) C dX4_addQuarrel_46 (by decide) ?_
  refine az_iload C 0 dX4_addQuarrel_48 rfl ?_
  refine az_iadd C dX4_addQuarrel_50 ?_
  refine az_iload C 5 dX4_addQuarrel_51 rfl ?_
  obtain ⟨g4, h⟩ := az_g h
  refine az_ist (k := (114 + (M.1 (o + 1) 25)).toNatClampNeg) C ho.2 g4 rfl dX4_addQuarrel_53 ?_
  refine az_aload_n C 1 dX4_addQuarrel_54 rfl ?_
  refine az_getr (r := (o + 1)) C ho.1 fl_X4_9 rfl rfl dX4_addQuarrel_55 ?_
  refine az_bipush (v := 25) C dX4_addQuarrel_58 (by decide) ?_
  refine az_iload C 0 dX4_addQuarrel_60 rfl ?_
  refine az_iconst (v := 1) C dX4_addQuarrel_62 (by decide) ?_
  refine az_iadd C dX4_addQuarrel_63 ?_
  refine az_ist (k := 25) C ho.2 (az_vin (by decide)) (by decide) dX4_addQuarrel_64 ?_
  refine az_iload C 0 dX4_addQuarrel_65 rfl ?_
  obtain rfl := Option.some.inj h
  exact az_iret C dX4_addQuarrel_67 hp
theorem c_X4_addQuarrel {l : Launch} {V : az_V} (hL : az_L V) (o : Nat) (ho : az_pv V o) (p0 : Int32) (p1 : Int32) (p2 : Int32) (p3 : Int32) (M : az_M) {r : (Int32 × az_M)} (h : f_X4_addQuarrel o p0 p1 p2 p3 M = some r) : az_Ct l V yX4_addQuarrel cX4_addQuarrel 6 (some .int) 1 [.ref (az_ad V o), .int p0, .int p1, .int p2, .int p3] M (fun v M' => v = some (.int r.1) ∧ M' = r.2) :=
  az_Ct.of (by decide) (Nat.le_of_ble_eq_true rfl) (fun Y _ _ C => s_X4_addQuarrel_e C o ho p0 p1 p2 p3 M r h ⟨rfl, rfl⟩)
set_option maxHeartbeats 4000000 in
set_option maxRecDepth 100000 in
theorem s_X4_dropQuarrel_15 {Y : az_Y} {V : az_V} {post : Option Value → az_M → Prop} (C : az_C Y V cX4_dropQuarrel 4 RX4 none 2) (G : Nat) (o : Nat) (ho : az_pv V o) : ∀ (F : Nat) (x1 : Int32) (x2 : Int32) (x3 : Int32) (M : az_M) (r : az_M), f_X4_dropQuarrel_15 G o F x1 x2 x3 M = some r → post none r → AW Y V (az_end Y V post) 4 M 15 [(0, .ref (az_ad V o)), (1, .int x1), (2, .int x2), (3, .int x3)] [] := by
  intro F
  induction F with
  | zero =>
    intro x1 x2 x3 M r h
    exact absurd (show (none : Option az_M) = some r from h) (fun q => by cases q)
  | succ F ih =>
    intro x1 x2 x3 M r h hp
    rw [f_X4_dropQuarrel_15] at h
    refine az_iload_n C 3 dX4_dropQuarrel_15 rfl ?_
    refine az_bipush (v := 114) C dX4_dropQuarrel_16 (by decide) ?_
    refine az_icmp_gt C 47 dX4_dropQuarrel_18 (by decide) (fun c1 => ?_) (fun c1 => ?_)
    · have h := az_t c1 h
      refine az_aload_n C 0 dX4_dropQuarrel_47 rfl ?_
      refine az_getr (r := (o + 1)) C ho.1 fl_X4_9 rfl rfl dX4_dropQuarrel_48 ?_
      refine az_bipush (v := 25) C dX4_dropQuarrel_51 (by decide) ?_
      refine az_dup2 C dX4_dropQuarrel_53 rfl rfl ?_
      refine az_ild (k := 25) C ho.2 (az_vin (by decide)) (by decide) dX4_dropQuarrel_54 ?_
      refine az_iconst (v := 1) C dX4_dropQuarrel_55 (by decide) ?_
      refine az_isub C dX4_dropQuarrel_56 ?_
      refine az_ist (k := 25) C ho.2 (az_vin (by decide)) (by decide) dX4_dropQuarrel_57 ?_
      obtain rfl := Option.some.inj h
      exact az_vret C rfl dX4_dropQuarrel_58 hp
    · have h := az_f c1 h
      refine az_aload_n C 0 dX4_dropQuarrel_21 rfl ?_
      refine az_getr (r := (o + 1)) C ho.1 fl_X4_9 rfl rfl dX4_dropQuarrel_22 ?_
      refine az_iload_n C 3 dX4_dropQuarrel_25 rfl ?_
      refine az_iload_n C 1 dX4_dropQuarrel_26 rfl ?_
      refine az_iadd C dX4_dropQuarrel_27 ?_
      refine az_iconst (v := 1) C dX4_dropQuarrel_28 (by decide) ?_
      refine az_iadd C dX4_dropQuarrel_29 ?_
      refine az_aload_n C 0 dX4_dropQuarrel_30 rfl ?_
      refine az_getr (r := (o + 1)) C ho.1 fl_X4_9 rfl rfl dX4_dropQuarrel_31 ?_
      refine az_iload_n C 3 dX4_dropQuarrel_34 rfl ?_
      refine az_iload_n C 1 dX4_dropQuarrel_35 rfl ?_
      refine az_iadd C dX4_dropQuarrel_36 ?_
      refine az_iload_n C 2 dX4_dropQuarrel_37 rfl ?_
      obtain ⟨g2, h⟩ := az_g h
      obtain ⟨g3, h⟩ := az_g h
      obtain ⟨g4, h⟩ := az_g h
      obtain ⟨g5, h⟩ := az_g2 h
      obtain ⟨g6, h⟩ := az_g2 h
      refine az_copy (i := ((x3 + x1) + 1).toNatClampNeg) (j := (x3 + x1).toNatClampNeg) (k := x2.toNatClampNeg) C (by decide) la_X4_15 ho.2 ho.2 g2 g3 g4 g5 g6 rfl rfl rfl (Nat.le_of_ble_eq_true rfl) dX4_dropQuarrel_38 ?_
      refine az_iinc (v := (x3 + 7)) C 3 dX4_dropQuarrel_41 rfl rfl (by decide) rfl ?_
      refine az_goto C 15 dX4_dropQuarrel_44 (by decide) ?_
      refine az_sub [1, 2, 3, 0] rfl ?_
      exact ih x1 x2 (x3 + 7) (az_cp M (o + 1) (((x3 + x1) + 1).toNatClampNeg) (o + 1) ((x3 + x1).toNatClampNeg) x2.toNatClampNeg) r h hp
set_option maxHeartbeats 4000000 in
set_option maxRecDepth 100000 in
theorem s_X4_dropQuarrel_e {Y : az_Y} {V : az_V} {post : Option Value → az_M → Prop} (C : az_C Y V cX4_dropQuarrel 4 RX4 none 2) (G : Nat) (o : Nat) (ho : az_pv V o) (p0 : Int32) (M : az_M) (r : az_M) (h : f_X4_dropQuarrel G o p0 M = some r) (hp : post none r) : AW Y V (az_end Y V post) 4 M 0 [(0, .ref (az_ad V o)), (1, .int p0)] [] := by
  unfold f_X4_dropQuarrel at h
  refine az_aload_n C 0 dX4_dropQuarrel_0 rfl ?_
  refine az_getr (r := (o + 1)) C ho.1 fl_X4_9 rfl rfl dX4_dropQuarrel_1 ?_
  refine az_bipush (v := 25) C dX4_dropQuarrel_4 (by decide) ?_
  refine az_ild (k := 25) C ho.2 (az_vin (by decide)) (by decide) dX4_dropQuarrel_6 ?_
  refine az_iconst (v := 1) C dX4_dropQuarrel_7 (by decide) ?_
  refine az_isub C dX4_dropQuarrel_8 ?_
  refine az_iload_n C 1 dX4_dropQuarrel_9 rfl ?_
  refine az_isub C dX4_dropQuarrel_10 ?_
  refine az_istore_n C dX4_dropQuarrel_11 rfl (by decide) rfl ?_
  refine az_bipush (v := 93) C dX4_dropQuarrel_12 (by decide) ?_
  refine az_istore_n C dX4_dropQuarrel_14 rfl (by decide) rfl ?_
  refine az_sub [2, 3, 1, 0] rfl ?_
  exact s_X4_dropQuarrel_15 C G o ho G p0 (((M.1 (o + 1) 25) - 1) - p0) 93 M r h hp
theorem c_X4_dropQuarrel {l : Launch} {V : az_V} (hL : az_L V) (G : Nat) (o : Nat) (ho : az_pv V o) (p0 : Int32) (M : az_M) {r : az_M} (h : f_X4_dropQuarrel G o p0 M = some r) : az_Ct l V yX4_dropQuarrel cX4_dropQuarrel 4 none 2 [.ref (az_ad V o), .int p0] M (fun v M' => v = none ∧ M' = r) :=
  az_Ct.of (by decide) (Nat.le_of_ble_eq_true rfl) (fun Y _ _ C => s_X4_dropQuarrel_e C G o ho p0 M r h ⟨rfl, rfl⟩)
set_option maxHeartbeats 4000000 in
set_option maxRecDepth 100000 in
theorem s_X4_noteShot_38 {Y : az_Y} {V : az_V} {post : Option Value → az_M → Prop} (C : az_C Y V cX4_noteShot 2 RX4 none 2) (o : Nat) (ho : az_pv V o) (x1 : Int32) (M : az_M) (r : az_M) (h : f_X4_noteShot_38 o x1 M = some r) (hp : post none r) : AW Y V (az_end Y V post) 2 M 38 [(0, .ref (az_ad V o)), (1, .int x1)] [] := by
  unfold f_X4_noteShot_38 at h
  refine az_aload_n C 0 dX4_noteShot_38 rfl ?_
  refine az_getr (r := (o + 1)) C ho.1 fl_X4_9 rfl rfl dX4_noteShot_39 ?_
  refine az_bipush (v := 121) C dX4_noteShot_42 (by decide) ?_
  refine az_aload_n C 0 dX4_noteShot_44 rfl ?_
  refine az_getr (r := (o + 1)) C ho.1 fl_X4_9 rfl rfl dX4_noteShot_45 ?_
  refine az_bipush (v := 26) C dX4_noteShot_48 (by decide) ?_
  refine az_ild (k := 26) C ho.2 (az_vin (by decide)) (by decide) dX4_noteShot_50 ?_
  refine az_iadd C dX4_noteShot_51 ?_
  refine az_iload_n C 1 dX4_noteShot_52 rfl ?_
  obtain ⟨g2, h⟩ := az_g h
  refine az_ist (k := (121 + (M.1 (o + 1) 26)).toNatClampNeg) C ho.2 g2 rfl dX4_noteShot_53 ?_
  refine az_aload_n C 0 dX4_noteShot_54 rfl ?_
  refine az_getr (r := (o + 1)) C ho.1 fl_X4_9 rfl rfl dX4_noteShot_55 ?_
  refine az_bipush (v := 26) C dX4_noteShot_58 (by decide) ?_
  refine az_dup2 C dX4_noteShot_60 rfl rfl ?_
  refine az_ild (k := 26) C ho.2 (az_vin (by decide)) (by decide) dX4_noteShot_61 ?_
  refine az_iconst (v := 1) C dX4_noteShot_62 (by decide) ?_
  refine az_iadd C dX4_noteShot_63 ?_
  refine az_ist (k := 26) C ho.2 (az_vin (by decide)) (by decide) dX4_noteShot_64 ?_
  obtain rfl := Option.some.inj h
  exact az_vret C rfl dX4_noteShot_65 hp
set_option maxHeartbeats 4000000 in
set_option maxRecDepth 100000 in
theorem s_X4_noteShot_e {Y : az_Y} {V : az_V} {post : Option Value → az_M → Prop} (C : az_C Y V cX4_noteShot 2 RX4 none 2) (o : Nat) (ho : az_pv V o) (p0 : Int32) (M : az_M) (r : az_M) (h : f_X4_noteShot o p0 M = some r) (hp : post none r) : AW Y V (az_end Y V post) 2 M 0 [(0, .ref (az_ad V o)), (1, .int p0)] [] := by
  unfold f_X4_noteShot at h
  refine az_aload_n C 0 dX4_noteShot_0 rfl ?_
  refine az_getr (r := (o + 1)) C ho.1 fl_X4_9 rfl rfl dX4_noteShot_1 ?_
  refine az_bipush (v := 26) C dX4_noteShot_4 (by decide) ?_
  refine az_ild (k := 26) C ho.2 (az_vin (by decide)) (by decide) dX4_noteShot_6 ?_
  refine az_bipush (v := 24) C dX4_noteShot_7 (by decide) ?_
  refine az_icmp_lt C 38 dX4_noteShot_9 (by decide) (fun c1 => ?_) (fun c1 => ?_)
  · have h := az_t c1 h
    exact s_X4_noteShot_38 C o ho p0 M r h hp
  · have h := az_f c1 h
    refine az_aload_n C 0 dX4_noteShot_12 rfl ?_
    refine az_getr (r := (o + 1)) C ho.1 fl_X4_9 rfl rfl dX4_noteShot_13 ?_
    refine az_bipush (v := 122) C dX4_noteShot_16 (by decide) ?_
    refine az_aload_n C 0 dX4_noteShot_18 rfl ?_
    refine az_getr (r := (o + 1)) C ho.1 fl_X4_9 rfl rfl dX4_noteShot_19 ?_
    refine az_bipush (v := 121) C dX4_noteShot_22 (by decide) ?_
    refine az_bipush (v := 23) C dX4_noteShot_24 (by decide) ?_
    refine az_copy (i := 122) (j := 121) (k := 23) C (by decide) la_X4_15 ho.2 ho.2 (by decide) (by decide) (by decide) (by decide) (by decide) (by decide) (by decide) (by decide) (Nat.le_of_ble_eq_true rfl) dX4_noteShot_26 ?_
    refine az_aload_n C 0 dX4_noteShot_29 rfl ?_
    refine az_getr (r := (o + 1)) C ho.1 fl_X4_9 rfl rfl dX4_noteShot_30 ?_
    refine az_bipush (v := 26) C dX4_noteShot_33 (by decide) ?_
    refine az_bipush (v := 23) C dX4_noteShot_35 (by decide) ?_
    refine az_ist (k := 26) C ho.2 (az_vin (by decide)) (by decide) dX4_noteShot_37 ?_
    exact s_X4_noteShot_38 C o ho p0 (az_i (az_cp M (o + 1) 122 (o + 1) 121 23) (o + 1) 26 23) r h hp
theorem c_X4_noteShot {l : Launch} {V : az_V} (hL : az_L V) (o : Nat) (ho : az_pv V o) (p0 : Int32) (M : az_M) {r : az_M} (h : f_X4_noteShot o p0 M = some r) : az_Ct l V yX4_noteShot cX4_noteShot 2 none 2 [.ref (az_ad V o), .int p0] M (fun v M' => v = none ∧ M' = r) :=
  az_Ct.of (by decide) (Nat.le_of_ble_eq_true rfl) (fun Y _ _ C => s_X4_noteShot_e C o ho p0 M r h ⟨rfl, rfl⟩)
set_option maxHeartbeats 4000000 in
set_option maxRecDepth 100000 in
theorem s_X4_passDays_e {Y : az_Y} {V : az_V} {post : Option Value → az_M → Prop} (C : az_C Y V cX4_passDays 3 RX4 none 2) (o : Nat) (ho : az_pv V o) (p0 : Int32) (M : az_M) (r : az_M) (h : f_X4_passDays o p0 M = some r) (hp : post none r) : AW Y V (az_end Y V post) 3 M 0 [(0, .ref (az_ad V o)), (1, .int p0)] [] := by
  unfold f_X4_passDays at h
  refine az_iload_n C 1 dX4_passDays_0 rfl ?_
  refine az_sipush (v := 999) C dX4_passDays_1 (by decide) ?_
  refine az_aload_n C 0 dX4_passDays_4 rfl ?_
  refine az_getr (r := (o + 1)) C ho.1 fl_X4_9 rfl rfl dX4_passDays_5 ?_
  refine az_bipush (v := 16) C dX4_passDays_8 (by decide) ?_
  refine az_ild (k := 16) C ho.2 (az_vin (by decide)) (by decide) dX4_passDays_10 ?_
  refine az_isub C dX4_passDays_11 ?_
  refine az_min C (by decide) lm_X4_21 (Nat.le_of_ble_eq_true rfl) dX4_passDays_12 ?_
  refine az_istore_n C dX4_passDays_15 rfl (by decide) rfl ?_
  refine az_aload_n C 1 dX4_passDays_16 rfl ?_
  refine az_getr (r := (o + 1)) C ho.1 fl_X4_9 rfl rfl dX4_passDays_17 ?_
  refine az_bipush (v := 16) C dX4_passDays_20 (by decide) ?_
  refine az_dup2 C dX4_passDays_22 rfl rfl ?_
  refine az_ild (k := 16) C ho.2 (az_vin (by decide)) (by decide) dX4_passDays_23 ?_
  refine az_iload_n C 0 dX4_passDays_24 rfl ?_
  refine az_iadd C dX4_passDays_25 ?_
  refine az_ist (k := 16) C ho.2 (az_vin (by decide)) (by decide) dX4_passDays_26 ?_
  refine az_aload_n C 1 dX4_passDays_27 rfl ?_
  refine az_getr (r := (o + 1)) C ho.1 fl_X4_9 rfl rfl dX4_passDays_28 ?_
  refine az_iconst (v := 2) C dX4_passDays_31 (by decide) ?_
  refine az_bipush (v := 99) C dX4_passDays_32 (by decide) ?_
  refine az_aload_n C 1 dX4_passDays_34 rfl ?_
  refine az_getr (r := (o + 1)) C ho.1 fl_X4_9 rfl rfl dX4_passDays_35 ?_
  refine az_iconst (v := 2) C dX4_passDays_38 (by decide) ?_
  refine az_ild (k := 2) C ho.2 (az_vin (by decide)) (by decide) dX4_passDays_39 ?_
  refine az_iload_n C 0 dX4_passDays_40 rfl ?_
  refine az_iadd C dX4_passDays_41 ?_
  refine az_min C (by decide) lm_X4_21 (Nat.le_of_ble_eq_true rfl) dX4_passDays_42 ?_
  refine az_ist (k := 2) C ho.2 (az_vin (by decide)) (by decide) dX4_passDays_45 ?_
  obtain rfl := Option.some.inj h
  exact az_vret C rfl dX4_passDays_46 hp
theorem c_X4_passDays {l : Launch} {V : az_V} (hL : az_L V) (o : Nat) (ho : az_pv V o) (p0 : Int32) (M : az_M) {r : az_M} (h : f_X4_passDays o p0 M = some r) : az_Ct l V yX4_passDays cX4_passDays 3 none 2 [.ref (az_ad V o), .int p0] M (fun v M' => v = none ∧ M' = r) :=
  az_Ct.of (by decide) (Nat.le_of_ble_eq_true rfl) (fun Y _ _ C => s_X4_passDays_e C o ho p0 M r h ⟨rfl, rfl⟩)
