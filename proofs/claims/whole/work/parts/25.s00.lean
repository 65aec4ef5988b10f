set_option maxHeartbeats 4000000 in
set_option maxRecDepth 100000 in
theorem s_X1_tryFire_22 {Y : az_Y} {V : az_V} {post : Option Value → az_M → Prop} (C : az_C Y V cX1_tryFire 3 RX1 (some .int) 5) (G : Nat)  (M : az_M) (r : (Int32 × az_M)) (h : f_X1_tryFire_22 (az_z V) G M = some r) (hp : post (some (.int r.1)) r.2) : AW Y V (az_end Y V post) 3 M 22 [] [] := by
  unfold f_X1_tryFire_22 at h
  refine az_bipush (v := (-2)) C dX1_tryFire_22 (by decide) ?_
  obtain rfl := Option.some.inj h
  exact az_iret C dX1_tryFire_24 hp
set_option maxHeartbeats 4000000 in
set_option maxRecDepth 100000 in
theorem s_X1_tryFire_63 {Y : az_Y} {V : az_V} {post : Option Value → az_M → Prop} (C : az_C Y V cX1_tryFire 3 RX1 (some .int) 5) (G : Nat)  (M : az_M) (r : (Int32 × az_M)) (h : f_X1_tryFire_63 (az_z V) G M = some r) (hp : post (some (.int r.1)) r.2) : AW Y V (az_end Y V post) 3 M 63 [] [] := by
  unfold f_X1_tryFire_63 at h
  refine az_bipush (v := (-3)) C dX1_tryFire_63 (by decide) ?_
  obtain rfl := Option.some.inj h
  exact az_iret C dX1_tryFire_65 hp
set_option maxHeartbeats 4000000 in
set_option maxRecDepth 100000 in
theorem s_X1_tryFire_e {Y : az_Y} {V : az_V} {post : Option Value → az_M → Prop} (C : az_C Y V cX1_tryFire 3 RX1 (some .int) 5) (G : Nat) (p0 : Int32) (p1 : Int32) (M : az_M) (r : (Int32 × az_M)) (h : f_X1_tryFire (az_z V) G p0 p1 M = some r) (hp : post (some (.int r.1)) r.2) : AW Y V (az_end Y V post) 3 M 0 [(0, .ref (az_ad V 21)), (1, .int p0), (2, .int p1)] [] := by
  have o1 := C.hL.at 1 (ci := 4) rfl
  have o7 := C.hL.at 7 (ci := 3) rfl
  have o19 := C.hL.at 19 (ci := 8) rfl
  have o21 := C.hL.at 21 (ci := 1) rfl
  have a2 := C.hL.ar 2 (t := 0) (len := 145) rfl
  unfold f_X1_tryFire at h
  refine az_aload_n C 0 dX1_tryFire_0 rfl ?_
  refine az_getr (r := 1) C o21 fl_X1_29 rfl rfl dX1_tryFire_1 ?_
  refine az_iload_n C 1 dX1_tryFire_4 rfl ?_
  obtain ⟨q1, e2, h⟩ := az_b h
  refine az_cV (rest := []) (st2 := [.int q1]) C [.int p0] (c_X4_hasPerson C.hL 1 (C.hL.pv 1 rfl) p0 M e2) (by decide) li_X1_43 o1 (by decide) rfl rfl (Nat.le_of_ble_eq_true rfl) dX1_tryFire_5 rfl ?_
  refine az_if_eq C 22 dX1_tryFire_8 (by decide) (fun c3 => ?_) (fun c3 => ?_)
  · have h := az_t c3 h
    refine az_sub [] rfl ?_
    exact s_X1_tryFire_22 C G M r h hp
  · have h := az_f c3 h
    refine az_aload_n C 0 dX1_tryFire_11 rfl ?_
    refine az_getr (r := 1) C o21 fl_X1_29 rfl rfl dX1_tryFire_12 ?_
    refine az_iload_n C 2 dX1_tryFire_15 rfl ?_
    obtain ⟨q4, e5, h⟩ := az_b h
    refine az_cV (rest := []) (st2 := [.int q4]) C [.int p1] (c_X4_hasPlace C.hL 1 (C.hL.pv 1 rfl) p1 M e5) (by decide) li_X1_47 o1 (by decide) rfl rfl (Nat.le_of_ble_eq_true rfl) dX1_tryFire_16 rfl ?_
    refine az_if_ne C 25 dX1_tryFire_19 (by decide) (fun c6 => ?_) (fun c6 => ?_)
    · have h := az_f c6 h
      refine az_aload_n C 0 dX1_tryFire_25 rfl ?_
      refine az_getr (r := 1) C o21 fl_X1_29 rfl rfl dX1_tryFire_26 ?_
      obtain ⟨q7, e8, h⟩ := az_b h
      refine az_cV (rest := []) (st2 := [.int q7]) C [] (c_X4_canBeFired C.hL 1 (C.hL.pv 1 rfl) M e8) (by decide) li_X1_50 o1 (by decide) rfl rfl (Nat.le_of_ble_eq_true rfl) dX1_tryFire_29 rfl ?_
      refine az_if_eq C 63 dX1_tryFire_32 (by decide) (fun c9 => ?_) (fun c9 => ?_)
      · have h := az_t c9 h
        refine az_sub [] rfl ?_
        exact s_X1_tryFire_63 C G M r h hp
      · have h := az_f c9 h
        refine az_aload_n C 0 dX1_tryFire_35 rfl ?_
        refine az_getr (r := 1) C o21 fl_X1_29 rfl rfl dX1_tryFire_36 ?_
        refine az_iload_n C 1 dX1_tryFire_39 rfl ?_
        obtain ⟨q10, e11, h⟩ := az_b h
        refine az_cV (rest := []) (st2 := [.int q10]) C [.int p0] (c_X4_isHurt C.hL 1 (C.hL.pv 1 rfl) p0 M e11) (by decide) li_X1_54 o1 (by decide) rfl rfl (Nat.le_of_ble_eq_true rfl) dX1_tryFire_40 rfl ?_
        refine az_if_ne C 63 dX1_tryFire_43 (by decide) (fun c12 => ?_) (fun c12 => ?_)
        · have h := az_f c12 h
          refine az_sub [] rfl ?_
          exact s_X1_tryFire_63 C G M r h hp
        · have h := az_t c12 h
          refine az_aload_n C 0 dX1_tryFire_46 rfl ?_
          refine az_getr (r := 19) C o21 fl_X1_32 rfl rfl dX1_tryFire_47 ?_
          refine az_aload_n C 0 dX1_tryFire_50 rfl ?_
          refine az_getr (r := 1) C o21 fl_X1_29 rfl rfl dX1_tryFire_51 ?_
          refine az_iconst (v := 4) C dX1_tryFire_54 (by decide) ?_
          refine az_iload_n C 1 dX1_tryFire_55 rfl ?_
          refine az_iload_n C 2 dX1_tryFire_56 rfl ?_
          obtain ⟨q13, e14, h⟩ := az_b h
          refine az_cV (rest := []) (st2 := [.int q13.1]) C [.ref (az_ad V 1), .int 4, .int p0, .int p1] (c_X8_ask C.hL G 1 (C.hL.pv 1 rfl) 4 p0 p1 M e14) (by decide) li_X1_57 o19 (by decide) rfl rfl (Nat.le_of_ble_eq_true rfl) dX1_tryFire_57 rfl ?_
          refine az_if_eq C 66 dX1_tryFire_60 (by decide) (fun c15 => ?_) (fun c15 => ?_)
          · have h := az_t c15 h
            refine az_aload_n C 0 dX1_tryFire_66 rfl ?_
            refine az_getr (r := 7) C o21 fl_X1_36 rfl rfl dX1_tryFire_67 ?_
            refine az_iconst (v := 0) C dX1_tryFire_70 (by decide) ?_
            refine az_aload_n C 0 dX1_tryFire_71 rfl ?_
            refine az_getr (r := 1) C o21 fl_X1_29 rfl rfl dX1_tryFire_72 ?_
            obtain ⟨q16, e17, h⟩ := az_b h
            refine az_cV (rest := []) (st2 := []) C [.int 0, .ref (az_ad V 1)] (c_X3_keep C.hL 7 (C.hL.pa 7 rfl) 1 (C.hL.pv 1 rfl) 0 q13.2 e17) (by decide) li_X1_63 o7 (by decide) rfl rfl (Nat.le_of_ble_eq_true rfl) dX1_tryFire_75 rfl ?_
            refine az_aload_n C 0 dX1_tryFire_78 rfl ?_
            refine az_getr (r := 19) C o21 fl_X1_32 rfl rfl dX1_tryFire_79 ?_
            refine az_aload_n C 0 dX1_tryFire_82 rfl ?_
            refine az_getr (r := 1) C o21 fl_X1_29 rfl rfl dX1_tryFire_83 ?_
            refine az_iload_n C 1 dX1_tryFire_86 rfl ?_
            refine az_iload_n C 2 dX1_tryFire_87 rfl ?_
            obtain ⟨q18, e19, h⟩ := az_b h
            refine az_cV (rest := []) (st2 := []) C [.ref (az_ad V 1), .int p0, .int p1] (c_X8_shoot C.hL G 1 (C.hL.pv 1 rfl) p0 p1 q16 e19) (by decide) li_X1_67 o19 (by decide) rfl rfl (Nat.le_of_ble_eq_true rfl) dX1_tryFire_88 rfl ?_
            refine az_aload_n C 0 dX1_tryFire_91 rfl ?_
            refine az_getr (r := 1) C o21 fl_X1_29 rfl rfl dX1_tryFire_92 ?_
            refine az_getr (r := 2) C o1 fl_X1_71 rfl rfl dX1_tryFire_95 ?_
            refine az_iconst (v := 0) C dX1_tryFire_98 (by decide) ?_
            refine az_ild (k := 0) C a2 (az_vin (by decide)) (by decide) dX1_tryFire_99 ?_
            obtain rfl := Option.some.inj h
            exact az_iret C dX1_tryFire_100 hp
          · have h := az_f c15 h
            refine az_sub [] rfl ?_
            exact s_X1_tryFire_63 C G q13.2 r h hp
    · have h := az_t c6 h
      refine az_sub [] rfl ?_
      exact s_X1_tryFire_22 C G M r h hp
theorem c_X1_tryFire {l : Launch} {V : az_V} (hL : az_L V) (G : Nat) (p0 : Int32) (p1 : Int32) (M : az_M) {r : (Int32 × az_M)} (h : f_X1_tryFire (az_z V) G p0 p1 M = some r) : az_Ct l V yX1_tryFire cX1_tryFire 3 (some .int) 5 [.ref (az_ad V 21), .int p0, .int p1] M (fun v M' => v = some (.int r.1) ∧ M' = r.2) :=
  az_Ct.of (by decide) (Nat.le_of_ble_eq_true rfl) (fun Y _ _ C => s_X1_tryFire_e C G p0 p1 M r h ⟨rfl, rfl⟩)
set_option maxHeartbeats 4000000 in
set_option maxRecDepth 100000 in
theorem s_X1_tryDuel_10 {Y : az_Y} {V : az_V} {post : Option Value → az_M → Prop} (C : az_C Y V cX1_tryDuel 3 RX1 (some .int) 6) (G : Nat)  (M : az_M) (r : (Int32 × az_M)) (h : f_X1_tryDuel_10 (az_z V) G M = some r) (hp : post (some (.int r.1)) r.2) : AW Y V (az_end Y V post) 3 M 10 [] [] := by
  unfold f_X1_tryDuel_10 at h
  refine az_iconst (v := (-1)) C dX1_tryDuel_10 (by decide) ?_
  obtain rfl := Option.some.inj h
  exact az_iret C dX1_tryDuel_11 hp
set_option maxHeartbeats 4000000 in
set_option maxRecDepth 100000 in
theorem s_X1_tryDuel_e {Y : az_Y} {V : az_V} {post : Option Value → az_M → Prop} (C : az_C Y V cX1_tryDuel 3 RX1 (some .int) 6) (G : Nat) (p0 : Int32) (p1 : Int32) (M : az_M) (r : (Int32 × az_M)) (h : f_X1_tryDuel (az_z V) G p0 p1 M = some r) (hp : post (some (.int r.1)) r.2) : AW Y V (az_end Y V post) 3 M 0 [(0, .ref (az_ad V 21)), (1, .int p0), (2, .int p1)] [] := by
  have o1 := C.hL.at 1 (ci := 4) rfl
  have o7 := C.hL.at 7 (ci := 3) rfl
  have o19 := C.hL.at 19 (ci := 8) rfl
  have o21 := C.hL.at 21 (ci := 1) rfl
  unfold f_X1_tryDuel at h
  refine az_iload_n C 2 dX1_tryDuel_0 rfl ?_
  refine az_if_lt C 10 dX1_tryDuel_1 (by decide) (fun c1 => ?_) (fun c1 => ?_)
  · have h := az_t c1 h
    refine az_sub [] rfl ?_
    exact s_X1_tryDuel_10 C G M r h hp
  · have h := az_f c1 h
    refine az_iload_n C 2 dX1_tryDuel_4 rfl ?_
    refine az_ldc C ck_X1_74 dX1_tryDuel_5 ?_
    refine az_icmp_le C 12 dX1_tryDuel_7 (by decide) (fun c2 => ?_) (fun c2 => ?_)
    · have h := az_t c2 h
      refine az_aload_n C 0 dX1_tryDuel_12 rfl ?_
      refine az_getr (r := 1) C o21 fl_X1_29 rfl rfl dX1_tryDuel_13 ?_
      refine az_iload_n C 1 dX1_tryDuel_16 rfl ?_
      obtain ⟨q3, e4, h⟩ := az_b h
      refine az_cV (rest := []) (st2 := [.int q3]) C [.int p0] (c_X4_hasQuarrel C.hL 1 (C.hL.pv 1 rfl) p0 M e4) (by decide) li_X1_75 o1 (by decide) rfl rfl (Nat.le_of_ble_eq_true rfl) dX1_tryDuel_17 rfl ?_
      refine az_if_ne C 26 dX1_tryDuel_20 (by decide) (fun c5 => ?_) (fun c5 => ?_)
      · have h := az_f c5 h
        refine az_aload_n C 0 dX1_tryDuel_26 rfl ?_
        refine az_getr (r := 19) C o21 fl_X1_32 rfl rfl dX1_tryDuel_27 ?_
        refine az_aload_n C 0 dX1_tryDuel_30 rfl ?_
        refine az_getr (r := 1) C o21 fl_X1_29 rfl rfl dX1_tryDuel_31 ?_
        refine az_iload_n C 1 dX1_tryDuel_34 rfl ?_
        obtain ⟨q6, e7, h⟩ := az_b h
        refine az_cV (rest := []) (st2 := [.int q6.1]) C [.ref (az_ad V 1), .int p0] (c_X8_canBeHad C.hL G 1 (C.hL.pv 1 rfl) p0 M e7) (by decide) li_X1_78 o19 (by decide) rfl rfl (Nat.le_of_ble_eq_true rfl) dX1_tryDuel_35 rfl ?_
        refine az_if_ne C 44 dX1_tryDuel_38 (by decide) (fun c8 => ?_) (fun c8 => ?_)
        · have h := az_f c8 h
          refine az_aload_n C 0 dX1_tryDuel_44 rfl ?_
          refine az_getr (r := 7) C o21 fl_X1_36 rfl rfl dX1_tryDuel_45 ?_
          refine az_iconst (v := 1) C dX1_tryDuel_48 (by decide) ?_
          refine az_aload_n C 0 dX1_tryDuel_49 rfl ?_
          refine az_getr (r := 1) C o21 fl_X1_29 rfl rfl dX1_tryDuel_50 ?_
          obtain ⟨q9, e10, h⟩ := az_b h
          refine az_cV (rest := []) (st2 := []) C [.int 1, .ref (az_ad V 1)] (c_X3_keep C.hL 7 (C.hL.pa 7 rfl) 1 (C.hL.pv 1 rfl) 1 q6.2 e10) (by decide) li_X1_63 o7 (by decide) rfl rfl (Nat.le_of_ble_eq_true rfl) dX1_tryDuel_53 rfl ?_
          refine az_aload_n C 0 dX1_tryDuel_56 rfl ?_
          refine az_getr (r := 19) C o21 fl_X1_32 rfl rfl dX1_tryDuel_57 ?_
          refine az_iload_n C 2 dX1_tryDuel_60 rfl ?_
          refine az_puti C o19 fl_X1_82 rfl rfl rfl rfl dX1_tryDuel_61 ?_
          refine az_aload_n C 0 dX1_tryDuel_64 rfl ?_
          refine az_getr (r := 19) C o21 fl_X1_32 rfl rfl dX1_tryDuel_65 ?_
          refine az_aload_n C 0 dX1_tryDuel_68 rfl ?_
          refine az_getr (r := 1) C o21 fl_X1_29 rfl rfl dX1_tryDuel_69 ?_
          refine az_iload_n C 1 dX1_tryDuel_72 rfl ?_
          obtain ⟨q11, e12, h⟩ := az_b h
          refine az_cV (rest := []) (st2 := [.int q11.1]) C [.ref (az_ad V 1), .int p0] (c_X8_hold C.hL G 1 (C.hL.pv 1 rfl) p0 (az_i q9 19 0 p1) e12) (by decide) li_X1_86 o19 (by decide) rfl rfl (Nat.le_of_ble_eq_true rfl) dX1_tryDuel_73 rfl ?_
          obtain rfl := Option.some.inj h
          exact az_iret C dX1_tryDuel_76 hp
        · have h := az_t c8 h
          refine az_bipush (v := (-3)) C dX1_tryDuel_41 (by decide) ?_
          obtain rfl := Option.some.inj h
          exact az_iret C dX1_tryDuel_43 hp
      · have h := az_t c5 h
        refine az_bipush (v := (-2)) C dX1_tryDuel_23 (by decide) ?_
        obtain rfl := Option.some.inj h
        exact az_iret C dX1_tryDuel_25 hp
    · have h := az_f c2 h
      refine az_sub [] rfl ?_
      exact s_X1_tryDuel_10 C G M r h hp
theorem c_X1_tryDuel {l : Launch} {V : az_V} (hL : az_L V) (G : Nat) (p0 : Int32) (p1 : Int32) (M : az_M) {r : (Int32 × az_M)} (h : f_X1_tryDuel (az_z V) G p0 p1 M = some r) : az_Ct l V yX1_tryDuel cX1_tryDuel 3 (some .int) 6 [.ref (az_ad V 21), .int p0, .int p1] M (fun v M' => v = some (.int r.1) ∧ M' = r.2) :=
  az_Ct.of (by decide) (Nat.le_of_ble_eq_true rfl) (fun Y _ _ C => s_X1_tryDuel_e C G p0 p1 M r h ⟨rfl, rfl⟩)
set_option maxHeartbeats 4000000 in
set_option maxRecDepth 100000 in
theorem s_X1_tryRest_11 {Y : az_Y} {V : az_V} {post : Option Value → az_M → Prop} (C : az_C Y V cX1_tryRest 2 RX1 (some .int) 3)  (M : az_M) (r : (Int32 × az_M)) (h : f_X1_tryRest_11 M = some r) (hp : post (some (.int r.1)) r.2) : AW Y V (az_end Y V post) 2 M 11 [] [] := by
  unfold f_X1_tryRest_11 at h
  refine az_iconst (v := (-1)) C dX1_tryRest_11 (by decide) ?_
  obtain rfl := Option.some.inj h
  exact az_iret C dX1_tryRest_12 hp
set_option maxHeartbeats 4000000 in
set_option maxRecDepth 100000 in
theorem s_X1_tryRest_e {Y : az_Y} {V : az_V} {post : Option Value → az_M → Prop} (C : az_C Y V cX1_tryRest 2 RX1 (some .int) 3) (p0 : Int32) (M : az_M) (r : (Int32 × az_M)) (h : f_X1_tryRest p0 M = some r) (hp : post (some (.int r.1)) r.2) : AW Y V (az_end Y V post) 2 M 0 [(0, .ref (az_ad V 21)), (1, .int p0)] [] := by
  have o1 := C.hL.at 1 (ci := 4) rfl
  have o7 := C.hL.at 7 (ci := 3) rfl
  have o21 := C.hL.at 21 (ci := 1) rfl
  have a2 := C.hL.ar 2 (t := 0) (len := 145) rfl
  unfold f_X1_tryRest at h
  refine az_iload_n C 1 dX1_tryRest_0 rfl ?_
  refine az_iconst (v := 1) C dX1_tryRest_1 (by decide) ?_
  refine az_icmp_lt C 11 dX1_tryRest_2 (by decide) (fun c1 => ?_) (fun c1 => ?_)
  · have h := az_t c1 h
    refine az_sub [] rfl ?_
    exact s_X1_tryRest_11 C M r h hp
  · have h := az_f c1 h
    refine az_iload_n C 1 dX1_tryRest_5 rfl ?_
    refine az_bipush (v := 99) C dX1_tryRest_6 (by decide) ?_
    refine az_icmp_le C 13 dX1_tryRest_8 (by decide) (fun c2 => ?_) (fun c2 => ?_)
    · have h := az_t c2 h
      refine az_aload_n C 0 dX1_tryRest_13 rfl ?_
      refine az_getr (r := 7) C o21 fl_X1_36 rfl rfl dX1_tryRest_14 ?_
      refine az_iconst (v := 2) C dX1_tryRest_17 (by decide) ?_
      refine az_aload_n C 0 dX1_tryRest_18 rfl ?_
      refine az_getr (r := 1) C o21 fl_X1_29 rfl rfl dX1_tryRest_19 ?_
      obtain ⟨q3, e4, h⟩ := az_b h
      refine az_cV (rest := []) (st2 := []) C [.int 2, .ref (az_ad V 1)] (c_X3_keep C.hL 7 (C.hL.pa 7 rfl) 1 (C.hL.pv 1 rfl) 2 M e4) (by decide) li_X1_63 o7 (by decide) rfl rfl (Nat.le_of_ble_eq_true rfl) dX1_tryRest_22 rfl ?_
      refine az_aload_n C 0 dX1_tryRest_25 rfl ?_
      refine az_getr (r := 1) C o21 fl_X1_29 rfl rfl dX1_tryRest_26 ?_
      refine az_iload_n C 1 dX1_tryRest_29 rfl ?_
      obtain ⟨q5, e6, h⟩ := az_b h
      refine az_cV (rest := []) (st2 := []) C [.int p0] (c_X4_passDays C.hL 1 (C.hL.pv 1 rfl) p0 q3 e6) (by decide) li_X1_90 o1 (by decide) rfl rfl (Nat.le_of_ble_eq_true rfl) dX1_tryRest_30 rfl ?_
      refine az_aload_n C 0 dX1_tryRest_33 rfl ?_
      refine az_getr (r := 1) C o21 fl_X1_29 rfl rfl dX1_tryRest_34 ?_
      refine az_getr (r := 2) C o1 fl_X1_71 rfl rfl dX1_tryRest_37 ?_
      refine az_bipush (v := 16) C dX1_tryRest_40 (by decide) ?_
      refine az_ild (k := 16) C a2 (az_vin (by decide)) (by decide) dX1_tryRest_42 ?_
      obtain rfl := Option.some.inj h
      exact az_iret C dX1_tryRest_43 hp
    · have h := az_f c2 h
      refine az_sub [] rfl ?_
      exact s_X1_tryRest_11 C M r h hp
theorem c_X1_tryRest {l : Launch} {V : az_V} (hL : az_L V) (p0 : Int32) (M : az_M) {r : (Int32 × az_M)} (h : f_X1_tryRest p0 M = some r) : az_Ct l V yX1_tryRest cX1_tryRest 2 (some .int) 3 [.ref (az_ad V 21), .int p0] M (fun v M' => v = some (.int r.1) ∧ M' = r.2) :=
  az_Ct.of (by decide) (Nat.le_of_ble_eq_true rfl) (fun Y _ _ C => s_X1_tryRest_e C p0 M r h ⟨rfl, rfl⟩)
set_option maxHeartbeats 4000000 in
set_option maxRecDepth 100000 in
theorem s_X1_begin_e {Y : az_Y} {V : az_V} {post : Option Value → az_M → Prop} (C : az_C Y V cX1_begin 1 RX1 none 3)  (M : az_M) (r : az_M) (h : f_X1_begin M = some r) (hp : post none r) : AW Y V (az_end Y V post) 1 M 0 [(0, .ref (az_ad V 21))] [] := by
  have o21 := C.hL.at 21 (ci := 1) rfl
  have o22 := C.hL.at 22 (ci := 4) rfl
  have o24 := C.hL.at 24 (ci := 3) rfl
  unfold f_X1_begin at h
  refine az_aload_n C 0 dX1_begin_0 rfl ?_
  refine az_getr (r := 22) C o21 fl_X1_12 rfl rfl dX1_begin_1 ?_
  refine az_aload_n C 0 dX1_begin_4 rfl ?_
  refine az_getr (r := 1) C o21 fl_X1_29 rfl rfl dX1_begin_5 ?_
  obtain ⟨q1, e2, h⟩ := az_b h
  refine az_cV (rest := []) (st2 := []) C [.ref (az_ad V 1)] (c_X4_copy C.hL 22 (C.hL.pv 22 rfl) 1 (C.hL.pv 1 rfl) M e2) (by decide) li_X1_94 o22 (by decide) rfl rfl (Nat.le_of_ble_eq_true rfl) dX1_begin_8 rfl ?_
  refine az_aload_n C 0 dX1_begin_11 rfl ?_
  refine az_getr (r := 24) C o21 fl_X1_21 rfl rfl dX1_begin_12 ?_
  refine az_aload_n C 0 dX1_begin_15 rfl ?_
  refine az_getr (r := 7) C o21 fl_X1_36 rfl rfl dX1_begin_16 ?_
  obtain ⟨q3, e4, h⟩ := az_b h
  refine az_cV (rest := []) (st2 := []) C [.ref (az_ad V 7)] (c_X3_copy C.hL 24 (C.hL.pa 24 rfl) 7 (C.hL.pa 7 rfl) q1 e4) (by decide) li_X1_98 o24 (by decide) rfl rfl (Nat.le_of_ble_eq_true rfl) dX1_begin_19 rfl ?_
  refine az_aload_n C 0 dX1_begin_22 rfl ?_
  refine az_iconst (v := 0) C dX1_begin_23 (by decide) ?_
  refine az_puti C o21 fl_X1_101 rfl rfl rfl rfl dX1_begin_24 ?_
  refine az_aload_n C 0 dX1_begin_27 rfl ?_
  refine az_iconst (v := (-1)) C dX1_begin_28 (by decide) ?_
  refine az_puti C o21 fl_X1_104 rfl rfl rfl rfl dX1_begin_29 ?_
  obtain rfl := Option.some.inj h
  exact az_vret C rfl dX1_begin_32 hp
theorem c_X1_begin {l : Launch} {V : az_V} (hL : az_L V)  (M : az_M) {r : az_M} (h : f_X1_begin M = some r) : az_Ct l V yX1_begin cX1_begin 1 none 3 [.ref (az_ad V 21)] M (fun v M' => v = none ∧ M' = r) :=
  az_Ct.of (by decide) (Nat.le_of_ble_eq_true rfl) (fun Y _ _ C => s_X1_begin_e C M r h ⟨rfl, rfl⟩)
set_option maxHeartbeats 4000000 in
set_option maxRecDepth 100000 in
theorem s_X1_giveUp_e {Y : az_Y} {V : az_V} {post : Option Value → az_M → Prop} (C : az_C Y V cX1_giveUp 1 RX1 none 3)  (M : az_M) (r : az_M) (h : f_X1_giveUp M = some r) (hp : post none r) : AW Y V (az_end Y V post) 1 M 0 [(0, .ref (az_ad V 21))] [] := by
  have o1 := C.hL.at 1 (ci := 4) rfl
  have o7 := C.hL.at 7 (ci := 3) rfl
  have o21 := C.hL.at 21 (ci := 1) rfl
  unfold f_X1_giveUp at h
  refine az_aload_n C 0 dX1_giveUp_0 rfl ?_
  refine az_getr (r := 1) C o21 fl_X1_29 rfl rfl dX1_giveUp_1 ?_
  refine az_aload_n C 0 dX1_giveUp_4 rfl ?_
  refine az_getr (r := 22) C o21 fl_X1_12 rfl rfl dX1_giveUp_5 ?_
  obtain ⟨q1, e2, h⟩ := az_b h
  refine az_cV (rest := []) (st2 := []) C [.ref (az_ad V 22)] (c_X4_copy C.hL 1 (C.hL.pv 1 rfl) 22 (C.hL.pv 22 rfl) M e2) (by decide) li_X1_94 o1 (by decide) rfl rfl (Nat.le_of_ble_eq_true rfl) dX1_giveUp_8 rfl ?_
  refine az_aload_n C 0 dX1_giveUp_11 rfl ?_
  refine az_getr (r := 7) C o21 fl_X1_36 rfl rfl dX1_giveUp_12 ?_
  refine az_aload_n C 0 dX1_giveUp_15 rfl ?_
  refine az_getr (r := 24) C o21 fl_X1_21 rfl rfl dX1_giveUp_16 ?_
  obtain ⟨q3, e4, h⟩ := az_b h
  refine az_cV (rest := []) (st2 := []) C [.ref (az_ad V 24)] (c_X3_copy C.hL 7 (C.hL.pa 7 rfl) 24 (C.hL.pa 24 rfl) q1 e4) (by decide) li_X1_98 o7 (by decide) rfl rfl (Nat.le_of_ble_eq_true rfl) dX1_giveUp_19 rfl ?_
  obtain rfl := Option.some.inj h
  exact az_vret C rfl dX1_giveUp_22 hp
theorem c_X1_giveUp {l : Launch} {V : az_V} (hL : az_L V)  (M : az_M) {r : az_M} (h : f_X1_giveUp M = some r) : az_Ct l V yX1_giveUp cX1_giveUp 1 none 3 [.ref (az_ad V 21)] M (fun v M' => v = none ∧ M' = r) :=
  az_Ct.of (by decide) (Nat.le_of_ble_eq_true rfl) (fun Y _ _ C => s_X1_giveUp_e C M r h ⟨rfl, rfl⟩)
set_option maxHeartbeats 4000000 in
set_option maxRecDepth 100000 in
theorem s_X1_setWords_124 {Y : az_Y} {V : az_V} {post : Option Value → az_M → Prop} (C : az_C Y V cX1_setWords 2 RX1 none 2) (G : Nat) (K83 : (Int32 → az_M → Option az_M)) (hK83 : ∀ (x1 : Int32) (M : az_M) (r : az_M), K83 x1 M = some r → post none r → AW Y V (az_end Y V post) 2 M 83 [(0, .ref (az_ad V 21)), (1, .int x1)] []) (x1 : Int32) (s0 : Int32) (s1 : Int32) (M : az_M) (r : az_M) (h : f_X1_setWords_124 G K83 x1 s0 s1 M = some r) (hp : post none r) : AW Y V (az_end Y V post) 2 M 124 [(0, .ref (az_ad V 21)), (1, .int x1)] [.int s0, .int s1, .ref (az_ad V 27)] := by
  have a27 := C.hL.ar 27 (t := 0) (len := 28) rfl
  unfold f_X1_setWords_124 at h
  obtain ⟨g6, h⟩ := az_g h
  refine az_ist (k := s1.toNatClampNeg) C a27 g6 rfl dX1_setWords_124 ?_
  refine az_iinc (v := (x1 + 1)) C 1 dX1_setWords_125 rfl rfl (by decide) rfl ?_
  refine az_goto C 83 dX1_setWords_128 (by decide) ?_
  refine az_sub [1, 0] rfl ?_
  exact hK83 (x1 + 1) (az_i M 27 s1.toNatClampNeg s0) r h hp
set_option maxHeartbeats 4000000 in
set_option maxRecDepth 100000 in
theorem s_X1_setWords_173 {Y : az_Y} {V : az_V} {post : Option Value → az_M → Prop} (C : az_C Y V cX1_setWords 2 RX1 none 2) (G : Nat) (K133 : (Int32 → az_M → Option az_M)) (hK133 : ∀ (x1 : Int32) (M : az_M) (r : az_M), K133 x1 M = some r → post none r → AW Y V (az_end Y V post) 2 M 133 [(0, .ref (az_ad V 21)), (1, .int x1)] []) (x1 : Int32) (s0 : Int32) (s1 : Int32) (M : az_M) (r : az_M) (h : f_X1_setWords_173 G K133 x1 s0 s1 M = some r) (hp : post none r) : AW Y V (az_end Y V post) 2 M 173 [(0, .ref (az_ad V 21)), (1, .int x1)] [.int s0, .int s1, .ref (az_ad V 27)] := by
  have a27 := C.hL.ar 27 (t := 0) (len := 28) rfl
  unfold f_X1_setWords_173 at h
  obtain ⟨g12, h⟩ := az_g h
  refine az_ist (k := s1.toNatClampNeg) C a27 g12 rfl dX1_setWords_173 ?_
  refine az_iinc (v := (x1 + 1)) C 1 dX1_setWords_174 rfl rfl (by decide) rfl ?_
  refine az_goto C 133 dX1_setWords_177 (by decide) ?_
  refine az_sub [1, 0] rfl ?_
  exact hK133 (x1 + 1) (az_i M 27 s1.toNatClampNeg s0) r h hp
set_option maxHeartbeats 4000000 in
set_option maxRecDepth 100000 in
theorem s_X1_setWords_133 {Y : az_Y} {V : az_V} {post : Option Value → az_M → Prop} (C : az_C Y V cX1_setWords 2 RX1 none 2) (G : Nat) : ∀ (F : Nat) (x1 : Int32) (M : az_M) (r : az_M), f_X1_setWords_133 G F x1 M = some r → post none r → AW Y V (az_end Y V post) 2 M 133 [(0, .ref (az_ad V 21)), (1, .int x1)] [] := by
  have o1 := C.hL.at 1 (ci := 4) rfl
  have o21 := C.hL.at 21 (ci := 1) rfl
  have a2 := C.hL.ar 2 (t := 0) (len := 145) rfl
  intro F
  induction F with
  | zero =>
    intro x1 M r h
    exact absurd (show (none : Option az_M) = some r from h) (fun q => by cases q)
  | succ F ih =>
    intro x1 M r h hp
    rw [f_X1_setWords_133] at h
    refine az_iload_n C 1 dX1_setWords_133 rfl ?_
    refine az_bipush (v := 12) C dX1_setWords_134 (by decide) ?_
    refine az_icmp_ge C 180 dX1_setWords_136 (by decide) (fun c7 => ?_) (fun c7 => ?_)
    · have h := az_t c7 h
      obtain rfl := Option.some.inj h
      exact az_vret C rfl dX1_setWords_180 hp
    · have h := az_f c7 h
      refine az_aload_n C 0 dX1_setWords_139 rfl ?_
      refine az_getr (r := 27) C o21 fl_X1_25 rfl rfl dX1_setWords_140 ?_
      refine az_bipush (v := 16) C dX1_setWords_143 (by decide) ?_
      refine az_iload_n C 1 dX1_setWords_145 rfl ?_
      refine az_iadd C dX1_setWords_146 ?_
      refine az_aload_n C 0 dX1_setWords_147 rfl ?_
      refine az_getr (r := 1) C o21 fl_X1_29 rfl rfl dX1_setWords_148 ?_
      refine az_iload_n C 1 dX1_setWords_151 rfl ?_
      obtain ⟨q8, e9, h⟩ := az_b h
      refine az_cV (rest := [.int (16 + x1), .ref (az_ad V 27)]) (st2 := [.int q8, .int (16 + x1), .ref (az_ad V 27)]) C [.int x1] (c_X4_hasPlace C.hL 1 (C.hL.pv 1 rfl) x1 M e9) (by decide) li_X1_47 o1 (by decide) rfl rfl (Nat.le_of_ble_eq_true rfl) dX1_setWords_152 rfl ?_
      refine az_if_eq C 172 dX1_setWords_155 (by decide) (fun c10 => ?_) (fun c10 => ?_)
      · have h := az_t c10 h
        refine az_iconst (v := (-1)) C dX1_setWords_172 (by decide) ?_
        exact s_X1_setWords_173 C G (f_X1_setWords_133 G F) ih x1 (-1) (16 + x1) M r h hp
      · have h := az_f c10 h
        refine az_aload_n C 0 dX1_setWords_158 rfl ?_
        refine az_getr (r := 1) C o21 fl_X1_29 rfl rfl dX1_setWords_159 ?_
        refine az_getr (r := 2) C o1 fl_X1_71 rfl rfl dX1_setWords_162 ?_
        refine az_iconst (v := 4) C dX1_setWords_165 (by decide) ?_
        refine az_iload_n C 1 dX1_setWords_166 rfl ?_
        refine az_iadd C dX1_setWords_167 ?_
        obtain ⟨g11, h⟩ := az_g h
        refine az_ild (k := (4 + x1).toNatClampNeg) C a2 g11 rfl dX1_setWords_168 ?_
        refine az_goto C 173 dX1_setWords_169 (by decide) ?_
        exact s_X1_setWords_173 C G (f_X1_setWords_133 G F) ih x1 (M.1 2 ((4 + x1).toNatClampNeg)) (16 + x1) M r h hp
set_option maxHeartbeats 4000000 in
set_option maxRecDepth 100000 in
theorem s_X1_setWords_83 {Y : az_Y} {V : az_V} {post : Option Value → az_M → Prop} (C : az_C Y V cX1_setWords 2 RX1 none 2) (G : Nat) : ∀ (F : Nat) (x1 : Int32) (M : az_M) (r : az_M), f_X1_setWords_83 G F x1 M = some r → post none r → AW Y V (az_end Y V post) 2 M 83 [(0, .ref (az_ad V 21)), (1, .int x1)] [] := by
  have o1 := C.hL.at 1 (ci := 4) rfl
  have o21 := C.hL.at 21 (ci := 1) rfl
  have a2 := C.hL.ar 2 (t := 0) (len := 145) rfl
  intro F
  induction F with
  | zero =>
    intro x1 M r h
    exact absurd (show (none : Option az_M) = some r from h) (fun q => by cases q)
  | succ F ih =>
    intro x1 M r h hp
    rw [f_X1_setWords_83] at h
    refine az_iload_n C 1 dX1_setWords_83 rfl ?_
    refine az_bipush (v := 10) C dX1_setWords_84 (by decide) ?_
    refine az_icmp_ge C 131 dX1_setWords_86 (by decide) (fun c1 => ?_) (fun c1 => ?_)
    · have h := az_t c1 h
      refine az_iconst (v := 0) C dX1_setWords_131 (by decide) ?_
      refine az_istore_n C dX1_setWords_132 rfl (by decide) rfl ?_
      refine az_sub [1, 0] rfl ?_
      exact s_X1_setWords_133 C G G 0 M r h hp
    · have h := az_f c1 h
      refine az_aload_n C 0 dX1_setWords_89 rfl ?_
      refine az_getr (r := 27) C o21 fl_X1_25 rfl rfl dX1_setWords_90 ?_
      refine az_bipush (v := 6) C dX1_setWords_93 (by decide) ?_
      refine az_iload_n C 1 dX1_setWords_95 rfl ?_
      refine az_iadd C dX1_setWords_96 ?_
      refine az_aload_n C 0 dX1_setWords_97 rfl ?_
      refine az_getr (r := 1) C o21 fl_X1_29 rfl rfl dX1_setWords_98 ?_
      refine az_iload_n C 1 dX1_setWords_101 rfl ?_
      obtain ⟨q2, e3, h⟩ := az_b h
      refine az_cV (rest := [.int (6 + x1), .ref (az_ad V 27)]) (st2 := [.int q2, .int (6 + x1), .ref (az_ad V 27)]) C [.int x1] (c_X4_hasPerson C.hL 1 (C.hL.pv 1 rfl) x1 M e3) (by decide) li_X1_43 o1 (by decide) rfl rfl (Nat.le_of_ble_eq_true rfl) dX1_setWords_102 rfl ?_
      refine az_if_eq C 123 dX1_setWords_105 (by decide) (fun c4 => ?_) (fun c4 => ?_)
      · have h := az_t c4 h
        refine az_iconst (v := (-1)) C dX1_setWords_123 (by decide) ?_
        exact s_X1_setWords_124 C G (f_X1_setWords_83 G F) ih x1 (-1) (6 + x1) M r h hp
      · have h := az_f c4 h
        refine az_aload_n C 0 dX1_setWords_108 rfl ?_
        refine az_getr (r := 1) C o21 fl_X1_29 rfl rfl dX1_setWords_109 ?_
        refine az_getr (r := 2) C o1 fl_X1_71 rfl rfl dX1_setWords_112 ?_
        refine az_bipush (v := 83) C dX1_setWords_115 (by decide) ?_
        refine az_iload_n C 1 dX1_setWords_117 rfl ?_
        refine az_iadd C dX1_setWords_118 ?_
        obtain ⟨g5, h⟩ := az_g h
        refine az_ild (k := (83 + x1).toNatClampNeg) C a2 g5 rfl dX1_setWords_119 ?_
        refine az_goto C 124 dX1_setWords_120 (by decide) ?_
        exact s_X1_setWords_124 C G (f_X1_setWords_83 G F) ih x1 (M.1 2 ((83 + x1).toNatClampNeg)) (6 + x1) M r h hp
set_option maxHeartbeats 4000000 in
set_option maxRecDepth 100000 in
theorem s_X1_setWords_e {Y : az_Y} {V : az_V} {post : Option Value → az_M → Prop} (C : az_C Y V cX1_setWords 2 RX1 none 2) (G : Nat)  (M : az_M) (r : az_M) (h : f_X1_setWords G M = some r) (hp : post none r) : AW Y V (az_end Y V post) 2 M 0 [(0, .ref (az_ad V 21))] [] := by
  have o1 := C.hL.at 1 (ci := 4) rfl
  have o21 := C.hL.at 21 (ci := 1) rfl
  have a2 := C.hL.ar 2 (t := 0) (len := 145) rfl
  have a27 := C.hL.ar 27 (t := 0) (len := 28) rfl
  unfold f_X1_setWords at h
  refine az_aload_n C 0 dX1_setWords_0 rfl ?_
  refine az_getr (r := 27) C o21 fl_X1_25 rfl rfl dX1_setWords_1 ?_
  refine az_iconst (v := 0) C dX1_setWords_4 (by decide) ?_
  refine az_aload_n C 0 dX1_setWords_5 rfl ?_
  refine az_getr (r := 1) C o21 fl_X1_29 rfl rfl dX1_setWords_6 ?_
  refine az_getr (r := 2) C o1 fl_X1_71 rfl rfl dX1_setWords_9 ?_
  refine az_bipush (v := 16) C dX1_setWords_12 (by decide) ?_
  refine az_ild (k := 16) C a2 (az_vin (by decide)) (by decide) dX1_setWords_14 ?_
  refine az_ist (k := 0) C a27 (az_vin (by decide)) (by decide) dX1_setWords_15 ?_
  refine az_aload_n C 0 dX1_setWords_16 rfl ?_
  refine az_getr (r := 27) C o21 fl_X1_25 rfl rfl dX1_setWords_17 ?_
  refine az_iconst (v := 1) C dX1_setWords_20 (by decide) ?_
  refine az_aload_n C 0 dX1_setWords_21 rfl ?_
  refine az_getr (r := 1) C o21 fl_X1_29 rfl rfl dX1_setWords_22 ?_
  refine az_getr (r := 2) C o1 fl_X1_71 rfl rfl dX1_setWords_25 ?_
  refine az_iconst (v := 0) C dX1_setWords_28 (by decide) ?_
  refine az_ild (k := 0) C a2 (az_vin (by decide)) (by decide) dX1_setWords_29 ?_
  refine az_ist (k := 1) C a27 (az_vin (by decide)) (by decide) dX1_setWords_30 ?_
  refine az_aload_n C 0 dX1_setWords_31 rfl ?_
  refine az_getr (r := 27) C o21 fl_X1_25 rfl rfl dX1_setWords_32 ?_
  refine az_iconst (v := 2) C dX1_setWords_35 (by decide) ?_
  refine az_aload_n C 0 dX1_setWords_36 rfl ?_
  refine az_getr (r := 1) C o21 fl_X1_29 rfl rfl dX1_setWords_37 ?_
  refine az_getr (r := 2) C o1 fl_X1_71 rfl rfl dX1_setWords_40 ?_
  refine az_iconst (v := 1) C dX1_setWords_43 (by decide) ?_
  refine az_ild (k := 1) C a2 (az_vin (by decide)) (by decide) dX1_setWords_44 ?_
  refine az_ist (k := 2) C a27 (az_vin (by decide)) (by decide) dX1_setWords_45 ?_
  refine az_aload_n C 0 dX1_setWords_46 rfl ?_
  refine az_getr (r := 27) C o21 fl_X1_25 rfl rfl dX1_setWords_47 ?_
  refine az_iconst (v := 3) C dX1_setWords_50 (by decide) ?_
  refine az_aload_n C 0 dX1_setWords_51 rfl ?_
  refine az_getr (r := 1) C o21 fl_X1_29 rfl rfl dX1_setWords_52 ?_
  refine az_getr (r := 2) C o1 fl_X1_71 rfl rfl dX1_setWords_55 ?_
  refine az_iconst (v := 2) C dX1_setWords_58 (by decide) ?_
  refine az_ild (k := 2) C a2 (az_vin (by decide)) (by decide) dX1_setWords_59 ?_
  refine az_ist (k := 3) C a27 (az_vin (by decide)) (by decide) dX1_setWords_60 ?_
  refine az_aload_n C 0 dX1_setWords_61 rfl ?_
  refine az_getr (r := 27) C o21 fl_X1_25 rfl rfl dX1_setWords_62 ?_
  refine az_iconst (v := 4) C dX1_setWords_65 (by decide) ?_
  refine az_aload_n C 0 dX1_setWords_66 rfl ?_
  refine az_geti C o21 fl_X1_101 rfl dX1_setWords_67 ?_
  refine az_ist (k := 4) C a27 (az_vin (by decide)) (by decide) dX1_setWords_70 ?_
  refine az_aload_n C 0 dX1_setWords_71 rfl ?_
  refine az_getr (r := 27) C o21 fl_X1_25 rfl rfl dX1_setWords_72 ?_
  refine az_iconst (v := 5) C dX1_setWords_75 (by decide) ?_
  refine az_aload_n C 0 dX1_setWords_76 rfl ?_
  refine az_geti C o21 fl_X1_104 rfl dX1_setWords_77 ?_
  refine az_ist (k := 5) C a27 (az_vin (by decide)) (by decide) dX1_setWords_80 ?_
  refine az_iconst (v := 0) C dX1_setWords_81 (by decide) ?_
  refine az_istore_n C dX1_setWords_82 rfl (by decide) rfl ?_
  refine az_sub [1, 0] rfl ?_
  exact s_X1_setWords_83 C G G 0 (az_i (az_i (az_i (az_i (az_i (az_i M 27 0 (M.1 2 16)) 27 1 ((az_i M 27 0 (M.1 2 16)).1 2 0)) 27 2 ((az_i (az_i M 27 0 (M.1 2 16)) 27 1 ((az_i M 27 0 (M.1 2 16)).1 2 0)).1 2 1)) 27 3 ((az_i (az_i (az_i M 27 0 (M.1 2 16)) 27 1 ((az_i M 27 0 (M.1 2 16)).1 2 0)) 27 2 ((az_i (az_i M 27 0 (M.1 2 16)) 27 1 ((az_i M 27 0 (M.1 2 16)).1 2 0)).1 2 1)).1 2 2)) 27 4 ((az_i (az_i (az_i (az_i M 27 0 (M.1 2 16)) 27 1 ((az_i M 27 0 (M.1 2 16)).1 2 0)) 27 2 ((az_i (az_i M 27 0 (M.1 2 16)) 27 1 ((az_i M 27 0 (M.1 2 16)).1 2 0)).1 2 1)) 27 3 ((az_i (az_i (az_i M 27 0 (M.1 2 16)) 27 1 ((az_i M 27 0 (M.1 2 16)).1 2 0)) 27 2 ((az_i (az_i M 27 0 (M.1 2 16)) 27 1 ((az_i M 27 0 (M.1 2 16)).1 2 0)).1 2 1)).1 2 2)).1 21 0)) 27 5 ((az_i (az_i (az_i (az_i (az_i M 27 0 (M.1 2 16)) 27 1 ((az_i M 27 0 (M.1 2 16)).1 2 0)) 27 2 ((az_i (az_i M 27 0 (M.1 2 16)) 27 1 ((az_i M 27 0 (M.1 2 16)).1 2 0)).1 2 1)) 27 3 ((az_i (az_i (az_i M 27 0 (M.1 2 16)) 27 1 ((az_i M 27 0 (M.1 2 16)).1 2 0)) 27 2 ((az_i (az_i M 27 0 (M.1 2 16)) 27 1 ((az_i M 27 0 (M.1 2 16)).1 2 0)).1 2 1)).1 2 2)) 27 4 ((az_i (az_i (az_i (az_i M 27 0 (M.1 2 16)) 27 1 ((az_i M 27 0 (M.1 2 16)).1 2 0)) 27 2 ((az_i (az_i M 27 0 (M.1 2 16)) 27 1 ((az_i M 27 0 (M.1 2 16)).1 2 0)).1 2 1)) 27 3 ((az_i (az_i (az_i M 27 0 (M.1 2 16)) 27 1 ((az_i M 27 0 (M.1 2 16)).1 2 0)) 27 2 ((az_i (az_i M 27 0 (M.1 2 16)) 27 1 ((az_i M 27 0 (M.1 2 16)).1 2 0)).1 2 1)).1 2 2)).1 21 0)).1 21 1)) r h hp
theorem c_X1_setWords {l : Launch} {V : az_V} (hL : az_L V) (G : Nat)  (M : az_M) {r : az_M} (h : f_X1_setWords G M = some r) : az_Ct l V yX1_setWords cX1_setWords 2 none 2 [.ref (az_ad V 21)] M (fun v M' => v = none ∧ M' = r) :=
  az_Ct.of (by decide) (Nat.le_of_ble_eq_true rfl) (fun Y _ _ C => s_X1_setWords_e C G M r h ⟨rfl, rfl⟩)
set_option maxHeartbeats 4000000 in
set_option maxRecDepth 100000 in
theorem s_X1_runClause_121 {Y : az_Y} {V : az_V} {post : Option Value → az_M → Prop} (C : az_C Y V cX1_runClause 9 RX1 (some .boolean) 7) (G : Nat) (a0 : Nat) (ha0 : az_tx V a0)  (M : az_M) (r : (Int32 × az_M)) (h : f_X1_runClause_121 (az_z V) G a0 M = some r) (hp : post (some (.int r.1)) r.2) : AW Y V (az_end Y V post) 9 M 121 [] [] := by
  unfold f_X1_runClause_121 at h
  refine az_iconst (v := 0) C dX1_runClause_121 (by decide) ?_
  obtain rfl := Option.some.inj h
  exact az_zret C dX1_runClause_122 rfl hp
set_option maxHeartbeats 4000000 in
set_option maxRecDepth 100000 in
theorem s_X1_runClause_200 {Y : az_Y} {V : az_V} {post : Option Value → az_M → Prop} (C : az_C Y V cX1_runClause 9 RX1 (some .boolean) 7) (G : Nat) (a0 : Nat) (ha0 : az_tx V a0) (K10 : (Int32 → Int32 → Int32 → az_M → Option (Int32 × az_M))) (hK10 : ∀ (x2 : Int32) (x3 : Int32) (x4 : Int32) (M : az_M) (r : (Int32 × az_M)), K10 x2 x3 x4 M = some r → post (some (.int r.1)) r.2 → AW Y V (az_end Y V post) 9 M 10 [(0, .ref (az_ad V 21)), (1, .ref (az_ad V a0)), (2, .int x2), (3, .int x3), (4, .int x4)] []) (x2 : Int32) (x3 : Int32) (x4 : Int32) (M : az_M) (r : (Int32 × az_M)) (h : f_X1_runClause_200 (az_z V) G a0 K10 x2 x3 x4 M = some r) (hp : post (some (.int r.1)) r.2) : AW Y V (az_end Y V post) 9 M 200 [(0, .ref (az_ad V 21)), (1, .ref (az_ad V a0)), (2, .int x2), (3, .int x3), (4, .int x4)] [] := by
  unfold f_X1_runClause_200 at h
  refine az_iinc (v := (x4 + 1)) C 4 dX1_runClause_200 rfl rfl (by decide) rfl ?_
  refine az_goto C 10 dX1_runClause_203 (by decide) ?_
  refine az_sub [1, 2, 3, 4, 0] rfl ?_
  exact hK10 x2 x3 (x4 + 1) M r h hp
set_option maxHeartbeats 4000000 in
set_option maxRecDepth 100000 in
theorem s_X1_runClause_187 {Y : az_Y} {V : az_V} {post : Option Value → az_M → Prop} (C : az_C Y V cX1_runClause 9 RX1 (some .boolean) 7) (G : Nat) (a0 : Nat) (ha0 : az_tx V a0) (K10 : (Int32 → Int32 → Int32 → az_M → Option (Int32 × az_M))) (hK10 : ∀ (x2 : Int32) (x3 : Int32) (x4 : Int32) (M : az_M) (r : (Int32 × az_M)), K10 x2 x3 x4 M = some r → post (some (.int r.1)) r.2 → AW Y V (az_end Y V post) 9 M 10 [(0, .ref (az_ad V 21)), (1, .ref (az_ad V a0)), (2, .int x2), (3, .int x3), (4, .int x4)] []) (x2 : Int32) (x3 : Int32) (x4 : Int32) (s0 : Int32) (M : az_M) (r : (Int32 × az_M)) (h : f_X1_runClause_187 (az_z V) G a0 K10 x2 x3 x4 s0 M = some r) (hp : post (some (.int r.1)) r.2) : AW Y V (az_end Y V post) 9 M 187 [(0, .ref (az_ad V 21)), (1, .ref (az_ad V a0)), (2, .int x2), (3, .int x3), (4, .int x4)] [.int s0, .ref (az_ad V 21)] := by
  have o21 := C.hL.at 21 (ci := 1) rfl
  unfold f_X1_runClause_187 at h
  refine az_puti C o21 fl_X1_104 rfl rfl rfl rfl dX1_runClause_187 ?_
  refine az_aload_n C 0 dX1_runClause_190 rfl ?_
  refine az_dup C dX1_runClause_191 rfl ?_
  refine az_geti C o21 fl_X1_101 rfl dX1_runClause_192 ?_
  refine az_iconst (v := 1) C dX1_runClause_195 (by decide) ?_
  refine az_iadd C dX1_runClause_196 ?_
  refine az_puti C o21 fl_X1_101 rfl rfl rfl rfl dX1_runClause_197 ?_
  exact s_X1_runClause_200 C G a0 ha0 K10 hK10 x2 x3 x4 (az_i (az_i M 21 1 s0) 21 0 (((az_i M 21 1 s0).1 21 0) + 1)) r h hp
set_option maxHeartbeats 4000000 in
set_option maxRecDepth 100000 in
theorem s_X1_runClause_162 {Y : az_Y} {V : az_V} {post : Option Value → az_M → Prop} (C : az_C Y V cX1_runClause 9 RX1 (some .boolean) 7) (G : Nat) (a0 : Nat) (ha0 : az_tx V a0) (K10 : (Int32 → Int32 → Int32 → az_M → Option (Int32 × az_M))) (hK10 : ∀ (x2 : Int32) (x3 : Int32) (x4 : Int32) (M : az_M) (r : (Int32 × az_M)), K10 x2 x3 x4 M = some r → post (some (.int r.1)) r.2 → AW Y V (az_end Y V post) 9 M 10 [(0, .ref (az_ad V 21)), (1, .ref (az_ad V a0)), (2, .int x2), (3, .int x3), (4, .int x4)] []) (x2 : Int32) (x3 : Int32) (x4 : Int32) (x5 : Int32) (s0 : Int32) (M : az_M) (r : (Int32 × az_M)) (h : f_X1_runClause_162 (az_z V) G a0 K10 x2 x3 x4 x5 s0 M = some r) (hp : post (some (.int r.1)) r.2) : AW Y V (az_end Y V post) 9 M 162 [(0, .ref (az_ad V 21)), (1, .ref (az_ad V a0)), (2, .int x2), (3, .int x3), (4, .int x4), (5, .int x5)] [.int s0] := by
  have o21 := C.hL.at 21 (ci := 1) rfl
  unfold f_X1_runClause_162 at h
  refine az_istore C dX1_runClause_162 (by decide) rfl ?_
  refine az_iload C 0 dX1_runClause_164 rfl ?_
  refine az_if_ge C 171 dX1_runClause_166 (by decide) (fun c37 => ?_) (fun c37 => ?_)
  · have h := az_t c37 h
    refine az_aload_n C 1 dX1_runClause_171 rfl ?_
    refine az_iload C 6 dX1_runClause_172 rfl ?_
    refine az_iconst (v := 1) C dX1_runClause_174 (by decide) ?_
    refine az_icmp_ne C 183 dX1_runClause_175 (by decide) (fun c38 => ?_) (fun c38 => ?_)
    · have h := az_f c38 h
      refine az_aload_n C 1 dX1_runClause_183 rfl ?_
      refine az_geti C o21 fl_X1_104 rfl dX1_runClause_184 ?_
      refine az_sub [1, 2, 3, 4, 5] rfl ?_
      exact s_X1_runClause_187 C G a0 ha0 K10 hK10 x2 x3 x4 (M.1 21 1) M r h hp
    · have h := az_t c38 h
      refine az_iload C 0 dX1_runClause_178 rfl ?_
      refine az_goto C 187 dX1_runClause_180 (by decide) ?_
      refine az_sub [1, 2, 3, 4, 5] rfl ?_
      exact s_X1_runClause_187 C G a0 ha0 K10 hK10 x2 x3 x4 s0 M r h hp
  · have h := az_f c37 h
    refine az_iconst (v := 0) C dX1_runClause_169 (by decide) ?_
    obtain rfl := Option.some.inj h
    exact az_zret C dX1_runClause_170 rfl hp
set_option maxHeartbeats 4000000 in
set_option maxRecDepth 100000 in
theorem s_X1_runClause_10 {Y : az_Y} {V : az_V} {post : Option Value → az_M → Prop} (C : az_C Y V cX1_runClause 9 RX1 (some .boolean) 7) (G : Nat) (a0 : Nat) (ha0 : az_tx V a0) : ∀ (F : Nat) (x2 : Int32) (x3 : Int32) (x4 : Int32) (M : az_M) (r : (Int32 × az_M)), f_X1_runClause_10 (az_z V) G a0 F x2 x3 x4 M = some r → post (some (.int r.1)) r.2 → AW Y V (az_end Y V post) 9 M 10 [(0, .ref (az_ad V 21)), (1, .ref (az_ad V a0)), (2, .int x2), (3, .int x3), (4, .int x4)] [] := by
  have o13 := C.hL.at 13 (ci := 6) rfl
  have o21 := C.hL.at 21 (ci := 1) rfl
  intro F
  induction F with
  | zero =>
    intro x2 x3 x4 M r h
    exact absurd (show (none : Option (Int32 × az_M)) = some r from h) (fun q => by cases q)
  | succ F ih =>
    intro x2 x3 x4 M r h hp
    rw [f_X1_runClause_10] at h
    refine az_iload C 4 dX1_runClause_10 rfl ?_
    refine az_iload_n C 3 dX1_runClause_12 rfl ?_
    refine az_icmp_ge C 206 dX1_runClause_13 (by decide) (fun c3 => ?_) (fun c3 => ?_)
    · have h := az_t c3 h
      refine az_iconst (v := 1) C dX1_runClause_206 (by decide) ?_
      obtain rfl := Option.some.inj h
      exact az_zret C dX1_runClause_207 rfl hp
    · have h := az_f c3 h
      refine az_aload_n C 0 dX1_runClause_16 rfl ?_
      obtain ⟨q4, e5, h⟩ := az_b h
      refine az_cV (rest := []) (st2 := []) C [] (c_X1_setWords C.hL G M e5) (by decide) li_X1_113 o21 (by decide) rfl rfl (Nat.le_of_ble_eq_true rfl) dX1_runClause_17 rfl ?_
      refine az_aload_n C 0 dX1_runClause_20 rfl ?_
      refine az_getr (r := 13) C o21 fl_X1_39 rfl rfl dX1_runClause_21 ?_
      refine az_aload_n C 1 dX1_runClause_24 rfl ?_
      refine az_aload_n C 1 dX1_runClause_25 rfl ?_
      refine az_iload_n C 2 dX1_runClause_26 rfl ?_
      refine az_iconst (v := 4) C dX1_runClause_27 (by decide) ?_
      obtain ⟨q6, e7, h⟩ := az_b h
      refine az_cV (rest := [.ref (az_ad V a0), .ref (az_ad V 13)]) (st2 := [.int q6, .ref (az_ad V a0), .ref (az_ad V 13)]) C [.int x2, .int 4] (c_X10_get C.hL a0 ha0 x2 4 q4 e7) (by decide) li_X1_107 ha0.1 (by decide) rfl rfl (Nat.le_of_ble_eq_true rfl) dX1_runClause_28 rfl ?_
      refine az_aload_n C 1 dX1_runClause_31 rfl ?_
      refine az_iload_n C 2 dX1_runClause_32 rfl ?_
      refine az_iconst (v := 5) C dX1_runClause_33 (by decide) ?_
      obtain ⟨q8, e9, h⟩ := az_b h
      refine az_cV (rest := [.int q6, .ref (az_ad V a0), .ref (az_ad V 13)]) (st2 := [.int q8, .int q6, .ref (az_ad V a0), .ref (az_ad V 13)]) C [.int x2, .int 5] (c_X10_get C.hL a0 ha0 x2 5 q4 e9) (by decide) li_X1_107 ha0.1 (by decide) rfl rfl (Nat.le_of_ble_eq_true rfl) dX1_runClause_34 rfl ?_
      refine az_aload_n C 0 dX1_runClause_37 rfl ?_
      refine az_getr (r := 27) C o21 fl_X1_25 rfl rfl dX1_runClause_38 ?_
      obtain ⟨q10, e11, h⟩ := az_b h
      refine az_cV (rest := []) (st2 := [.int q10.1]) C [.ref (az_ad V a0), .int q6, .int q8, .ref (az_ad V 27)] (c_X6_reckon C.hL G a0 ha0 27 (C.hL.ai 27 rfl) q6 q8 q4 e11) (by decide) li_X1_116 o13 (by decide) rfl rfl (Nat.le_of_ble_eq_true rfl) dX1_runClause_41 rfl ?_
      refine az_if_le C 200 dX1_runClause_44 (by decide) (fun c12 => ?_) (fun c12 => ?_)
      · have h := az_t c12 h
        exact s_X1_runClause_200 C G a0 ha0 (f_X1_runClause_10 (az_z V) G a0 F) ih x2 x3 x4 q10.2 r h hp
      · have h := az_f c12 h
        refine az_aload_n C 1 dX1_runClause_47 rfl ?_
        refine az_iload_n C 2 dX1_runClause_48 rfl ?_
        refine az_iconst (v := 0) C dX1_runClause_49 (by decide) ?_
        obtain ⟨q13, e14, h⟩ := az_b h
        refine az_cV (rest := []) (st2 := [.int q13]) C [.int x2, .int 0] (c_X10_get C.hL a0 ha0 x2 0 q10.2 e14) (by decide) li_X1_107 ha0.1 (by decide) rfl rfl (Nat.le_of_ble_eq_true rfl) dX1_runClause_50 rfl ?_
        refine az_istore C dX1_runClause_53 (by decide) rfl ?_
        refine az_aload_n C 1 dX1_runClause_55 rfl ?_
        refine az_getr (r := 13) C o21 fl_X1_39 rfl rfl dX1_runClause_56 ?_
        refine az_aload_n C 2 dX1_runClause_59 rfl ?_
        refine az_aload_n C 2 dX1_runClause_60 rfl ?_
        refine az_iload_n C 3 dX1_runClause_61 rfl ?_
        refine az_iconst (v := 2) C dX1_runClause_62 (by decide) ?_
        obtain ⟨q15, e16, h⟩ := az_b h
        refine az_cV (rest := [.ref (az_ad V a0), .ref (az_ad V 13)]) (st2 := [.int q15, .ref (az_ad V a0), .ref (az_ad V 13)]) C [.int x2, .int 2] (c_X10_get C.hL a0 ha0 x2 2 q10.2 e16) (by decide) li_X1_107 ha0.1 (by decide) rfl rfl (Nat.le_of_ble_eq_true rfl) dX1_runClause_63 rfl ?_
        refine az_aload_n C 2 dX1_runClause_66 rfl ?_
        refine az_iload_n C 3 dX1_runClause_67 rfl ?_
        refine az_iconst (v := 3) C dX1_runClause_68 (by decide) ?_
        obtain ⟨q17, e18, h⟩ := az_b h
        refine az_cV (rest := [.int q15, .ref (az_ad V a0), .ref (az_ad V 13)]) (st2 := [.int q17, .int q15, .ref (az_ad V a0), .ref (az_ad V 13)]) C [.int x2, .int 3] (c_X10_get C.hL a0 ha0 x2 3 q10.2 e18) (by decide) li_X1_107 ha0.1 (by decide) rfl rfl (Nat.le_of_ble_eq_true rfl) dX1_runClause_69 rfl ?_
        refine az_aload_n C 1 dX1_runClause_72 rfl ?_
        refine az_getr (r := 27) C o21 fl_X1_25 rfl rfl dX1_runClause_73 ?_
        obtain ⟨q19, e20, h⟩ := az_b h
        refine az_cV (rest := []) (st2 := [.int q19.1]) C [.ref (az_ad V a0), .int q15, .int q17, .ref (az_ad V 27)] (c_X6_reckon C.hL G a0 ha0 27 (C.hL.ai 27 rfl) q15 q17 q10.2 e20) (by decide) li_X1_116 o13 (by decide) rfl rfl (Nat.le_of_ble_eq_true rfl) dX1_runClause_76 rfl ?_
        refine az_istore C dX1_runClause_79 (by decide) rfl ?_
        refine az_aload_n C 2 dX1_runClause_81 rfl ?_
        refine az_getr (r := 13) C o21 fl_X1_39 rfl rfl dX1_runClause_82 ?_
        refine az_aload_n C 3 dX1_runClause_85 rfl ?_
        refine az_aload_n C 3 dX1_runClause_86 rfl ?_
        refine az_iload_n C 4 dX1_runClause_87 rfl ?_
        refine az_iconst (v := 3) C dX1_runClause_88 (by decide) ?_
        obtain ⟨q21, e22, h⟩ := az_b h
        refine az_cV (rest := [.ref (az_ad V a0), .ref (az_ad V 13)]) (st2 := [.int q21, .ref (az_ad V a0), .ref (az_ad V 13)]) C [.int x2, .int 3] (c_X10_get C.hL a0 ha0 x2 3 q19.2 e22) (by decide) li_X1_107 ha0.1 (by decide) rfl rfl (Nat.le_of_ble_eq_true rfl) dX1_runClause_89 rfl ?_
        refine az_aload_n C 3 dX1_runClause_92 rfl ?_
        refine az_iload_n C 4 dX1_runClause_93 rfl ?_
        refine az_iconst (v := 4) C dX1_runClause_94 (by decide) ?_
        obtain ⟨q23, e24, h⟩ := az_b h
        refine az_cV (rest := [.int q21, .ref (az_ad V a0), .ref (az_ad V 13)]) (st2 := [.int q23, .int q21, .ref (az_ad V a0), .ref (az_ad V 13)]) C [.int x2, .int 4] (c_X10_get C.hL a0 ha0 x2 4 q19.2 e24) (by decide) li_X1_107 ha0.1 (by decide) rfl rfl (Nat.le_of_ble_eq_true rfl) dX1_runClause_95 rfl ?_
        refine az_aload_n C 2 dX1_runClause_98 rfl ?_
        refine az_getr (r := 27) C o21 fl_X1_25 rfl rfl dX1_runClause_99 ?_
        obtain ⟨q25, e26, h⟩ := az_b h
        refine az_cV (rest := []) (st2 := [.int q25.1]) C [.ref (az_ad V a0), .int q21, .int q23, .ref (az_ad V 27)] (c_X6_reckon C.hL G a0 ha0 27 (C.hL.ai 27 rfl) q21 q23 q19.2 e26) (by decide) li_X1_116 o13 (by decide) rfl rfl (Nat.le_of_ble_eq_true rfl) dX1_runClause_102 rfl ?_
        refine az_istore C dX1_runClause_105 (by decide) rfl ?_
        refine az_iload C 1 dX1_runClause_107 rfl ?_
        refine az_ldc C ck_X1_122 dX1_runClause_109 ?_
        refine az_icmp_eq C 121 dX1_runClause_111 (by decide) (fun c27 => ?_) (fun c27 => ?_)
        · have h := az_t c27 h
          refine az_sub [] rfl ?_
          exact s_X1_runClause_121 C G a0 ha0 q25.2 r h hp
        · have h := az_f c27 h
          refine az_iload C 0 dX1_runClause_114 rfl ?_
          refine az_ldc C ck_X1_122 dX1_runClause_116 ?_
          refine az_icmp_ne C 123 dX1_runClause_118 (by decide) (fun c28 => ?_) (fun c28 => ?_)
          · have h := az_f c28 h
            refine az_iload C 2 dX1_runClause_123 rfl ?_
            refine az_if_ne C 139 dX1_runClause_125 (by decide) (fun c29 => ?_) (fun c29 => ?_)
            · have h := az_f c29 h
              refine az_iload C 2 dX1_runClause_139 rfl ?_
              refine az_iconst (v := 1) C dX1_runClause_141 (by decide) ?_
              refine az_icmp_ne C 156 dX1_runClause_142 (by decide) (fun c30 => ?_) (fun c30 => ?_)
              · have h := az_f c30 h
                refine az_aload_n C 3 dX1_runClause_156 rfl ?_
                refine az_iload C 1 dX1_runClause_157 rfl ?_
                obtain ⟨q31, e32, h⟩ := az_b h
                refine az_cV (rest := []) (st2 := [.int q31.1]) C [.int q19.1] (c_X1_tryRest C.hL q19.1 q25.2 e32) (by decide) li_X1_129 o21 (by decide) rfl rfl (Nat.le_of_ble_eq_true rfl) dX1_runClause_159 rfl ?_
                refine az_sub [3, 4, 5, 6, 7, 2] rfl ?_
                exact s_X1_runClause_162 C G a0 ha0 (f_X1_runClause_10 (az_z V) G a0 F) ih x2 x3 x4 q13 q31.1 q31.2 r h hp
              · have h := az_t c30 h
                refine az_aload_n C 3 dX1_runClause_145 rfl ?_
                refine az_iload C 1 dX1_runClause_146 rfl ?_
                refine az_iload C 0 dX1_runClause_148 rfl ?_
                obtain ⟨q33, e34, h⟩ := az_b h
                refine az_cV (rest := []) (st2 := [.int q33.1]) C [.int q19.1, .int q25.1] (c_X1_tryDuel C.hL G q19.1 q25.1 q25.2 e34) (by decide) li_X1_126 o21 (by decide) rfl rfl (Nat.le_of_ble_eq_true rfl) dX1_runClause_150 rfl ?_
                refine az_goto C 162 dX1_runClause_153 (by decide) ?_
                refine az_sub [3, 4, 5, 6, 7, 2] rfl ?_
                exact s_X1_runClause_162 C G a0 ha0 (f_X1_runClause_10 (az_z V) G a0 F) ih x2 x3 x4 q13 q33.1 q33.2 r h hp
            · have h := az_t c29 h
              refine az_aload_n C 3 dX1_runClause_128 rfl ?_
              refine az_iload C 1 dX1_runClause_129 rfl ?_
              refine az_iload C 0 dX1_runClause_131 rfl ?_
              obtain ⟨q35, e36, h⟩ := az_b h
              refine az_cV (rest := []) (st2 := [.int q35.1]) C [.int q19.1, .int q25.1] (c_X1_tryFire C.hL G q19.1 q25.1 q25.2 e36) (by decide) li_X1_123 o21 (by decide) rfl rfl (Nat.le_of_ble_eq_true rfl) dX1_runClause_133 rfl ?_
              refine az_goto C 162 dX1_runClause_136 (by decide) ?_
              refine az_sub [3, 4, 5, 6, 7, 2] rfl ?_
              exact s_X1_runClause_162 C G a0 ha0 (f_X1_runClause_10 (az_z V) G a0 F) ih x2 x3 x4 q13 q35.1 q35.2 r h hp
          · have h := az_t c28 h
            refine az_sub [] rfl ?_
            exact s_X1_runClause_121 C G a0 ha0 q25.2 r h hp
set_option maxHeartbeats 4000000 in
set_option maxRecDepth 100000 in
theorem s_X1_runClause_e {Y : az_Y} {V : az_V} {post : Option Value → az_M → Prop} (C : az_C Y V cX1_runClause 9 RX1 (some .boolean) 7) (G : Nat) (a0 : Nat) (ha0 : az_tx V a0) (p1 : Int32) (M : az_M) (r : (Int32 × az_M)) (h : f_X1_runClause (az_z V) G a0 p1 M = some r) (hp : post (some (.int r.1)) r.2) : AW Y V (az_end Y V post) 9 M 0 [(0, .ref (az_ad V 21)), (1, .ref (az_ad V a0)), (2, .int p1)] [] := by
  unfold f_X1_runClause at h
  refine az_aload_n C 1 dX1_runClause_0 rfl ?_
  refine az_iload_n C 2 dX1_runClause_1 rfl ?_
  refine az_iconst (v := 1) C dX1_runClause_2 (by decide) ?_
  obtain ⟨q1, e2, h⟩ := az_b h
  refine az_cV (rest := []) (st2 := [.int q1]) C [.int p1, .int 1] (c_X10_get C.hL a0 ha0 p1 1 M e2) (by decide) li_X1_107 ha0.1 (by decide) rfl rfl (Nat.le_of_ble_eq_true rfl) dX1_runClause_3 rfl ?_
  refine az_istore_n C dX1_runClause_6 rfl (by decide) rfl ?_
  refine az_iconst (v := 0) C dX1_runClause_7 (by decide) ?_
  refine az_istore C dX1_runClause_8 (by decide) rfl ?_
  refine az_sub [2, 3, 4, 1, 0] rfl ?_
  exact s_X1_runClause_10 C G a0 ha0 G p1 q1 0 M r h hp
theorem c_X1_runClause {l : Launch} {V : az_V} (hL : az_L V) (G : Nat) (a0 : Nat) (ha0 : az_tx V a0) (p1 : Int32) (M : az_M) {r : (Int32 × az_M)} (h : f_X1_runClause (az_z V) G a0 p1 M = some r) : az_Ct l V yX1_runClause cX1_runClause 9 (some .boolean) 7 [.ref (az_ad V 21), .ref (az_ad V a0), .int p1] M (fun v M' => v = some (.int r.1) ∧ M' = r.2) :=
  az_Ct.of (by decide) (Nat.le_of_ble_eq_true rfl) (fun Y _ _ C => s_X1_runClause_e C G a0 ha0 p1 M r h ⟨rfl, rfl⟩)
