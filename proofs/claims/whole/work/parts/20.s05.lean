set_option maxHeartbeats 4000000 in
set_option maxRecDepth 100000 in
theorem s_X12_duelNow_e {Y : az_Y} {V : az_V} {post : Option Value → az_M → Prop} (C : az_C Y V cX12_duelNow 3 RX12 (some .int) 9) (G : Nat) (p0 : Int32) (p1 : Int32) (M : az_M) (r : (Int32 × az_M)) (h : f_X12_duelNow G p0 p1 M = some r) (hp : post (some (.int r.1)) r.2) : AW Y V (az_end Y V post) 3 M 0 [(0, .ref (az_ad V 40)), (1, .int p0), (2, .int p1)] [] := by
  have o40 := C.hL.at 40 (ci := 12) rfl
  unfold f_X12_duelNow at h
  refine az_iload_n C 2 dX12_duelNow_0 rfl ?_
  refine az_i2l C dX12_duelNow_1 ?_
  refine az_lconst (v := 0) C dX12_duelNow_2 (by decide) ?_
  refine az_ldc2 C ck_X12_299 dX12_duelNow_3 ?_
  obtain ⟨q1, e2, h⟩ := az_b h
  refine az_cS (rest := []) (st2 := [.int q1]) C [.long p1.toInt64, .long 0, .long 1000000] (c_X12_in C.hL p1.toInt64 0 1000000 M e2) (by decide) li_X12_169 rfl rfl (Nat.le_of_ble_eq_true rfl) dX12_duelNow_6 rfl ?_
  refine az_if_ne C 14 dX12_duelNow_9 (by decide) (fun c3 => ?_) (fun c3 => ?_)
  · have h := az_f c3 h
    refine az_aload_n C 0 dX12_duelNow_14 rfl ?_
    refine az_iload_n C 1 dX12_duelNow_15 rfl ?_
    obtain ⟨q4, e5, h⟩ := az_b h
    refine az_cV (rest := []) (st2 := [.int q4]) C [.int p0] (c_X12_isQuarrel C.hL p0 M e5) (by decide) li_X12_245 o40 (by decide) rfl rfl (Nat.le_of_ble_eq_true rfl) dX12_duelNow_16 rfl ?_
    refine az_if_ne C 25 dX12_duelNow_19 (by decide) (fun c6 => ?_) (fun c6 => ?_)
    · have h := az_f c6 h
      refine az_aload_n C 0 dX12_duelNow_25 rfl ?_
      refine az_iload_n C 1 dX12_duelNow_26 rfl ?_
      obtain ⟨q7, e8, h⟩ := az_b h
      refine az_cV (rest := []) (st2 := [.int q7.1]) C [.int p0] (c_X12_canHave C.hL G p0 M e8) (by decide) li_X12_250 o40 (by decide) rfl rfl (Nat.le_of_ble_eq_true rfl) dX12_duelNow_27 rfl ?_
      refine az_if_ne C 36 dX12_duelNow_30 (by decide) (fun c9 => ?_) (fun c9 => ?_)
      · have h := az_f c9 h
        refine az_aload_n C 0 dX12_duelNow_36 rfl ?_
        refine az_iconst (v := 1) C dX12_duelNow_37 (by decide) ?_
        obtain ⟨q10, e11, h⟩ := az_b h
        refine az_cV (rest := []) (st2 := []) C [.int 1] (c_X12_remember C.hL G 1 q7.2 e11) (by decide) li_X12_457 o40 (by decide) rfl rfl (Nat.le_of_ble_eq_true rfl) dX12_duelNow_38 rfl ?_
        refine az_aload_n C 0 dX12_duelNow_41 rfl ?_
        refine az_iload_n C 2 dX12_duelNow_42 rfl ?_
        refine az_i2l C dX12_duelNow_43 ?_
        refine az_putl C o40 fl_X12_466 rfl rfl rfl rfl dX12_duelNow_44 ?_
        refine az_aload_n C 0 dX12_duelNow_47 rfl ?_
        refine az_iload_n C 1 dX12_duelNow_48 rfl ?_
        obtain ⟨q12, e13, h⟩ := az_b h
        refine az_cV (rest := []) (st2 := [.int q12.1]) C [.int p0] (c_X12_have C.hL G p0 (az_l q10 40 41 p1.toInt64) e13) (by decide) li_X12_481 o40 (by decide) rfl rfl (Nat.le_of_ble_eq_true rfl) dX12_duelNow_49 rfl ?_
        obtain rfl := Option.some.inj h
        exact az_iret C dX12_duelNow_52 hp
      · have h := az_t c9 h
        refine az_bipush (v := (-3)) C dX12_duelNow_33 (by decide) ?_
        obtain rfl := Option.some.inj h
        exact az_iret C dX12_duelNow_35 hp
    · have h := az_t c6 h
      refine az_bipush (v := (-2)) C dX12_duelNow_22 (by decide) ?_
      obtain rfl := Option.some.inj h
      exact az_iret C dX12_duelNow_24 hp
  · have h := az_t c3 h
    refine az_iconst (v := (-1)) C dX12_duelNow_12 (by decide) ?_
    obtain rfl := Option.some.inj h
    exact az_iret C dX12_duelNow_13 hp
theorem c_X12_duelNow {l : Launch} {V : az_V} (hL : az_L V) (G : Nat) (p0 : Int32) (p1 : Int32) (M : az_M) {r : (Int32 × az_M)} (h : f_X12_duelNow G p0 p1 M = some r) : az_Ct l V yX12_duelNow cX12_duelNow 3 (some .int) 9 [.ref (az_ad V 40), .int p0, .int p1] M (fun v M' => v = some (.int r.1) ∧ M' = r.2) :=
  az_Ct.of (by decide) (Nat.le_of_ble_eq_true rfl) (fun Y _ _ C => s_X12_duelNow_e C G p0 p1 M r h ⟨rfl, rfl⟩)
set_option maxHeartbeats 4000000 in
set_option maxRecDepth 100000 in
theorem s_X12_duel_e {Y : az_Y} {V : az_V} {post : Option Value → az_M → Prop} (C : az_C Y V cX12_duel 3 RX12 (some .int) 10) (G : Nat) (p0 : Int32) (p1 : Int32) (M : az_M) (r : (Int32 × az_M)) (h : f_X12_duel G p0 p1 M = some r) (hp : post (some (.int r.1)) r.2) : AW Y V (az_end Y V post) 3 M 0 [(0, .ref (az_ad V 40)), (1, .int p0), (2, .int p1)] [] := by
  have o40 := C.hL.at 40 (ci := 12) rfl
  unfold f_X12_duel at h
  refine az_aload_n C 0 dX12_duel_0 rfl ?_
  refine az_iconst (v := 0) C dX12_duel_1 (by decide) ?_
  refine az_puti C o40 fl_X12_149 rfl rfl rfl rfl dX12_duel_2 ?_
  refine az_aload_n C 0 dX12_duel_5 rfl ?_
  refine az_aload_n C 0 dX12_duel_6 rfl ?_
  refine az_iload_n C 1 dX12_duel_7 rfl ?_
  refine az_iload_n C 2 dX12_duel_8 rfl ?_
  obtain ⟨q1, e2, h⟩ := az_b h
  refine az_cV (rest := [.ref (az_ad V 40)]) (st2 := [.int q1.1, .ref (az_ad V 40)]) C [.int p0, .int p1] (c_X12_duelNow C.hL G p0 p1 (az_i M 40 0 0) e2) (by decide) li_X12_484 o40 (by decide) rfl rfl (Nat.le_of_ble_eq_true rfl) dX12_duel_9 rfl ?_
  obtain ⟨q3, e4, h⟩ := az_b h
  refine az_cV (rest := []) (st2 := [.int q3.1]) C [.int q1.1] (c_X12_tell C.hL q1.1 q1.2 e4) (by decide) li_X12_158 o40 (by decide) rfl rfl (Nat.le_of_ble_eq_true rfl) dX12_duel_12 rfl ?_
  obtain rfl := Option.some.inj h
  exact az_iret C dX12_duel_15 hp
theorem c_X12_duel {l : Launch} {V : az_V} (hL : az_L V) (G : Nat) (p0 : Int32) (p1 : Int32) (M : az_M) {r : (Int32 × az_M)} (h : f_X12_duel G p0 p1 M = some r) : az_Ct l V yX12_duel cX12_duel 3 (some .int) 10 [.ref (az_ad V 40), .int p0, .int p1] M (fun v M' => v = some (.int r.1) ∧ M' = r.2) :=
  az_Ct.of (by decide) (Nat.le_of_ble_eq_true rfl) (fun Y _ _ C => s_X12_duel_e C G p0 p1 M r h ⟨rfl, rfl⟩)
set_option maxHeartbeats 4000000 in
set_option maxRecDepth 100000 in
theorem s_X12_restNow_e {Y : az_Y} {V : az_V} {post : Option Value → az_M → Prop} (C : az_C Y V cX12_restNow 2 RX12 (some .int) 3) (G : Nat) (p0 : Int32) (M : az_M) (r : (Int32 × az_M)) (h : f_X12_restNow G p0 M = some r) (hp : post (some (.int r.1)) r.2) : AW Y V (az_end Y V post) 2 M 0 [(0, .ref (az_ad V 40)), (1, .int p0)] [] := by
  have o40 := C.hL.at 40 (ci := 12) rfl
  unfold f_X12_restNow at h
  refine az_iload_n C 1 dX12_restNow_0 rfl ?_
  refine az_i2l C dX12_restNow_1 ?_
  refine az_lconst (v := 1) C dX12_restNow_2 (by decide) ?_
  refine az_ldc2 C ck_X12_180 dX12_restNow_3 ?_
  obtain ⟨q1, e2, h⟩ := az_b h
  refine az_cS (rest := []) (st2 := [.int q1]) C [.long p0.toInt64, .long 1, .long 99] (c_X12_in C.hL p0.toInt64 1 99 M e2) (by decide) li_X12_169 rfl rfl (Nat.le_of_ble_eq_true rfl) dX12_restNow_6 rfl ?_
  refine az_if_ne C 14 dX12_restNow_9 (by decide) (fun c3 => ?_) (fun c3 => ?_)
  · have h := az_f c3 h
    refine az_aload_n C 0 dX12_restNow_14 rfl ?_
    refine az_iconst (v := 2) C dX12_restNow_15 (by decide) ?_
    obtain ⟨q4, e5, h⟩ := az_b h
    refine az_cV (rest := []) (st2 := []) C [.int 2] (c_X12_remember C.hL G 2 M e5) (by decide) li_X12_457 o40 (by decide) rfl rfl (Nat.le_of_ble_eq_true rfl) dX12_restNow_16 rfl ?_
    refine az_aload_n C 0 dX12_restNow_19 rfl ?_
    refine az_iload_n C 1 dX12_restNow_20 rfl ?_
    obtain ⟨q6, e7, h⟩ := az_b h
    refine az_cV (rest := []) (st2 := []) C [.int p0] (c_X12_goDays C.hL p0 q4 e7) (by decide) li_X12_454 o40 (by decide) rfl rfl (Nat.le_of_ble_eq_true rfl) dX12_restNow_21 rfl ?_
    refine az_aload_n C 0 dX12_restNow_24 rfl ?_
    refine az_iconst (v := 0) C dX12_restNow_25 (by decide) ?_
    obtain ⟨q8, e9, h⟩ := az_b h
    refine az_cV (rest := []) (st2 := [.int q8]) C [.int 0] (c_X12_term C.hL 0 q6 e9) (by decide) li_X12_189 o40 (by decide) rfl rfl (Nat.le_of_ble_eq_true rfl) dX12_restNow_26 rfl ?_
    obtain rfl := Option.some.inj h
    exact az_iret C dX12_restNow_29 hp
  · have h := az_t c3 h
    refine az_iconst (v := (-1)) C dX12_restNow_12 (by decide) ?_
    obtain rfl := Option.some.inj h
    exact az_iret C dX12_restNow_13 hp
theorem c_X12_restNow {l : Launch} {V : az_V} (hL : az_L V) (G : Nat) (p0 : Int32) (M : az_M) {r : (Int32 × az_M)} (h : f_X12_restNow G p0 M = some r) : az_Ct l V yX12_restNow cX12_restNow 2 (some .int) 3 [.ref (az_ad V 40), .int p0] M (fun v M' => v = some (.int r.1) ∧ M' = r.2) :=
  az_Ct.of (by decide) (Nat.le_of_ble_eq_true rfl) (fun Y _ _ C => s_X12_restNow_e C G p0 M r h ⟨rfl, rfl⟩)
set_option maxHeartbeats 4000000 in
set_option maxRecDepth 100000 in
theorem s_X12_rest_e {Y : az_Y} {V : az_V} {post : Option Value → az_M → Prop} (C : az_C Y V cX12_rest 2 RX12 (some .int) 4) (G : Nat) (p0 : Int32) (M : az_M) (r : (Int32 × az_M)) (h : f_X12_rest G p0 M = some r) (hp : post (some (.int r.1)) r.2) : AW Y V (az_end Y V post) 2 M 0 [(0, .ref (az_ad V 40)), (1, .int p0)] [] := by
  have o40 := C.hL.at 40 (ci := 12) rfl
  unfold f_X12_rest at h
  refine az_aload_n C 0 dX12_rest_0 rfl ?_
  refine az_iconst (v := 0) C dX12_rest_1 (by decide) ?_
  refine az_puti C o40 fl_X12_149 rfl rfl rfl rfl dX12_rest_2 ?_
  refine az_aload_n C 0 dX12_rest_5 rfl ?_
  refine az_aload_n C 0 dX12_rest_6 rfl ?_
  refine az_iload_n C 1 dX12_rest_7 rfl ?_
  obtain ⟨q1, e2, h⟩ := az_b h
  refine az_cV (rest := [.ref (az_ad V 40)]) (st2 := [.int q1.1, .ref (az_ad V 40)]) C [.int p0] (c_X12_restNow C.hL G p0 (az_i M 40 0 0) e2) (by decide) li_X12_487 o40 (by decide) rfl rfl (Nat.le_of_ble_eq_true rfl) dX12_rest_8 rfl ?_
  obtain ⟨q3, e4, h⟩ := az_b h
  refine az_cV (rest := []) (st2 := [.int q3.1]) C [.int q1.1] (c_X12_tell C.hL q1.1 q1.2 e4) (by decide) li_X12_158 o40 (by decide) rfl rfl (Nat.le_of_ble_eq_true rfl) dX12_rest_11 rfl ?_
  obtain rfl := Option.some.inj h
  exact az_iret C dX12_rest_14 hp
theorem c_X12_rest {l : Launch} {V : az_V} (hL : az_L V) (G : Nat) (p0 : Int32) (M : az_M) {r : (Int32 × az_M)} (h : f_X12_rest G p0 M = some r) : az_Ct l V yX12_rest cX12_rest 2 (some .int) 4 [.ref (az_ad V 40), .int p0] M (fun v M' => v = some (.int r.1) ∧ M' = r.2) :=
  az_Ct.of (by decide) (Nat.le_of_ble_eq_true rfl) (fun Y _ _ C => s_X12_rest_e C G p0 M r h ⟨rfl, rfl⟩)
set_option maxHeartbeats 4000000 in
set_option maxRecDepth 100000 in
theorem s_X12_log_36 {Y : az_Y} {V : az_V} {post : Option Value → az_M → Prop} (C : az_C Y V cX12_log 2 RX12 (some .int) 2) (s0 : Int32) (M : az_M) (r : (Int32 × az_M)) (h : f_X12_log_36 s0 M = some r) (hp : post (some (.int r.1)) r.2) : AW Y V (az_end Y V post) 2 M 36 [] [.int s0] := by
  unfold f_X12_log_36 at h
  obtain rfl := Option.some.inj h
  exact az_iret C dX12_log_36 hp
set_option maxHeartbeats 4000000 in
set_option maxRecDepth 100000 in
theorem s_X12_log_e {Y : az_Y} {V : az_V} {post : Option Value → az_M → Prop} (C : az_C Y V cX12_log 2 RX12 (some .int) 2) (p0 : Int32) (M : az_M) (r : (Int32 × az_M)) (h : f_X12_log p0 M = some r) (hp : post (some (.int r.1)) r.2) : AW Y V (az_end Y V post) 2 M 0 [(0, .ref (az_ad V 40)), (1, .int p0)] [] := by
  have o40 := C.hL.at 40 (ci := 12) rfl
  have a42 := C.hL.ar 42 (t := 0) (len := 5550) rfl
  unfold f_X12_log at h
  refine az_aload_n C 0 dX12_log_0 rfl ?_
  refine az_iconst (v := 0) C dX12_log_1 (by decide) ?_
  refine az_puti C o40 fl_X12_149 rfl rfl rfl rfl dX12_log_2 ?_
  refine az_iload_n C 1 dX12_log_5 rfl ?_
  refine az_i2l C dX12_log_6 ?_
  refine az_lconst (v := 0) C dX12_log_7 (by decide) ?_
  refine az_aload_n C 0 dX12_log_8 rfl ?_
  refine az_getr (r := 42) C o40 fl_X12_13 rfl rfl dX12_log_9 ?_
  refine az_iconst (v := 3) C dX12_log_12 (by decide) ?_
  refine az_ild (k := 3) C a42 (az_vin (by decide)) (by decide) dX12_log_13 ?_
  refine az_i2l C dX12_log_14 ?_
  refine az_lconst (v := 1) C dX12_log_15 (by decide) ?_
  refine az_lsub C dX12_log_16 ?_
  obtain ⟨q1, e2, h⟩ := az_b h
  refine az_cS (rest := []) (st2 := [.int q1]) C [.long p0.toInt64, .long 0, .long (((az_i M 40 0 0).1 42 3).toInt64 - 1)] (c_X12_in C.hL p0.toInt64 0 (((az_i M 40 0 0).1 42 3).toInt64 - 1) (az_i M 40 0 0) e2) (by decide) li_X12_169 rfl rfl (Nat.le_of_ble_eq_true rfl) dX12_log_17 rfl ?_
  refine az_if_eq C 35 dX12_log_20 (by decide) (fun c3 => ?_) (fun c3 => ?_)
  · have h := az_t c3 h
    refine az_iconst (v := (-1)) C dX12_log_35 (by decide) ?_
    refine az_sub [] rfl ?_
    exact s_X12_log_36 C (-1) (az_i M 40 0 0) r h hp
  · have h := az_f c3 h
    refine az_aload_n C 0 dX12_log_23 rfl ?_
    refine az_getr (r := 42) C o40 fl_X12_13 rfl rfl dX12_log_24 ?_
    refine az_bipush (v := 123) C dX12_log_27 (by decide) ?_
    refine az_iload_n C 1 dX12_log_29 rfl ?_
    refine az_iadd C dX12_log_30 ?_
    obtain ⟨g4, h⟩ := az_g h
    refine az_ild (k := (123 + p0).toNatClampNeg) C a42 g4 rfl dX12_log_31 ?_
    refine az_goto C 36 dX12_log_32 (by decide) ?_
    refine az_sub [] rfl ?_
    exact s_X12_log_36 C ((az_i M 40 0 0).1 42 ((123 + p0).toNatClampNeg)) (az_i M 40 0 0) r h hp
theorem c_X12_log {l : Launch} {V : az_V} (hL : az_L V) (p0 : Int32) (M : az_M) {r : (Int32 × az_M)} (h : f_X12_log p0 M = some r) : az_Ct l V yX12_log cX12_log 2 (some .int) 2 [.ref (az_ad V 40), .int p0] M (fun v M' => v = some (.int r.1) ∧ M' = r.2) :=
  az_Ct.of (by decide) (Nat.le_of_ble_eq_true rfl) (fun Y _ _ C => s_X12_log_e C p0 M r h ⟨rfl, rfl⟩)
set_option maxHeartbeats 4000000 in
set_option maxRecDepth 100000 in
theorem s_X12_findEnds_135 {Y : az_Y} {V : az_V} {post : Option Value → az_M → Prop} (C : az_C Y V cX12_findEnds 7 RX12 none 8) (G : Nat) (K37 : (Int32 → Int32 → Int32 → Int32 → az_M → Option az_M)) (hK37 : ∀ (x1 : Int32) (x2 : Int32) (x3 : Int32) (x4 : Int32) (M : az_M) (r : az_M), K37 x1 x2 x3 x4 M = some r → post none r → AW Y V (az_end Y V post) 7 M 37 [(0, .ref (az_ad V 40)), (1, .int x1), (2, .int x2), (3, .int x3), (4, .int x4)] []) (x1 : Int32) (x2 : Int32) (x3 : Int32) (x4 : Int32) (M : az_M) (r : az_M) (h : f_X12_findEnds_135 G K37 x1 x2 x3 x4 M = some r) (hp : post none r) : AW Y V (az_end Y V post) 7 M 135 [(0, .ref (az_ad V 40)), (1, .int x1), (2, .int x2), (3, .int x3), (4, .int x4)] [] := by
  unfold f_X12_findEnds_135 at h
  refine az_iinc (v := (x4 + 1)) C 4 dX12_findEnds_135 rfl rfl (by decide) rfl ?_
  refine az_goto C 37 dX12_findEnds_138 (by decide) ?_
  refine az_sub [1, 2, 3, 4, 0] rfl ?_
  exact hK37 x1 x2 x3 (x4 + 1) M r h hp
set_option maxHeartbeats 4000000 in
set_option maxRecDepth 100000 in
theorem s_X12_findEnds_37 {Y : az_Y} {V : az_V} {post : Option Value → az_M → Prop} (C : az_C Y V cX12_findEnds 7 RX12 none 8) (G : Nat) : ∀ (F : Nat) (x1 : Int32) (x2 : Int32) (x3 : Int32) (x4 : Int32) (M : az_M) (r : az_M), f_X12_findEnds_37 G F x1 x2 x3 x4 M = some r → post none r → AW Y V (az_end Y V post) 7 M 37 [(0, .ref (az_ad V 40)), (1, .int x1), (2, .int x2), (3, .int x3), (4, .int x4)] [] := by
  have o40 := C.hL.at 40 (ci := 12) rfl
  have a61 := C.hL.ar 61 (t := 0) (len := 4) rfl
  intro F
  induction F with
  | zero =>
    intro x1 x2 x3 x4 M r h
    exact absurd (show (none : Option az_M) = some r from h) (fun q => by cases q)
  | succ F ih =>
    intro x1 x2 x3 x4 M r h hp
    rw [f_X12_findEnds_37] at h
    refine az_iload C 4 dX12_findEnds_37 rfl ?_
    refine az_iconst (v := 2) C dX12_findEnds_39 (by decide) ?_
    refine az_aload_n C 0 dX12_findEnds_40 rfl ?_
    refine az_iconst (v := 1) C dX12_findEnds_41 (by decide) ?_
    obtain ⟨q5, e6, h⟩ := az_b h
    refine az_cV (rest := [.int 2, .int x4]) (st2 := [.int q5, .int 2, .int x4]) C [.int 1] (c_X12_term C.hL 1 M e6) (by decide) li_X12_189 o40 (by decide) rfl rfl (Nat.le_of_ble_eq_true rfl) dX12_findEnds_42 rfl ?_
    refine az_imul C dX12_findEnds_45 ?_
    refine az_icmp_ge C 141 dX12_findEnds_46 (by decide) (fun c7 => ?_) (fun c7 => ?_)
    · have h := az_t c7 h
      refine az_aload_n C 0 dX12_findEnds_141 rfl ?_
      refine az_getr (r := 61) C o40 fl_X12_116 rfl rfl dX12_findEnds_142 ?_
      refine az_iconst (v := 0) C dX12_findEnds_145 (by decide) ?_
      refine az_iload_n C 3 dX12_findEnds_146 rfl ?_
      refine az_ist (k := 0) C a61 (az_vin (by decide)) (by decide) dX12_findEnds_147 ?_
      obtain rfl := Option.some.inj h
      exact az_vret C rfl dX12_findEnds_148 hp
    · have h := az_f c7 h
      refine az_aload_n C 0 dX12_findEnds_49 rfl ?_
      obtain ⟨q8, e9, h⟩ := az_b h
      refine az_cV (rest := []) (st2 := [.int q8]) C [] (c_X12_canFire C.hL M e9) (by decide) li_X12_194 o40 (by decide) rfl rfl (Nat.le_of_ble_eq_true rfl) dX12_findEnds_50 rfl ?_
      refine az_if_ne C 71 dX12_findEnds_53 (by decide) (fun c10 => ?_) (fun c10 => ?_)
      · have h := az_f c10 h
        refine az_aload_n C 0 dX12_findEnds_71 rfl ?_
        refine az_iload_n C 1 dX12_findEnds_72 rfl ?_
        refine az_iload C 4 dX12_findEnds_73 rfl ?_
        refine az_iconst (v := 2) C dX12_findEnds_75 (by decide) ?_
        refine az_irem2 C dX12_findEnds_76 (by decide) ?_
        obtain ⟨q11, e12, h⟩ := az_b h
        refine az_cV (rest := []) (st2 := [.int q11]) C [.int x1, .int (az_rem x4 2)] (c_X12_ofQuarrel C.hL x1 (az_rem x4 2) M e12) (by decide) li_X12_238 o40 (by decide) rfl rfl (Nat.le_of_ble_eq_true rfl) dX12_findEnds_77 rfl ?_
        refine az_istore C dX12_findEnds_80 (by decide) rfl ?_
        refine az_aload_n C 1 dX12_findEnds_82 rfl ?_
        refine az_iload C 0 dX12_findEnds_83 rfl ?_
        refine az_iload_n C 3 dX12_findEnds_85 rfl ?_
        obtain ⟨q13, e14, h⟩ := az_b h
        refine az_cV (rest := []) (st2 := [.int q13.1]) C [.int q11, .int x2] (c_X12_aimsOf C.hL G q11 x2 M e14) (by decide) li_X12_235 o40 (by decide) rfl rfl (Nat.le_of_ble_eq_true rfl) dX12_findEnds_86 rfl ?_
        refine az_istore C dX12_findEnds_89 (by decide) rfl ?_
        refine az_aload_n C 2 dX12_findEnds_91 rfl ?_
        refine az_getr (r := 61) C o40 fl_X12_116 rfl rfl dX12_findEnds_92 ?_
        refine az_iconst (v := 1) C dX12_findEnds_95 (by decide) ?_
        refine az_iload C 6 dX12_findEnds_96 rfl ?_
        refine az_iconst (v := 2) C dX12_findEnds_98 (by decide) ?_
        refine az_irem2 C dX12_findEnds_99 (by decide) ?_
        refine az_iadd C dX12_findEnds_100 ?_
        refine az_dup2 C dX12_findEnds_101 rfl rfl ?_
        obtain ⟨g15, h⟩ := az_g h
        refine az_ild (k := (1 + (az_rem x4 2)).toNatClampNeg) C a61 g15 rfl dX12_findEnds_102 ?_
        refine az_iload_n C 5 dX12_findEnds_103 rfl ?_
        refine az_bipush (v := 10) C dX12_findEnds_104 (by decide) ?_
        refine az_idiv C dX12_findEnds_106 (by decide) ?_
        refine az_iload C 0 dX12_findEnds_107 rfl ?_
        refine az_imul C dX12_findEnds_109 ?_
        refine az_iadd C dX12_findEnds_110 ?_
        obtain ⟨g16, h⟩ := az_g h
        refine az_ist (k := (1 + (az_rem x4 2)).toNatClampNeg) C a61 g16 rfl dX12_findEnds_111 ?_
        refine az_iload_n C 5 dX12_findEnds_112 rfl ?_
        refine az_bipush (v := 10) C dX12_findEnds_113 (by decide) ?_
        refine az_idiv C dX12_findEnds_115 (by decide) ?_
        refine az_bipush (v := 10) C dX12_findEnds_116 (by decide) ?_
        refine az_iload C 0 dX12_findEnds_118 rfl ?_
        refine az_isub C dX12_findEnds_120 ?_
        refine az_imul C dX12_findEnds_121 ?_
        refine az_istore_n C dX12_findEnds_122 rfl (by decide) rfl ?_
        refine az_aload_n C 3 dX12_findEnds_123 rfl ?_
        refine az_aload_n C 3 dX12_findEnds_124 rfl ?_
        refine az_iload C 2 dX12_findEnds_125 rfl ?_
        refine az_iconst (v := 1) C dX12_findEnds_127 (by decide) ?_
        obtain ⟨q17, e18, h⟩ := az_b h
        refine az_cV (rest := [.ref (az_ad V 40)]) (st2 := [.int q17, .ref (az_ad V 40)]) C [.int q11, .int 1] (c_X12_ofPerson C.hL q11 1 (az_i q13.2 61 ((1 + (az_rem x4 2)).toNatClampNeg) ((q13.2.1 61 ((1 + (az_rem x4 2)).toNatClampNeg)) + ((x3 / 10) * q13.1))) e18) (by decide) li_X12_226 o40 (by decide) rfl rfl (Nat.le_of_ble_eq_true rfl) dX12_findEnds_128 rfl ?_
        refine az_iload_n C 5 dX12_findEnds_131 rfl ?_
        obtain ⟨q19, e20, h⟩ := az_b h
        refine az_cV (rest := []) (st2 := []) C [.int q17, .int x2] (c_X12_shoot C.hL G q17 x2 (az_i q13.2 61 ((1 + (az_rem x4 2)).toNatClampNeg) ((q13.2.1 61 ((1 + (az_rem x4 2)).toNatClampNeg)) + ((x3 / 10) * q13.1))) e20) (by decide) li_X12_460 o40 (by decide) rfl rfl (Nat.le_of_ble_eq_true rfl) dX12_findEnds_132 rfl ?_
        refine az_sub [3, 4, 5, 0, 6] rfl ?_
        exact s_X12_findEnds_135 C G (f_X12_findEnds_37 G F) ih x1 x2 ((x3 / 10) * (10 - q13.1)) x4 q19 r h hp
      · have h := az_t c10 h
        refine az_aload_n C 0 dX12_findEnds_56 rfl ?_
        refine az_getr (r := 61) C o40 fl_X12_116 rfl rfl dX12_findEnds_57 ?_
        refine az_iconst (v := 3) C dX12_findEnds_60 (by decide) ?_
        refine az_dup2 C dX12_findEnds_61 rfl rfl ?_
        refine az_ild (k := 3) C a61 (az_vin (by decide)) (by decide) dX12_findEnds_62 ?_
        refine az_iload_n C 3 dX12_findEnds_63 rfl ?_
        refine az_iadd C dX12_findEnds_64 ?_
        refine az_ist (k := 3) C a61 (az_vin (by decide)) (by decide) dX12_findEnds_65 ?_
        refine az_iconst (v := 0) C dX12_findEnds_66 (by decide) ?_
        refine az_istore_n C dX12_findEnds_67 rfl (by decide) rfl ?_
        refine az_goto C 135 dX12_findEnds_68 (by decide) ?_
        refine az_sub [1, 2, 3, 0, 4] rfl ?_
        exact s_X12_findEnds_135 C G (f_X12_findEnds_37 G F) ih x1 x2 0 x4 (az_i M 61 3 ((M.1 61 3) + x3)) r h hp
set_option maxHeartbeats 4000000 in
set_option maxRecDepth 100000 in
theorem s_X12_findEnds_14 {Y : az_Y} {V : az_V} {post : Option Value → az_M → Prop} (C : az_C Y V cX12_findEnds 7 RX12 none 8) (G : Nat) : ∀ (F : Nat) (x1 : Int32) (x2 : Int32) (x3 : Int32) (x4 : Int32) (M : az_M) (r : az_M), f_X12_findEnds_14 G F x1 x2 x3 x4 M = some r → post none r → AW Y V (az_end Y V post) 7 M 14 [(0, .ref (az_ad V 40)), (1, .int x1), (2, .int x2), (3, .int x3), (4, .int x4)] [] := by
  have o40 := C.hL.at 40 (ci := 12) rfl
  have a61 := C.hL.ar 61 (t := 0) (len := 4) rfl
  intro F
  induction F with
  | zero =>
    intro x1 x2 x3 x4 M r h
    exact absurd (show (none : Option az_M) = some r from h) (fun q => by cases q)
  | succ F ih =>
    intro x1 x2 x3 x4 M r h hp
    rw [f_X12_findEnds_14] at h
    refine az_iload C 4 dX12_findEnds_14 rfl ?_
    refine az_iconst (v := 4) C dX12_findEnds_16 (by decide) ?_
    refine az_icmp_ge C 34 dX12_findEnds_17 (by decide) (fun c3 => ?_) (fun c3 => ?_)
    · have h := az_t c3 h
      refine az_iconst (v := 0) C dX12_findEnds_34 (by decide) ?_
      refine az_istore C dX12_findEnds_35 (by decide) rfl ?_
      refine az_sub [1, 2, 3, 4, 0] rfl ?_
      exact s_X12_findEnds_37 C G G x1 x2 x3 0 M r h hp
    · have h := az_f c3 h
      refine az_aload_n C 0 dX12_findEnds_20 rfl ?_
      refine az_getr (r := 61) C o40 fl_X12_116 rfl rfl dX12_findEnds_21 ?_
      refine az_iload C 4 dX12_findEnds_24 rfl ?_
      refine az_iconst (v := 0) C dX12_findEnds_26 (by decide) ?_
      obtain ⟨g4, h⟩ := az_g h
      refine az_ist (k := x4.toNatClampNeg) C a61 g4 rfl dX12_findEnds_27 ?_
      refine az_iinc (v := (x4 + 1)) C 4 dX12_findEnds_28 rfl rfl (by decide) rfl ?_
      refine az_goto C 14 dX12_findEnds_31 (by decide) ?_
      refine az_sub [1, 2, 3, 4, 0] rfl ?_
      exact ih x1 x2 x3 (x4 + 1) (az_i M 61 x4.toNatClampNeg 0) r h hp
set_option maxHeartbeats 4000000 in
set_option maxRecDepth 100000 in
theorem s_X12_findEnds_e {Y : az_Y} {V : az_V} {post : Option Value → az_M → Prop} (C : az_C Y V cX12_findEnds 7 RX12 none 8) (G : Nat) (p0 : Int32) (M : az_M) (r : az_M) (h : f_X12_findEnds G p0 M = some r) (hp : post none r) : AW Y V (az_end Y V post) 7 M 0 [(0, .ref (az_ad V 40)), (1, .int p0)] [] := by
  have o40 := C.hL.at 40 (ci := 12) rfl
  unfold f_X12_findEnds at h
  refine az_aload_n C 0 dX12_findEnds_0 rfl ?_
  refine az_iload_n C 1 dX12_findEnds_1 rfl ?_
  refine az_iconst (v := 2) C dX12_findEnds_2 (by decide) ?_
  obtain ⟨q1, e2, h⟩ := az_b h
  refine az_cV (rest := []) (st2 := [.int q1]) C [.int p0, .int 2] (c_X12_ofQuarrel C.hL p0 2 M e2) (by decide) li_X12_238 o40 (by decide) rfl rfl (Nat.le_of_ble_eq_true rfl) dX12_findEnds_3 rfl ?_
  refine az_istore_n C dX12_findEnds_6 rfl (by decide) rfl ?_
  refine az_ldcw C ck_X12_490 dX12_findEnds_7 ?_
  refine az_istore_n C dX12_findEnds_10 rfl (by decide) rfl ?_
  refine az_iconst (v := 0) C dX12_findEnds_11 (by decide) ?_
  refine az_istore C dX12_findEnds_12 (by decide) rfl ?_
  refine az_sub [3, 4, 2, 1, 0] rfl ?_
  exact s_X12_findEnds_14 C G G p0 q1 100000000 0 M r h hp
theorem c_X12_findEnds {l : Launch} {V : az_V} (hL : az_L V) (G : Nat) (p0 : Int32) (M : az_M) {r : az_M} (h : f_X12_findEnds G p0 M = some r) : az_Ct l V yX12_findEnds cX12_findEnds 7 none 8 [.ref (az_ad V 40), .int p0] M (fun v M' => v = none ∧ M' = r) :=
  az_Ct.of (by decide) (Nat.le_of_ble_eq_true rfl) (fun Y _ _ C => s_X12_findEnds_e C G p0 M r h ⟨rfl, rfl⟩)
set_option maxHeartbeats 4000000 in
set_option maxRecDepth 100000 in
theorem s_X12_odds_25 {Y : az_Y} {V : az_V} {post : Option Value → az_M → Prop} (C : az_C Y V cX12_odds 3 RX12 (some .int) 9) (G : Nat)  (M : az_M) (r : (Int32 × az_M)) (h : f_X12_odds_25 G M = some r) (hp : post (some (.int r.1)) r.2) : AW Y V (az_end Y V post) 3 M 25 [] [] := by
  unfold f_X12_odds_25 at h
  refine az_iconst (v := (-1)) C dX12_odds_25 (by decide) ?_
  obtain rfl := Option.some.inj h
  exact az_iret C dX12_odds_26 hp
set_option maxHeartbeats 4000000 in
set_option maxRecDepth 100000 in
theorem s_X12_odds_e {Y : az_Y} {V : az_V} {post : Option Value → az_M → Prop} (C : az_C Y V cX12_odds 3 RX12 (some .int) 9) (G : Nat) (p0 : Int32) (p1 : Int32) (M : az_M) (r : (Int32 × az_M)) (h : f_X12_odds G p0 p1 M = some r) (hp : post (some (.int r.1)) r.2) : AW Y V (az_end Y V post) 3 M 0 [(0, .ref (az_ad V 40)), (1, .int p0), (2, .int p1)] [] := by
  have o40 := C.hL.at 40 (ci := 12) rfl
  have a61 := C.hL.ar 61 (t := 0) (len := 4) rfl
  unfold f_X12_odds at h
  refine az_aload_n C 0 dX12_odds_0 rfl ?_
  refine az_iconst (v := 0) C dX12_odds_1 (by decide) ?_
  refine az_puti C o40 fl_X12_149 rfl rfl rfl rfl dX12_odds_2 ?_
  refine az_aload_n C 0 dX12_odds_5 rfl ?_
  refine az_iload_n C 1 dX12_odds_6 rfl ?_
  obtain ⟨q1, e2, h⟩ := az_b h
  refine az_cV (rest := []) (st2 := [.int q1]) C [.int p0] (c_X12_isQuarrel C.hL p0 (az_i M 40 0 0) e2) (by decide) li_X12_245 o40 (by decide) rfl rfl (Nat.le_of_ble_eq_true rfl) dX12_odds_7 rfl ?_
  refine az_if_eq C 25 dX12_odds_10 (by decide) (fun c3 => ?_) (fun c3 => ?_)
  · have h := az_t c3 h
    refine az_sub [] rfl ?_
    exact s_X12_odds_25 C G (az_i M 40 0 0) r h hp
  · have h := az_f c3 h
    refine az_iload_n C 2 dX12_odds_13 rfl ?_
    refine az_i2l C dX12_odds_14 ?_
    refine az_lconst (v := 0) C dX12_odds_15 (by decide) ?_
    refine az_ldc2 C ck_X12_198 dX12_odds_16 ?_
    obtain ⟨q4, e5, h⟩ := az_b h
    refine az_cS (rest := []) (st2 := [.int q4]) C [.long p1.toInt64, .long 0, .long 3] (c_X12_in C.hL p1.toInt64 0 3 (az_i M 40 0 0) e5) (by decide) li_X12_169 rfl rfl (Nat.le_of_ble_eq_true rfl) dX12_odds_19 rfl ?_
    refine az_if_ne C 27 dX12_odds_22 (by decide) (fun c6 => ?_) (fun c6 => ?_)
    · have h := az_f c6 h
      refine az_aload_n C 0 dX12_odds_27 rfl ?_
      refine az_bipush (v := 16) C dX12_odds_28 (by decide) ?_
      obtain ⟨q7, e8, h⟩ := az_b h
      refine az_cV (rest := []) (st2 := []) C [.int 16] (c_X12_keepAll C.hL G 16 (az_i M 40 0 0) e8) (by decide) li_X12_162 o40 (by decide) rfl rfl (Nat.le_of_ble_eq_true rfl) dX12_odds_30 rfl ?_
      refine az_aload_n C 0 dX12_odds_33 rfl ?_
      refine az_iload_n C 1 dX12_odds_34 rfl ?_
      obtain ⟨q9, e10, h⟩ := az_b h
      refine az_cV (rest := []) (st2 := []) C [.int p0] (c_X12_findEnds C.hL G p0 q7 e10) (by decide) li_X12_491 o40 (by decide) rfl rfl (Nat.le_of_ble_eq_true rfl) dX12_odds_35 rfl ?_
      refine az_aload_n C 0 dX12_odds_38 rfl ?_
      refine az_bipush (v := 16) C dX12_odds_39 (by decide) ?_
      obtain ⟨q11, e12, h⟩ := az_b h
      refine az_cV (rest := []) (st2 := []) C [.int 16] (c_X12_putBack C.hL G 16 q9 e12) (by decide) li_X12_166 o40 (by decide) rfl rfl (Nat.le_of_ble_eq_true rfl) dX12_odds_41 rfl ?_
      refine az_aload_n C 0 dX12_odds_44 rfl ?_
      refine az_getr (r := 61) C o40 fl_X12_116 rfl rfl dX12_odds_45 ?_
      refine az_iload_n C 2 dX12_odds_48 rfl ?_
      obtain ⟨g13, h⟩ := az_g h
      refine az_ild (k := p1.toNatClampNeg) C a61 g13 rfl dX12_odds_49 ?_
      obtain rfl := Option.some.inj h
      exact az_iret C dX12_odds_50 hp
    · have h := az_t c6 h
      refine az_sub [] rfl ?_
      exact s_X12_odds_25 C G (az_i M 40 0 0) r h hp
theorem c_X12_odds {l : Launch} {V : az_V} (hL : az_L V) (G : Nat) (p0 : Int32) (p1 : Int32) (M : az_M) {r : (Int32 × az_M)} (h : f_X12_odds G p0 p1 M = some r) : az_Ct l V yX12_odds cX12_odds 3 (some .int) 9 [.ref (az_ad V 40), .int p0, .int p1] M (fun v M' => v = some (.int r.1) ∧ M' = r.2) :=
  az_Ct.of (by decide) (Nat.le_of_ble_eq_true rfl) (fun Y _ _ C => s_X12_odds_e C G p0 p1 M r h ⟨rfl, rfl⟩)
set_option maxHeartbeats 4000000 in
set_option maxRecDepth 100000 in
theorem s_X12_isHad_51 {Y : az_Y} {V : az_V} {post : Option Value → az_M → Prop} (C : az_C Y V cX12_isHad 4 RX12 (some .boolean) 8) (G : Nat) (K4 : (Int32 → Int32 → Int32 → az_M → Option (Int32 × az_M))) (hK4 : ∀ (x1 : Int32) (x2 : Int32) (x3 : Int32) (M : az_M) (r : (Int32 × az_M)), K4 x1 x2 x3 M = some r → post (some (.int r.1)) r.2 → AW Y V (az_end Y V post) 4 M 4 [(0, .ref (az_ad V 40)), (1, .int x1), (2, .int x2), (3, .int x3)] []) (x1 : Int32) (x2 : Int32) (x3 : Int32) (M : az_M) (r : (Int32 × az_M)) (h : f_X12_isHad_51 G K4 x1 x2 x3 M = some r) (hp : post (some (.int r.1)) r.2) : AW Y V (az_end Y V post) 4 M 51 [(0, .ref (az_ad V 40)), (1, .int x1), (2, .int x2), (3, .int x3)] [] := by
  unfold f_X12_isHad_51 at h
  refine az_iinc (v := (x3 + 1)) C 3 dX12_isHad_51 rfl rfl (by decide) rfl ?_
  refine az_goto C 4 dX12_isHad_54 (by decide) ?_
  refine az_sub [1, 2, 3, 0] rfl ?_
  exact hK4 x1 x2 (x3 + 1) M r h hp
set_option maxHeartbeats 4000000 in
set_option maxRecDepth 100000 in
theorem s_X12_isHad_88 {Y : az_Y} {V : az_V} {post : Option Value → az_M → Prop} (C : az_C Y V cX12_isHad 4 RX12 (some .boolean) 8) (G : Nat) (s0 : Int32) (M : az_M) (r : (Int32 × az_M)) (h : f_X12_isHad_88 G s0 M = some r) (hp : post (some (.int r.1)) r.2) : AW Y V (az_end Y V post) 4 M 88 [] [.int s0] := by
  unfold f_X12_isHad_88 at h
  obtain ⟨g25, h⟩ := az_g2 h
  obtain rfl := Option.some.inj h
  exact az_zret C dX12_isHad_88 (az_nz g25) hp
set_option maxHeartbeats 4000000 in
set_option maxRecDepth 100000 in
theorem s_X12_isHad_87 {Y : az_Y} {V : az_V} {post : Option Value → az_M → Prop} (C : az_C Y V cX12_isHad 4 RX12 (some .boolean) 8) (G : Nat)  (M : az_M) (r : (Int32 × az_M)) (h : f_X12_isHad_87 G M = some r) (hp : post (some (.int r.1)) r.2) : AW Y V (az_end Y V post) 4 M 87 [] [] := by
  unfold f_X12_isHad_87 at h
  refine az_iconst (v := 0) C dX12_isHad_87 (by decide) ?_
  exact s_X12_isHad_88 C G 0 M r h hp
set_option maxHeartbeats 4000000 in
set_option maxRecDepth 100000 in
theorem s_X12_isHad_57 {Y : az_Y} {V : az_V} {post : Option Value → az_M → Prop} (C : az_C Y V cX12_isHad 4 RX12 (some .boolean) 8) (G : Nat) (x1 : Int32) (x2 : Int32) (M : az_M) (r : (Int32 × az_M)) (h : f_X12_isHad_57 G x1 x2 M = some r) (hp : post (some (.int r.1)) r.2) : AW Y V (az_end Y V post) 4 M 57 [(0, .ref (az_ad V 40)), (1, .int x1), (2, .int x2)] [] := by
  have o40 := C.hL.at 40 (ci := 12) rfl
  unfold f_X12_isHad_57 at h
  refine az_iload_n C 2 dX12_isHad_57 rfl ?_
  refine az_if_eq C 87 dX12_isHad_58 (by decide) (fun c16 => ?_) (fun c16 => ?_)
  · have h := az_t c16 h
    refine az_sub [] rfl ?_
    exact s_X12_isHad_87 C G M r h hp
  · have h := az_f c16 h
    refine az_aload_n C 0 dX12_isHad_61 rfl ?_
    refine az_iconst (v := 3) C dX12_isHad_62 (by decide) ?_
    obtain ⟨q17, e18, h⟩ := az_b h
    refine az_cV (rest := []) (st2 := [.int q17]) C [.int 3] (c_X12_bulletOf C.hL 3 M e18) (by decide) li_X12_186 o40 (by decide) rfl rfl (Nat.le_of_ble_eq_true rfl) dX12_isHad_63 rfl ?_
    refine az_if_ne C 87 dX12_isHad_66 (by decide) (fun c19 => ?_) (fun c19 => ?_)
    · have h := az_f c19 h
      refine az_sub [] rfl ?_
      exact s_X12_isHad_87 C G M r h hp
    · have h := az_t c19 h
      refine az_aload_n C 0 dX12_isHad_69 rfl ?_
      refine az_iconst (v := 0) C dX12_isHad_70 (by decide) ?_
      obtain ⟨q20, e21, h⟩ := az_b h
      refine az_cV (rest := []) (st2 := [.int q20]) C [.int 0] (c_X12_term C.hL 0 M e21) (by decide) li_X12_189 o40 (by decide) rfl rfl (Nat.le_of_ble_eq_true rfl) dX12_isHad_71 rfl ?_
      refine az_aload_n C 0 dX12_isHad_74 rfl ?_
      refine az_iload_n C 1 dX12_isHad_75 rfl ?_
      refine az_iconst (v := 3) C dX12_isHad_76 (by decide) ?_
      obtain ⟨q22, e23, h⟩ := az_b h
      refine az_cV (rest := [.int q20]) (st2 := [.int q22, .int q20]) C [.int x1, .int 3] (c_X12_ofQuarrel C.hL x1 3 M e23) (by decide) li_X12_238 o40 (by decide) rfl rfl (Nat.le_of_ble_eq_true rfl) dX12_isHad_77 rfl ?_
      refine az_icmp_gt C 87 dX12_isHad_80 (by decide) (fun c24 => ?_) (fun c24 => ?_)
      · have h := az_t c24 h
        refine az_sub [] rfl ?_
        exact s_X12_isHad_87 C G M r h hp
      · have h := az_f c24 h
        refine az_iconst (v := 1) C dX12_isHad_83 (by decide) ?_
        refine az_goto C 88 dX12_isHad_84 (by decide) ?_
        refine az_sub [] rfl ?_
        exact s_X12_isHad_88 C G 1 M r h hp
set_option maxHeartbeats 4000000 in
set_option maxRecDepth 100000 in
theorem s_X12_isHad_4 {Y : az_Y} {V : az_V} {post : Option Value → az_M → Prop} (C : az_C Y V cX12_isHad 4 RX12 (some .boolean) 8) (G : Nat) : ∀ (F : Nat) (x1 : Int32) (x2 : Int32) (x3 : Int32) (M : az_M) (r : (Int32 × az_M)), f_X12_isHad_4 G F x1 x2 x3 M = some r → post (some (.int r.1)) r.2 → AW Y V (az_end Y V post) 4 M 4 [(0, .ref (az_ad V 40)), (1, .int x1), (2, .int x2), (3, .int x3)] [] := by
  have o40 := C.hL.at 40 (ci := 12) rfl
  intro F
  induction F with
  | zero =>
    intro x1 x2 x3 M r h
    exact absurd (show (none : Option (Int32 × az_M)) = some r from h) (fun q => by cases q)
  | succ F ih =>
    intro x1 x2 x3 M r h hp
    rw [f_X12_isHad_4] at h
    refine az_iload_n C 3 dX12_isHad_4 rfl ?_
    refine az_iconst (v := 2) C dX12_isHad_5 (by decide) ?_
    refine az_aload_n C 0 dX12_isHad_6 rfl ?_
    refine az_iconst (v := 1) C dX12_isHad_7 (by decide) ?_
    obtain ⟨q1, e2, h⟩ := az_b h
    refine az_cV (rest := [.int 2, .int x3]) (st2 := [.int q1, .int 2, .int x3]) C [.int 1] (c_X12_term C.hL 1 M e2) (by decide) li_X12_189 o40 (by decide) rfl rfl (Nat.le_of_ble_eq_true rfl) dX12_isHad_8 rfl ?_
    refine az_imul C dX12_isHad_11 ?_
    refine az_icmp_ge C 57 dX12_isHad_12 (by decide) (fun c3 => ?_) (fun c3 => ?_)
    · have h := az_t c3 h
      refine az_sub [0, 1, 2] rfl ?_
      exact s_X12_isHad_57 C G x1 x2 M r h hp
    · have h := az_f c3 h
      refine az_iload_n C 2 dX12_isHad_15 rfl ?_
      refine az_if_eq C 57 dX12_isHad_16 (by decide) (fun c4 => ?_) (fun c4 => ?_)
      · have h := az_t c4 h
        refine az_sub [0, 1, 2] rfl ?_
        exact s_X12_isHad_57 C G x1 x2 M r h hp
      · have h := az_f c4 h
        refine az_aload_n C 0 dX12_isHad_19 rfl ?_
        obtain ⟨q5, e6, h⟩ := az_b h
        refine az_cV (rest := []) (st2 := [.int q5]) C [] (c_X12_canFire C.hL M e6) (by decide) li_X12_194 o40 (by decide) rfl rfl (Nat.le_of_ble_eq_true rfl) dX12_isHad_20 rfl ?_
        refine az_istore_n C dX12_isHad_23 rfl (by decide) rfl ?_
        refine az_iload_n C 0 dX12_isHad_24 rfl ?_
        refine az_if_eq C 51 dX12_isHad_25 (by decide) (fun c7 => ?_) (fun c7 => ?_)
        · have h := az_t c7 h
          refine az_sub [1, 2, 0, 3] rfl ?_
          exact s_X12_isHad_51 C G (f_X12_isHad_4 G F) ih x1 q5 x3 M r h hp
        · have h := az_f c7 h
          refine az_aload_n C 1 dX12_isHad_28 rfl ?_
          refine az_aload_n C 1 dX12_isHad_29 rfl ?_
          refine az_aload_n C 1 dX12_isHad_30 rfl ?_
          refine az_iload_n C 2 dX12_isHad_31 rfl ?_
          refine az_iload_n C 3 dX12_isHad_32 rfl ?_
          refine az_iconst (v := 2) C dX12_isHad_33 (by decide) ?_
          refine az_irem2 C dX12_isHad_34 (by decide) ?_
          obtain ⟨q8, e9, h⟩ := az_b h
          refine az_cV (rest := [.ref (az_ad V 40), .ref (az_ad V 40)]) (st2 := [.int q8, .ref (az_ad V 40), .ref (az_ad V 40)]) C [.int x1, .int (az_rem x3 2)] (c_X12_ofQuarrel C.hL x1 (az_rem x3 2) M e9) (by decide) li_X12_238 o40 (by decide) rfl rfl (Nat.le_of_ble_eq_true rfl) dX12_isHad_35 rfl ?_
          refine az_iconst (v := 1) C dX12_isHad_38 (by decide) ?_
          obtain ⟨q10, e11, h⟩ := az_b h
          refine az_cV (rest := [.ref (az_ad V 40)]) (st2 := [.int q10, .ref (az_ad V 40)]) C [.int q8, .int 1] (c_X12_ofPerson C.hL q8 1 M e11) (by decide) li_X12_226 o40 (by decide) rfl rfl (Nat.le_of_ble_eq_true rfl) dX12_isHad_39 rfl ?_
          refine az_aload_n C 1 dX12_isHad_42 rfl ?_
          refine az_iload_n C 2 dX12_isHad_43 rfl ?_
          refine az_iconst (v := 2) C dX12_isHad_44 (by decide) ?_
          obtain ⟨q12, e13, h⟩ := az_b h
          refine az_cV (rest := [.int q10, .ref (az_ad V 40)]) (st2 := [.int q12, .int q10, .ref (az_ad V 40)]) C [.int x1, .int 2] (c_X12_ofQuarrel C.hL x1 2 M e13) (by decide) li_X12_238 o40 (by decide) rfl rfl (Nat.le_of_ble_eq_true rfl) dX12_isHad_45 rfl ?_
          obtain ⟨q14, e15, h⟩ := az_b h
          refine az_cV (rest := []) (st2 := []) C [.int q10, .int q12] (c_X12_shoot C.hL G q10 q12 M e15) (by decide) li_X12_460 o40 (by decide) rfl rfl (Nat.le_of_ble_eq_true rfl) dX12_isHad_48 rfl ?_
          refine az_sub [1, 2, 0, 3] rfl ?_
          exact s_X12_isHad_51 C G (f_X12_isHad_4 G F) ih x1 q5 x3 q14 r h hp
set_option maxHeartbeats 4000000 in
set_option maxRecDepth 100000 in
theorem s_X12_isHad_e {Y : az_Y} {V : az_V} {post : Option Value → az_M → Prop} (C : az_C Y V cX12_isHad 4 RX12 (some .boolean) 8) (G : Nat) (p0 : Int32) (M : az_M) (r : (Int32 × az_M)) (h : f_X12_isHad G p0 M = some r) (hp : post (some (.int r.1)) r.2) : AW Y V (az_end Y V post) 4 M 0 [(0, .ref (az_ad V 40)), (1, .int p0)] [] := by
  unfold f_X12_isHad at h
  refine az_iconst (v := 1) C dX12_isHad_0 (by decide) ?_
  refine az_istore_n C dX12_isHad_1 rfl (by decide) rfl ?_
  refine az_iconst (v := 0) C dX12_isHad_2 (by decide) ?_
  refine az_istore_n C dX12_isHad_3 rfl (by decide) rfl ?_
  refine az_sub [2, 3, 1, 0] rfl ?_
  exact s_X12_isHad_4 C G G p0 1 0 M r h hp
theorem c_X12_isHad {l : Launch} {V : az_V} (hL : az_L V) (G : Nat) (p0 : Int32) (M : az_M) {r : (Int32 × az_M)} (h : f_X12_isHad G p0 M = some r) : az_Ct l V yX12_isHad cX12_isHad 4 (some .boolean) 8 [.ref (az_ad V 40), .int p0] M (fun v M' => v = some (.int r.1) ∧ M' = r.2) :=
  az_Ct.of (by decide) (Nat.le_of_ble_eq_true rfl) (fun Y _ _ C => s_X12_isHad_e C G p0 M r h ⟨rfl, rfl⟩)
set_option maxHeartbeats 4000000 in
set_option maxRecDepth 100000 in
theorem s_X12_keepWait_2 {Y : az_Y} {V : az_V} {post : Option Value → az_M → Prop} (C : az_C Y V cX12_keepWait 3 RX12 none 1) (G : Nat) : ∀ (F : Nat) (x1 : Int32) (x2 : Int32) (M : az_M) (r : az_M), f_X12_keepWait_2 G F x1 x2 M = some r → post none r → AW Y V (az_end Y V post) 3 M 2 [(0, .ref (az_ad V 40)), (1, .int x1), (2, .int x2)] [] := by
  have o40 := C.hL.at 40 (ci := 12) rfl
  have a42 := C.hL.ar 42 (t := 0) (len := 5550) rfl
  have a65 := C.hL.ar 65 (t := 0) (len := 1200) rfl
  intro F
  induction F with
  | zero =>
    intro x1 x2 M r h
    exact absurd (show (none : Option az_M) = some r from h) (fun q => by cases q)
  | succ F ih =>
    intro x1 x2 M r h hp
    rw [f_X12_keepWait_2] at h
    refine az_iload_n C 2 dX12_keepWait_2 rfl ?_
    refine az_sipush (v := 150) C dX12_keepWait_3 (by decide) ?_
    refine az_icmp_ge C 33 dX12_keepWait_6 (by decide) (fun c1 => ?_) (fun c1 => ?_)
    · have h := az_t c1 h
      obtain rfl := Option.some.inj h
      exact az_vret C rfl dX12_keepWait_33 hp
    · have h := az_f c1 h
      refine az_aload_n C 0 dX12_keepWait_9 rfl ?_
      refine az_getr (r := 65) C o40 fl_X12_128 rfl rfl dX12_keepWait_10 ?_
      refine az_sipush (v := 150) C dX12_keepWait_13 (by decide) ?_
      refine az_iload_n C 1 dX12_keepWait_16 rfl ?_
      refine az_imul C dX12_keepWait_17 ?_
      refine az_iload_n C 2 dX12_keepWait_18 rfl ?_
      refine az_iadd C dX12_keepWait_19 ?_
      refine az_aload_n C 0 dX12_keepWait_20 rfl ?_
      refine az_getr (r := 42) C o40 fl_X12_13 rfl rfl dX12_keepWait_21 ?_
      refine az_iload_n C 2 dX12_keepWait_24 rfl ?_
      obtain ⟨g2, h⟩ := az_g h
      refine az_ild (k := x2.toNatClampNeg) C a42 g2 rfl dX12_keepWait_25 ?_
      obtain ⟨g3, h⟩ := az_g h
      refine az_ist (k := ((150 * x1) + x2).toNatClampNeg) C a65 g3 rfl dX12_keepWait_26 ?_
      refine az_iinc (v := (x2 + 1)) C 2 dX12_keepWait_27 rfl rfl (by decide) rfl ?_
      refine az_goto C 2 dX12_keepWait_30 (by decide) ?_
      refine az_sub [1, 2, 0] rfl ?_
      exact ih x1 (x2 + 1) (az_i M 65 (((150 * x1) + x2).toNatClampNeg) (M.1 42 x2.toNatClampNeg)) r h hp
set_option maxHeartbeats 4000000 in
set_option maxRecDepth 100000 in
theorem s_X12_keepWait_e {Y : az_Y} {V : az_V} {post : Option Value → az_M → Prop} (C : az_C Y V cX12_keepWait 3 RX12 none 1) (G : Nat) (p0 : Int32) (M : az_M) (r : az_M) (h : f_X12_keepWait G p0 M = some r) (hp : post none r) : AW Y V (az_end Y V post) 3 M 0 [(0, .ref (az_ad V 40)), (1, .int p0)] [] := by
  unfold f_X12_keepWait at h
  refine az_iconst (v := 0) C dX12_keepWait_0 (by decide) ?_
  refine az_istore_n C dX12_keepWait_1 rfl (by decide) rfl ?_
  refine az_sub [1, 2, 0] rfl ?_
  exact s_X12_keepWait_2 C G G p0 0 M r h hp
theorem c_X12_keepWait {l : Launch} {V : az_V} (hL : az_L V) (G : Nat) (p0 : Int32) (M : az_M) {r : az_M} (h : f_X12_keepWait G p0 M = some r) : az_Ct l V yX12_keepWait cX12_keepWait 3 none 1 [.ref (az_ad V 40), .int p0] M (fun v M' => v = none ∧ M' = r) :=
  az_Ct.of (by decide) (Nat.le_of_ble_eq_true rfl) (fun Y _ _ C => s_X12_keepWait_e C G p0 M r h ⟨rfl, rfl⟩)
set_option maxHeartbeats 4000000 in
set_option maxRecDepth 100000 in
theorem s_X12_putWait_2 {Y : az_Y} {V : az_V} {post : Option Value → az_M → Prop} (C : az_C Y V cX12_putWait 3 RX12 none 1) (G : Nat) : ∀ (F : Nat) (x1 : Int32) (x2 : Int32) (M : az_M) (r : az_M), f_X12_putWait_2 G F x1 x2 M = some r → post none r → AW Y V (az_end Y V post) 3 M 2 [(0, .ref (az_ad V 40)), (1, .int x1), (2, .int x2)] [] := by
  have o40 := C.hL.at 40 (ci := 12) rfl
  have a42 := C.hL.ar 42 (t := 0) (len := 5550) rfl
  have a65 := C.hL.ar 65 (t := 0) (len := 1200) rfl
  intro F
  induction F with
  | zero =>
    intro x1 x2 M r h
    exact absurd (show (none : Option az_M) = some r from h) (fun q => by cases q)
  | succ F ih =>
    intro x1 x2 M r h hp
    rw [f_X12_putWait_2] at h
    refine az_iload_n C 2 dX12_putWait_2 rfl ?_
    refine az_sipush (v := 150) C dX12_putWait_3 (by decide) ?_
    refine az_icmp_ge C 33 dX12_putWait_6 (by decide) (fun c1 => ?_) (fun c1 => ?_)
    · have h := az_t c1 h
      obtain rfl := Option.some.inj h
      exact az_vret C rfl dX12_putWait_33 hp
    · have h := az_f c1 h
      refine az_aload_n C 0 dX12_putWait_9 rfl ?_
      refine az_getr (r := 42) C o40 fl_X12_13 rfl rfl dX12_putWait_10 ?_
      refine az_iload_n C 2 dX12_putWait_13 rfl ?_
      refine az_aload_n C 0 dX12_putWait_14 rfl ?_
      refine az_getr (r := 65) C o40 fl_X12_128 rfl rfl dX12_putWait_15 ?_
      refine az_sipush (v := 150) C dX12_putWait_18 (by decide) ?_
      refine az_iload_n C 1 dX12_putWait_21 rfl ?_
      refine az_imul C dX12_putWait_22 ?_
      refine az_iload_n C 2 dX12_putWait_23 rfl ?_
      refine az_iadd C dX12_putWait_24 ?_
      obtain ⟨g2, h⟩ := az_g h
      refine az_ild (k := ((150 * x1) + x2).toNatClampNeg) C a65 g2 rfl dX12_putWait_25 ?_
      obtain ⟨g3, h⟩ := az_g h
      refine az_ist (k := x2.toNatClampNeg) C a42 g3 rfl dX12_putWait_26 ?_
      refine az_iinc (v := (x2 + 1)) C 2 dX12_putWait_27 rfl rfl (by decide) rfl ?_
      refine az_goto C 2 dX12_putWait_30 (by decide) ?_
      refine az_sub [1, 2, 0] rfl ?_
      exact ih x1 (x2 + 1) (az_i M 42 x2.toNatClampNeg (M.1 65 (((150 * x1) + x2).toNatClampNeg))) r h hp
set_option maxHeartbeats 4000000 in
set_option maxRecDepth 100000 in
theorem s_X12_putWait_e {Y : az_Y} {V : az_V} {post : Option Value → az_M → Prop} (C : az_C Y V cX12_putWait 3 RX12 none 1) (G : Nat) (p0 : Int32) (M : az_M) (r : az_M) (h : f_X12_putWait G p0 M = some r) (hp : post none r) : AW Y V (az_end Y V post) 3 M 0 [(0, .ref (az_ad V 40)), (1, .int p0)] [] := by
  unfold f_X12_putWait at h
  refine az_iconst (v := 0) C dX12_putWait_0 (by decide) ?_
  refine az_istore_n C dX12_putWait_1 rfl (by decide) rfl ?_
  refine az_sub [1, 2, 0] rfl ?_
  exact s_X12_putWait_2 C G G p0 0 M r h hp
theorem c_X12_putWait {l : Launch} {V : az_V} (hL : az_L V) (G : Nat) (p0 : Int32) (M : az_M) {r : az_M} (h : f_X12_putWait G p0 M = some r) : az_Ct l V yX12_putWait cX12_putWait 3 none 1 [.ref (az_ad V 40), .int p0] M (fun v M' => v = none ∧ M' = r) :=
  az_Ct.of (by decide) (Nat.le_of_ble_eq_true rfl) (fun Y _ _ C => s_X12_putWait_e C G p0 M r h ⟨rfl, rfl⟩)
set_option maxHeartbeats 4000000 in
set_option maxRecDepth 100000 in
theorem s_X12_keepOrder_66 {Y : az_Y} {V : az_V} {post : Option Value → az_M → Prop} (C : az_C Y V cX12_keepOrder 3 RX12 none 2) (G : Nat) : ∀ (F : Nat) (x1 : Int32) (x2 : Int32) (M : az_M) (r : az_M), f_X12_keepOrder_66 G F x1 x2 M = some r → post none r → AW Y V (az_end Y V post) 3 M 66 [(0, .ref (az_ad V 40)), (1, .int x1), (2, .int x2)] [] := by
  have o40 := C.hL.at 40 (ci := 12) rfl
  have a62 := C.hL.ar 62 (t := 0) (len := 7) rfl
  have a64 := C.hL.ar 64 (t := 0) (len := 7) rfl
  intro F
  induction F with
  | zero =>
    intro x1 x2 M r h
    exact absurd (show (none : Option az_M) = some r from h) (fun q => by cases q)
  | succ F ih =>
    intro x1 x2 M r h hp
    rw [f_X12_keepOrder_66] at h
    refine az_iload_n C 2 dX12_keepOrder_66 rfl ?_
    refine az_iload_n C 1 dX12_keepOrder_67 rfl ?_
    refine az_icmp_ge C 89 dX12_keepOrder_68 (by decide) (fun c10 => ?_) (fun c10 => ?_)
    · have h := az_t c10 h
      obtain rfl := Option.some.inj h
      exact az_vret C rfl dX12_keepOrder_89 hp
    · have h := az_f c10 h
      refine az_aload_n C 0 dX12_keepOrder_71 rfl ?_
      refine az_getr (r := 64) C o40 fl_X12_125 rfl rfl dX12_keepOrder_72 ?_
      refine az_iload_n C 2 dX12_keepOrder_75 rfl ?_
      refine az_aload_n C 0 dX12_keepOrder_76 rfl ?_
      refine az_getr (r := 62) C o40 fl_X12_119 rfl rfl dX12_keepOrder_77 ?_
      refine az_iload_n C 2 dX12_keepOrder_80 rfl ?_
      obtain ⟨g11, h⟩ := az_g h
      refine az_ild (k := x2.toNatClampNeg) C a62 g11 rfl dX12_keepOrder_81 ?_
      obtain ⟨g12, h⟩ := az_g h
      refine az_ist (k := x2.toNatClampNeg) C a64 g12 rfl dX12_keepOrder_82 ?_
      refine az_iinc (v := (x2 + 1)) C 2 dX12_keepOrder_83 rfl rfl (by decide) rfl ?_
      refine az_goto C 66 dX12_keepOrder_86 (by decide) ?_
      refine az_sub [1, 2, 0] rfl ?_
      exact ih x1 (x2 + 1) (az_i M 64 x2.toNatClampNeg (M.1 62 x2.toNatClampNeg)) r h hp
set_option maxHeartbeats 4000000 in
set_option maxRecDepth 100000 in
theorem s_X12_keepOrder_32 {Y : az_Y} {V : az_V} {post : Option Value → az_M → Prop} (C : az_C Y V cX12_keepOrder 3 RX12 none 2) (G : Nat) (x1 : Int32) (M : az_M) (r : az_M) (h : f_X12_keepOrder_32 G x1 M = some r) (hp : post none r) : AW Y V (az_end Y V post) 3 M 32 [(0, .ref (az_ad V 40)), (1, .int x1)] [] := by
  have o40 := C.hL.at 40 (ci := 12) rfl
  unfold f_X12_keepOrder_32 at h
  refine az_aload_n C 0 dX12_keepOrder_32 rfl ?_
  refine az_dup C dX12_keepOrder_33 rfl ?_
  refine az_geti C o40 fl_X12_494 rfl dX12_keepOrder_34 ?_
  refine az_iconst (v := 1) C dX12_keepOrder_37 (by decide) ?_
  refine az_iadd C dX12_keepOrder_38 ?_
  refine az_puti C o40 fl_X12_494 rfl rfl rfl rfl dX12_keepOrder_39 ?_
  refine az_aload_n C 0 dX12_keepOrder_42 rfl ?_
  refine az_iconst (v := 0) C dX12_keepOrder_43 (by decide) ?_
  obtain ⟨q5, e6, h⟩ := az_b h
  refine az_cV (rest := []) (st2 := [.int q5]) C [.int 0] (c_X12_bulletOf C.hL 0 (az_i M 40 48 ((M.1 40 48) + 1)) e6) (by decide) li_X12_186 o40 (by decide) rfl rfl (Nat.le_of_ble_eq_true rfl) dX12_keepOrder_44 rfl ?_
  refine az_aload_n C 0 dX12_keepOrder_47 rfl ?_
  refine az_geti C o40 fl_X12_497 rfl dX12_keepOrder_48 ?_
  refine az_icmp_gt C 55 dX12_keepOrder_51 (by decide) (fun c7 => ?_) (fun c7 => ?_)
  · have h := az_t c7 h
    refine az_aload_n C 0 dX12_keepOrder_55 rfl ?_
    refine az_aload_n C 0 dX12_keepOrder_56 rfl ?_
    refine az_iconst (v := 0) C dX12_keepOrder_57 (by decide) ?_
    obtain ⟨q8, e9, h⟩ := az_b h
    refine az_cV (rest := [.ref (az_ad V 40)]) (st2 := [.int q8, .ref (az_ad V 40)]) C [.int 0] (c_X12_bulletOf C.hL 0 (az_i M 40 48 ((M.1 40 48) + 1)) e9) (by decide) li_X12_186 o40 (by decide) rfl rfl (Nat.le_of_ble_eq_true rfl) dX12_keepOrder_58 rfl ?_
    refine az_puti C o40 fl_X12_497 rfl rfl rfl rfl dX12_keepOrder_61 ?_
    refine az_iconst (v := 0) C dX12_keepOrder_64 (by decide) ?_
    refine az_istore_n C dX12_keepOrder_65 rfl (by decide) rfl ?_
    refine az_sub [1, 2, 0] rfl ?_
    exact s_X12_keepOrder_66 C G G x1 0 (az_i (az_i M 40 48 ((M.1 40 48) + 1)) 40 47 q8) r h hp
  · have h := az_f c7 h
    obtain rfl := Option.some.inj h
    exact az_vret C rfl dX12_keepOrder_54 hp
set_option maxHeartbeats 4000000 in
set_option maxRecDepth 100000 in
theorem s_X12_keepOrder_2 {Y : az_Y} {V : az_V} {post : Option Value → az_M → Prop} (C : az_C Y V cX12_keepOrder 3 RX12 none 2) (G : Nat) : ∀ (F : Nat) (x1 : Int32) (x2 : Int32) (M : az_M) (r : az_M), f_X12_keepOrder_2 G F x1 x2 M = some r → post none r → AW Y V (az_end Y V post) 3 M 2 [(0, .ref (az_ad V 40)), (1, .int x1), (2, .int x2)] [] := by
  have o40 := C.hL.at 40 (ci := 12) rfl
  have a62 := C.hL.ar 62 (t := 0) (len := 7) rfl
  have a63 := C.hL.ar 63 (t := 0) (len := 7) rfl
  intro F
  induction F with
  | zero =>
    intro x1 x2 M r h
    exact absurd (show (none : Option az_M) = some r from h) (fun q => by cases q)
  | succ F ih =>
    intro x1 x2 M r h hp
    rw [f_X12_keepOrder_2] at h
    refine az_iload_n C 2 dX12_keepOrder_2 rfl ?_
    refine az_iload_n C 1 dX12_keepOrder_3 rfl ?_
    refine az_icmp_ge C 32 dX12_keepOrder_4 (by decide) (fun c1 => ?_) (fun c1 => ?_)
    · have h := az_t c1 h
      refine az_sub [0, 1] rfl ?_
      exact s_X12_keepOrder_32 C G x1 M r h hp
    · have h := az_f c1 h
      refine az_aload_n C 0 dX12_keepOrder_7 rfl ?_
      refine az_geti C o40 fl_X12_494 rfl dX12_keepOrder_8 ?_
      refine az_if_ne C 32 dX12_keepOrder_11 (by decide) (fun c2 => ?_) (fun c2 => ?_)
      · have h := az_f c2 h
        refine az_sub [0, 1] rfl ?_
        exact s_X12_keepOrder_32 C G x1 M r h hp
      · have h := az_t c2 h
        refine az_aload_n C 0 dX12_keepOrder_14 rfl ?_
        refine az_getr (r := 63) C o40 fl_X12_122 rfl rfl dX12_keepOrder_15 ?_
        refine az_iload_n C 2 dX12_keepOrder_18 rfl ?_
        refine az_aload_n C 0 dX12_keepOrder_19 rfl ?_
        refine az_getr (r := 62) C o40 fl_X12_119 rfl rfl dX12_keepOrder_20 ?_
        refine az_iload_n C 2 dX12_keepOrder_23 rfl ?_
        obtain ⟨g3, h⟩ := az_g h
        refine az_ild (k := x2.toNatClampNeg) C a62 g3 rfl dX12_keepOrder_24 ?_
        obtain ⟨g4, h⟩ := az_g h
        refine az_ist (k := x2.toNatClampNeg) C a63 g4 rfl dX12_keepOrder_25 ?_
        refine az_iinc (v := (x2 + 1)) C 2 dX12_keepOrder_26 rfl rfl (by decide) rfl ?_
        refine az_goto C 2 dX12_keepOrder_29 (by decide) ?_
        refine az_sub [1, 2, 0] rfl ?_
        exact ih x1 (x2 + 1) (az_i M 63 x2.toNatClampNeg (M.1 62 x2.toNatClampNeg)) r h hp
set_option maxHeartbeats 4000000 in
set_option maxRecDepth 100000 in
theorem s_X12_keepOrder_e {Y : az_Y} {V : az_V} {post : Option Value → az_M → Prop} (C : az_C Y V cX12_keepOrder 3 RX12 none 2) (G : Nat) (p0 : Int32) (M : az_M) (r : az_M) (h : f_X12_keepOrder G p0 M = some r) (hp : post none r) : AW Y V (az_end Y V post) 3 M 0 [(0, .ref (az_ad V 40)), (1, .int p0)] [] := by
  unfold f_X12_keepOrder at h
  refine az_iconst (v := 0) C dX12_keepOrder_0 (by decide) ?_
  refine az_istore_n C dX12_keepOrder_1 rfl (by decide) rfl ?_
  refine az_sub [1, 2, 0] rfl ?_
  exact s_X12_keepOrder_2 C G G p0 0 M r h hp
theorem c_X12_keepOrder {l : Launch} {V : az_V} (hL : az_L V) (G : Nat) (p0 : Int32) (M : az_M) {r : az_M} (h : f_X12_keepOrder G p0 M = some r) : az_Ct l V yX12_keepOrder cX12_keepOrder 3 none 2 [.ref (az_ad V 40), .int p0] M (fun v M' => v = none ∧ M' = r) :=
  az_Ct.of (by decide) (Nat.le_of_ble_eq_true rfl) (fun Y _ _ C => s_X12_keepOrder_e C G p0 M r h ⟨rfl, rfl⟩)
set_option maxHeartbeats 4000000 in
set_option maxRecDepth 100000 in
theorem s_X12_isFresh_33 {Y : az_Y} {V : az_V} {post : Option Value → az_M → Prop} (C : az_C Y V cX12_isFresh 4 RX12 (some .boolean) 1) (G : Nat) (K4 : (Int32 → Int32 → Int32 → az_M → Option Int32)) (hK4 : ∀ (x1 : Int32) (x2 : Int32) (x3 : Int32) (M : az_M) (r : Int32), K4 x1 x2 x3 M = some r → post (some (.int r)) M → AW Y V (az_end Y V post) 4 M 4 [(0, .ref (az_ad V 40)), (1, .int x1), (2, .int x2), (3, .int x3)] []) (x1 : Int32) (x3 : Int32) (s0 : Int32) (M : az_M) (r : Int32) (h : f_X12_isFresh_33 G K4 x1 x3 s0 M = some r) (hp : post (some (.int r)) M) : AW Y V (az_end Y V post) 4 M 33 [(0, .ref (az_ad V 40)), (1, .int x1), (3, .int x3)] [.int s0] := by
  unfold f_X12_isFresh_33 at h
  refine az_istore_n C dX12_isFresh_33 rfl (by decide) rfl ?_
  refine az_iinc (v := (x3 + 1)) C 3 dX12_isFresh_34 rfl rfl (by decide) rfl ?_
  refine az_goto C 4 dX12_isFresh_37 (by decide) ?_
  refine az_sub [2, 3, 1, 0] rfl ?_
  exact hK4 x1 s0 (x3 + 1) M r h hp
set_option maxHeartbeats 4000000 in
set_option maxRecDepth 100000 in
theorem s_X12_isFresh_32 {Y : az_Y} {V : az_V} {post : Option Value → az_M → Prop} (C : az_C Y V cX12_isFresh 4 RX12 (some .boolean) 1) (G : Nat) (K4 : (Int32 → Int32 → Int32 → az_M → Option Int32)) (hK4 : ∀ (x1 : Int32) (x2 : Int32) (x3 : Int32) (M : az_M) (r : Int32), K4 x1 x2 x3 M = some r → post (some (.int r)) M → AW Y V (az_end Y V post) 4 M 4 [(0, .ref (az_ad V 40)), (1, .int x1), (2, .int x2), (3, .int x3)] []) (x1 : Int32) (x3 : Int32) (M : az_M) (r : Int32) (h : f_X12_isFresh_32 G K4 x1 x3 M = some r) (hp : post (some (.int r)) M) : AW Y V (az_end Y V post) 4 M 32 [(0, .ref (az_ad V 40)), (1, .int x1), (3, .int x3)] [] := by
  unfold f_X12_isFresh_32 at h
  refine az_iconst (v := 0) C dX12_isFresh_32 (by decide) ?_
  exact s_X12_isFresh_33 C G K4 hK4 x1 x3 0 M r h hp
set_option maxHeartbeats 4000000 in
set_option maxRecDepth 100000 in
theorem s_X12_isFresh_4 {Y : az_Y} {V : az_V} {post : Option Value → az_M → Prop} (C : az_C Y V cX12_isFresh 4 RX12 (some .boolean) 1) (G : Nat) : ∀ (F : Nat) (x1 : Int32) (x2 : Int32) (x3 : Int32) (M : az_M) (r : Int32), f_X12_isFresh_4 G F x1 x2 x3 M = some r → post (some (.int r)) M → AW Y V (az_end Y V post) 4 M 4 [(0, .ref (az_ad V 40)), (1, .int x1), (2, .int x2), (3, .int x3)] [] := by
  have o40 := C.hL.at 40 (ci := 12) rfl
  have a62 := C.hL.ar 62 (t := 0) (len := 7) rfl
  intro F
  induction F with
  | zero =>
    intro x1 x2 x3 M r h
    exact absurd (show (none : Option Int32) = some r from h) (fun q => by cases q)
  | succ F ih =>
    intro x1 x2 x3 M r h hp
    rw [f_X12_isFresh_4] at h
    refine az_iload_n C 3 dX12_isFresh_4 rfl ?_
    refine az_iload_n C 1 dX12_isFresh_5 rfl ?_
    refine az_icmp_ge C 40 dX12_isFresh_6 (by decide) (fun c1 => ?_) (fun c1 => ?_)
    · have h := az_t c1 h
      refine az_iload_n C 2 dX12_isFresh_40 rfl ?_
      obtain ⟨g2, h⟩ := az_g2 h
      obtain rfl := Option.some.inj h
      exact az_zret C dX12_isFresh_41 (az_nz g2) hp
    · have h := az_f c1 h
      refine az_iload_n C 2 dX12_isFresh_9 rfl ?_
      refine az_if_eq C 32 dX12_isFresh_10 (by decide) (fun c3 => ?_) (fun c3 => ?_)
      · have h := az_t c3 h
        refine az_sub [0, 1, 3] rfl ?_
        exact s_X12_isFresh_32 C G (f_X12_isFresh_4 G F) ih x1 x3 M r h hp
      · have h := az_f c3 h
        refine az_aload_n C 0 dX12_isFresh_13 rfl ?_
        refine az_getr (r := 62) C o40 fl_X12_119 rfl rfl dX12_isFresh_14 ?_
        refine az_iload_n C 3 dX12_isFresh_17 rfl ?_
        obtain ⟨g4, h⟩ := az_g h
        refine az_ild (k := x3.toNatClampNeg) C a62 g4 rfl dX12_isFresh_18 ?_
        refine az_aload_n C 0 dX12_isFresh_19 rfl ?_
        refine az_getr (r := 62) C o40 fl_X12_119 rfl rfl dX12_isFresh_20 ?_
        refine az_iload_n C 1 dX12_isFresh_23 rfl ?_
        obtain ⟨g5, h⟩ := az_g h
        refine az_ild (k := x1.toNatClampNeg) C a62 g5 rfl dX12_isFresh_24 ?_
        refine az_icmp_eq C 32 dX12_isFresh_25 (by decide) (fun c6 => ?_) (fun c6 => ?_)
        · have h := az_t c6 h
          refine az_sub [0, 1, 3] rfl ?_
          exact s_X12_isFresh_32 C G (f_X12_isFresh_4 G F) ih x1 x3 M r h hp
        · have h := az_f c6 h
          refine az_iconst (v := 1) C dX12_isFresh_28 (by decide) ?_
          refine az_goto C 33 dX12_isFresh_29 (by decide) ?_
          refine az_sub [0, 1, 3] rfl ?_
          exact s_X12_isFresh_33 C G (f_X12_isFresh_4 G F) ih x1 x3 1 M r h hp
set_option maxHeartbeats 4000000 in
set_option maxRecDepth 100000 in
theorem s_X12_isFresh_e {Y : az_Y} {V : az_V} {post : Option Value → az_M → Prop} (C : az_C Y V cX12_isFresh 4 RX12 (some .boolean) 1) (G : Nat) (p0 : Int32) (M : az_M) (r : Int32) (h : f_X12_isFresh G p0 M = some r) (hp : post (some (.int r)) M) : AW Y V (az_end Y V post) 4 M 0 [(0, .ref (az_ad V 40)), (1, .int p0)] [] := by
  unfold f_X12_isFresh at h
  refine az_iconst (v := 1) C dX12_isFresh_0 (by decide) ?_
  refine az_istore_n C dX12_isFresh_1 rfl (by decide) rfl ?_
  refine az_iconst (v := 0) C dX12_isFresh_2 (by decide) ?_
  refine az_istore_n C dX12_isFresh_3 rfl (by decide) rfl ?_
  refine az_sub [2, 3, 1, 0] rfl ?_
  exact s_X12_isFresh_4 C G G p0 1 0 M r h hp
theorem c_X12_isFresh {l : Launch} {V : az_V} (hL : az_L V) (G : Nat) (p0 : Int32) (M : az_M) {r : Int32} (h : f_X12_isFresh G p0 M = some r) : az_Ct l V yX12_isFresh cX12_isFresh 4 (some .boolean) 1 [.ref (az_ad V 40), .int p0] M (fun v M' => v = some (.int r) ∧ M' = M) :=
  az_Ct.of (by decide) (Nat.le_of_ble_eq_true rfl) (fun Y _ _ C => s_X12_isFresh_e C G p0 M r h ⟨rfl, rfl⟩)
set_option maxHeartbeats 4000000 in
set_option maxRecDepth 100000 in
theorem s_X12_findOrders_78 {Y : az_Y} {V : az_V} {post : Option Value → az_M → Prop} (C : az_C Y V cX12_findOrders 4 RX12 none 9) (G : Nat) (K41 : (Int32 → Int32 → az_M → Option az_M)) (hK41 : ∀ (x1 : Int32) (x2 : Int32) (M : az_M) (r : az_M), K41 x1 x2 M = some r → post none r → AW Y V (az_end Y V post) 4 M 41 [(0, .ref (az_ad V 40)), (1, .int x1), (2, .int x2)] []) (x1 : Int32) (x2 : Int32) (s0 : Int32) (M : az_M) (r : az_M) (h : f_X12_findOrders_78 G K41 x1 x2 s0 M = some r) (hp : post none r) : AW Y V (az_end Y V post) 4 M 78 [(0, .ref (az_ad V 40)), (1, .int x1), (2, .int x2)] [.int s0, .ref (az_ad V 40)] := by
  have o40 := C.hL.at 40 (ci := 12) rfl
  unfold f_X12_findOrders_78 at h
  obtain ⟨q23, e24, h⟩ := az_b h
  refine az_cV (rest := []) (st2 := []) C [.int s0] (c_X12_putWait C.hL G s0 M e24) (by decide) li_X12_506 o40 (by decide) rfl rfl (Nat.le_of_ble_eq_true rfl) dX12_findOrders_78 rfl ?_
  refine az_goto C 41 dX12_findOrders_81 (by decide) ?_
  exact hK41 x1 x2 q23 r h hp
set_option maxHeartbeats 4000000 in
set_option maxRecDepth 100000 in
theorem s_X12_findOrders_146 {Y : az_Y} {V : az_V} {post : Option Value → az_M → Prop} (C : az_C Y V cX12_findOrders 4 RX12 none 9) (G : Nat) (K41 : (Int32 → Int32 → az_M → Option az_M)) (hK41 : ∀ (x1 : Int32) (x2 : Int32) (M : az_M) (r : az_M), K41 x1 x2 M = some r → post none r → AW Y V (az_end Y V post) 4 M 41 [(0, .ref (az_ad V 40)), (1, .int x1), (2, .int x2)] []) (x1 : Int32) (x2 : Int32) (M : az_M) (r : az_M) (h : f_X12_findOrders_146 G K41 x1 x2 M = some r) (hp : post none r) : AW Y V (az_end Y V post) 4 M 146 [(0, .ref (az_ad V 40)), (1, .int x1), (2, .int x2)] [] := by
  unfold f_X12_findOrders_146 at h
  refine az_goto C 41 dX12_findOrders_146 (by decide) ?_
  exact hK41 x1 x2 M r h hp
set_option maxHeartbeats 4000000 in
set_option maxRecDepth 100000 in
theorem s_X12_findOrders_141 {Y : az_Y} {V : az_V} {post : Option Value → az_M → Prop} (C : az_C Y V cX12_findOrders 4 RX12 none 9) (G : Nat) (K41 : (Int32 → Int32 → az_M → Option az_M)) (hK41 : ∀ (x1 : Int32) (x2 : Int32) (M : az_M) (r : az_M), K41 x1 x2 M = some r → post none r → AW Y V (az_end Y V post) 4 M 41 [(0, .ref (az_ad V 40)), (1, .int x1), (2, .int x2)] []) (x1 : Int32) (x2 : Int32) (M : az_M) (r : az_M) (h : f_X12_findOrders_141 G K41 x1 x2 M = some r) (hp : post none r) : AW Y V (az_end Y V post) 4 M 141 [(0, .ref (az_ad V 40)), (1, .int x1), (2, .int x2)] [] := by
  have o40 := C.hL.at 40 (ci := 12) rfl
  unfold f_X12_findOrders_141 at h
  refine az_aload_n C 0 dX12_findOrders_141 rfl ?_
  refine az_iload_n C 2 dX12_findOrders_142 rfl ?_
  obtain ⟨q28, e29, h⟩ := az_b h
  refine az_cV (rest := []) (st2 := []) C [.int x2] (c_X12_putWait C.hL G x2 M e29) (by decide) li_X12_506 o40 (by decide) rfl rfl (Nat.le_of_ble_eq_true rfl) dX12_findOrders_143 rfl ?_
  exact s_X12_findOrders_146 C G K41 hK41 x1 x2 q28 r h hp
set_option maxHeartbeats 4000000 in
set_option maxRecDepth 100000 in
theorem s_X12_findOrders_132 {Y : az_Y} {V : az_V} {post : Option Value → az_M → Prop} (C : az_C Y V cX12_findOrders 4 RX12 none 9) (G : Nat) (K41 : (Int32 → Int32 → az_M → Option az_M)) (hK41 : ∀ (x1 : Int32) (x2 : Int32) (M : az_M) (r : az_M), K41 x1 x2 M = some r → post none r → AW Y V (az_end Y V post) 4 M 41 [(0, .ref (az_ad V 40)), (1, .int x1), (2, .int x2)] []) (x1 : Int32) (x2 : Int32) (x3 : Int32) (M : az_M) (r : az_M) (h : f_X12_findOrders_132 G K41 x1 x2 x3 M = some r) (hp : post none r) : AW Y V (az_end Y V post) 4 M 132 [(0, .ref (az_ad V 40)), (1, .int x1), (2, .int x2), (3, .int x3)] [] := by
  have o40 := C.hL.at 40 (ci := 12) rfl
  unfold f_X12_findOrders_132 at h
  refine az_iload_n C 3 dX12_findOrders_132 rfl ?_
  refine az_if_eq C 141 dX12_findOrders_133 (by decide) (fun c25 => ?_) (fun c25 => ?_)
  · have h := az_t c25 h
    refine az_sub [0, 1, 2] rfl ?_
    exact s_X12_findOrders_141 C G K41 hK41 x1 x2 M r h hp
  · have h := az_f c25 h
    refine az_aload_n C 0 dX12_findOrders_136 rfl ?_
    refine az_iload_n C 1 dX12_findOrders_137 rfl ?_
    obtain ⟨q26, e27, h⟩ := az_b h
    refine az_cV (rest := []) (st2 := []) C [.int x1] (c_X12_keepOrder C.hL G x1 M e27) (by decide) li_X12_503 o40 (by decide) rfl rfl (Nat.le_of_ble_eq_true rfl) dX12_findOrders_138 rfl ?_
    refine az_sub [0, 1, 2] rfl ?_
    exact s_X12_findOrders_141 C G K41 hK41 x1 x2 q26 r h hp
set_option maxHeartbeats 4000000 in
set_option maxRecDepth 100000 in
theorem s_X12_findOrders_41 {Y : az_Y} {V : az_V} {post : Option Value → az_M → Prop} (C : az_C Y V cX12_findOrders 4 RX12 none 9) (G : Nat) : ∀ (F : Nat) (x1 : Int32) (x2 : Int32) (M : az_M) (r : az_M), f_X12_findOrders_41 G F x1 x2 M = some r → post none r → AW Y V (az_end Y V post) 4 M 41 [(0, .ref (az_ad V 40)), (1, .int x1), (2, .int x2)] [] := by
  have o40 := C.hL.at 40 (ci := 12) rfl
  have a62 := C.hL.ar 62 (t := 0) (len := 7) rfl
  intro F
  induction F with
  | zero =>
    intro x1 x2 M r h
    exact absurd (show (none : Option az_M) = some r from h) (fun q => by cases q)
  | succ F ih =>
    intro x1 x2 M r h hp
    rw [f_X12_findOrders_41] at h
    refine az_iload_n C 2 dX12_findOrders_41 rfl ?_
    refine az_if_lt C 149 dX12_findOrders_42 (by decide) (fun c6 => ?_) (fun c6 => ?_)
    · have h := az_t c6 h
      obtain rfl := Option.some.inj h
      exact az_vret C rfl dX12_findOrders_149 hp
    · have h := az_f c6 h
      refine az_aload_n C 0 dX12_findOrders_45 rfl ?_
      refine az_getr (r := 62) C o40 fl_X12_119 rfl rfl dX12_findOrders_46 ?_
      refine az_iload_n C 2 dX12_findOrders_49 rfl ?_
      refine az_dup2 C dX12_findOrders_50 rfl rfl ?_
      obtain ⟨g7, h⟩ := az_g h
      refine az_ild (k := x2.toNatClampNeg) C a62 g7 rfl dX12_findOrders_51 ?_
      refine az_iconst (v := 1) C dX12_findOrders_52 (by decide) ?_
      refine az_iadd C dX12_findOrders_53 ?_
      obtain ⟨g8, h⟩ := az_g h
      refine az_ist (k := x2.toNatClampNeg) C a62 g8 rfl dX12_findOrders_54 ?_
      refine az_aload_n C 0 dX12_findOrders_55 rfl ?_
      refine az_getr (r := 62) C o40 fl_X12_119 rfl rfl dX12_findOrders_56 ?_
      refine az_iload_n C 2 dX12_findOrders_59 rfl ?_
      obtain ⟨g9, h⟩ := az_g h
      refine az_ild (k := x2.toNatClampNeg) C a62 g9 rfl dX12_findOrders_60 ?_
      refine az_iload_n C 1 dX12_findOrders_61 rfl ?_
      refine az_icmp_ne C 84 dX12_findOrders_62 (by decide) (fun c10 => ?_) (fun c10 => ?_)
      · have h := az_f c10 h
        refine az_aload_n C 0 dX12_findOrders_84 rfl ?_
        refine az_iload_n C 2 dX12_findOrders_85 rfl ?_
        obtain ⟨q11, e12, h⟩ := az_b h
        refine az_cV (rest := []) (st2 := [.int q11]) C [.int x2] (c_X12_isFresh C.hL G x2 (az_i M 62 x2.toNatClampNeg ((M.1 62 x2.toNatClampNeg) + 1)) e12) (by decide) li_X12_509 o40 (by decide) rfl rfl (Nat.le_of_ble_eq_true rfl) dX12_findOrders_86 rfl ?_
        refine az_if_eq C 41 dX12_findOrders_89 (by decide) (fun c13 => ?_) (fun c13 => ?_)
        · have h := az_t c13 h
          exact ih x1 x2 (az_i M 62 x2.toNatClampNeg ((M.1 62 x2.toNatClampNeg) + 1)) r h hp
        · have h := az_f c13 h
          refine az_aload_n C 0 dX12_findOrders_92 rfl ?_
          refine az_aload_n C 0 dX12_findOrders_93 rfl ?_
          refine az_getr (r := 62) C o40 fl_X12_119 rfl rfl dX12_findOrders_94 ?_
          refine az_iload_n C 2 dX12_findOrders_97 rfl ?_
          obtain ⟨g14, h⟩ := az_g h
          refine az_ild (k := x2.toNatClampNeg) C a62 g14 rfl dX12_findOrders_98 ?_
          obtain ⟨q15, e16, h⟩ := az_b h
          refine az_cV (rest := []) (st2 := [.int q15.1]) C [.int ((az_i M 62 x2.toNatClampNeg ((M.1 62 x2.toNatClampNeg) + 1)).1 62 x2.toNatClampNeg)] (c_X12_isHad C.hL G ((az_i M 62 x2.toNatClampNeg ((M.1 62 x2.toNatClampNeg) + 1)).1 62 x2.toNatClampNeg) (az_i M 62 x2.toNatClampNeg ((M.1 62 x2.toNatClampNeg) + 1)) e16) (by decide) li_X12_512 o40 (by decide) rfl rfl (Nat.le_of_ble_eq_true rfl) dX12_findOrders_99 rfl ?_
          refine az_istore_n C dX12_findOrders_102 rfl (by decide) rfl ?_
          refine az_iload_n C 0 dX12_findOrders_103 rfl ?_
          refine az_if_eq C 132 dX12_findOrders_104 (by decide) (fun c17 => ?_) (fun c17 => ?_)
          · have h := az_t c17 h
            refine az_sub [1, 2, 3, 0] rfl ?_
            exact s_X12_findOrders_132 C G (f_X12_findOrders_41 G F) ih x1 x2 q15.1 q15.2 r h hp
          · have h := az_f c17 h
            refine az_iload_n C 3 dX12_findOrders_107 rfl ?_
            refine az_iload_n C 2 dX12_findOrders_108 rfl ?_
            refine az_iconst (v := 1) C dX12_findOrders_109 (by decide) ?_
            refine az_isub C dX12_findOrders_110 ?_
            refine az_icmp_ge C 132 dX12_findOrders_111 (by decide) (fun c18 => ?_) (fun c18 => ?_)
            · have h := az_t c18 h
              refine az_sub [1, 2, 3, 0] rfl ?_
              exact s_X12_findOrders_132 C G (f_X12_findOrders_41 G F) ih x1 x2 q15.1 q15.2 r h hp
            · have h := az_f c18 h
              refine az_iinc (v := (x2 + 1)) C 3 dX12_findOrders_114 rfl rfl (by decide) rfl ?_
              refine az_aload_n C 2 dX12_findOrders_117 rfl ?_
              refine az_iload_n C 0 dX12_findOrders_118 rfl ?_
              obtain ⟨q19, e20, h⟩ := az_b h
              refine az_cV (rest := []) (st2 := []) C [.int (x2 + 1)] (c_X12_keepWait C.hL G (x2 + 1) q15.2 e20) (by decide) li_X12_500 o40 (by decide) rfl rfl (Nat.le_of_ble_eq_true rfl) dX12_findOrders_119 rfl ?_
              refine az_aload_n C 2 dX12_findOrders_122 rfl ?_
              refine az_getr (r := 62) C o40 fl_X12_119 rfl rfl dX12_findOrders_123 ?_
              refine az_iload_n C 0 dX12_findOrders_126 rfl ?_
              refine az_iconst (v := (-1)) C dX12_findOrders_127 (by decide) ?_
              obtain ⟨g21, h⟩ := az_g h
              refine az_ist (k := (x2 + 1).toNatClampNeg) C a62 g21 rfl dX12_findOrders_128 ?_
              refine az_goto C 146 dX12_findOrders_129 (by decide) ?_
              refine az_sub [2, 3, 0] rfl ?_
              exact s_X12_findOrders_146 C G (f_X12_findOrders_41 G F) ih x1 (x2 + 1) (az_i q19 62 ((x2 + 1).toNatClampNeg) (-1)) r h hp
      · have h := az_t c10 h
        refine az_iinc (v := (x2 + (-1))) C 2 dX12_findOrders_65 rfl rfl (by decide) rfl ?_
        refine az_aload_n C 1 dX12_findOrders_68 rfl ?_
        refine az_iload_n C 0 dX12_findOrders_69 rfl ?_
        refine az_if_ge C 77 dX12_findOrders_70 (by decide) (fun c22 => ?_) (fun c22 => ?_)
        · have h := az_t c22 h
          refine az_iload_n C 0 dX12_findOrders_77 rfl ?_
          refine az_sub [1, 2, 0] rfl ?_
          exact s_X12_findOrders_78 C G (f_X12_findOrders_41 G F) ih x1 (x2 + (-1)) (x2 + (-1)) (az_i M 62 x2.toNatClampNeg ((M.1 62 x2.toNatClampNeg) + 1)) r h hp
        · have h := az_f c22 h
          refine az_iconst (v := 0) C dX12_findOrders_73 (by decide) ?_
          refine az_goto C 78 dX12_findOrders_74 (by decide) ?_
          refine az_sub [1, 2, 0] rfl ?_
          exact s_X12_findOrders_78 C G (f_X12_findOrders_41 G F) ih x1 (x2 + (-1)) 0 (az_i M 62 x2.toNatClampNeg ((M.1 62 x2.toNatClampNeg) + 1)) r h hp
set_option maxHeartbeats 4000000 in
set_option maxRecDepth 100000 in
theorem s_X12_findOrders_e {Y : az_Y} {V : az_V} {post : Option Value → az_M → Prop} (C : az_C Y V cX12_findOrders 4 RX12 none 9) (G : Nat)  (M : az_M) (r : az_M) (h : f_X12_findOrders G M = some r) (hp : post none r) : AW Y V (az_end Y V post) 4 M 0 [(0, .ref (az_ad V 40))] [] := by
  have o40 := C.hL.at 40 (ci := 12) rfl
  have a42 := C.hL.ar 42 (t := 0) (len := 5550) rfl
  have a62 := C.hL.ar 62 (t := 0) (len := 7) rfl
  unfold f_X12_findOrders at h
  refine az_aload_n C 0 dX12_findOrders_0 rfl ?_
  refine az_getr (r := 42) C o40 fl_X12_13 rfl rfl dX12_findOrders_1 ?_
  refine az_iconst (v := 2) C dX12_findOrders_4 (by decide) ?_
  refine az_ild (k := 2) C a42 (az_vin (by decide)) (by decide) dX12_findOrders_5 ?_
  refine az_istore_n C dX12_findOrders_6 rfl (by decide) rfl ?_
  refine az_aload_n C 1 dX12_findOrders_7 rfl ?_
  refine az_iconst (v := 0) C dX12_findOrders_8 (by decide) ?_
  refine az_puti C o40 fl_X12_494 rfl rfl rfl rfl dX12_findOrders_9 ?_
  refine az_aload_n C 1 dX12_findOrders_12 rfl ?_
  refine az_iconst (v := (-1)) C dX12_findOrders_13 (by decide) ?_
  refine az_puti C o40 fl_X12_497 rfl rfl rfl rfl dX12_findOrders_14 ?_
  refine az_aload_n C 1 dX12_findOrders_17 rfl ?_
  refine az_iconst (v := 0) C dX12_findOrders_18 (by decide) ?_
  obtain ⟨q1, e2, h⟩ := az_b h
  refine az_cV (rest := []) (st2 := []) C [.int 0] (c_X12_keepWait C.hL G 0 (az_i (az_i M 40 48 0) 40 47 (-1)) e2) (by decide) li_X12_500 o40 (by decide) rfl rfl (Nat.le_of_ble_eq_true rfl) dX12_findOrders_19 rfl ?_
  refine az_iload_n C 0 dX12_findOrders_22 rfl ?_
  refine az_if_ne C 32 dX12_findOrders_23 (by decide) (fun c3 => ?_) (fun c3 => ?_)
  · have h := az_f c3 h
    refine az_iconst (v := 0) C dX12_findOrders_32 (by decide) ?_
    refine az_istore_n C dX12_findOrders_33 rfl (by decide) rfl ?_
    refine az_aload_n C 2 dX12_findOrders_34 rfl ?_
    refine az_getr (r := 62) C o40 fl_X12_119 rfl rfl dX12_findOrders_35 ?_
    refine az_iconst (v := 0) C dX12_findOrders_38 (by decide) ?_
    refine az_iconst (v := (-1)) C dX12_findOrders_39 (by decide) ?_
    refine az_ist (k := 0) C a62 (az_vin (by decide)) (by decide) dX12_findOrders_40 ?_
    refine az_sub [2, 1, 0] rfl ?_
    exact s_X12_findOrders_41 C G G (M.1 42 2) 0 (az_i q1 62 0 (-1)) r h hp
  · have h := az_t c3 h
    refine az_aload_n C 1 dX12_findOrders_26 rfl ?_
    refine az_iconst (v := 0) C dX12_findOrders_27 (by decide) ?_
    obtain ⟨q4, e5, h⟩ := az_b h
    refine az_cV (rest := []) (st2 := []) C [.int 0] (c_X12_keepOrder C.hL G 0 q1 e5) (by decide) li_X12_503 o40 (by decide) rfl rfl (Nat.le_of_ble_eq_true rfl) dX12_findOrders_28 rfl ?_
    obtain rfl := Option.some.inj h
    exact az_vret C rfl dX12_findOrders_31 hp
theorem c_X12_findOrders {l : Launch} {V : az_V} (hL : az_L V) (G : Nat)  (M : az_M) {r : az_M} (h : f_X12_findOrders G M = some r) : az_Ct l V yX12_findOrders cX12_findOrders 4 none 9 [.ref (az_ad V 40)] M (fun v M' => v = none ∧ M' = r) :=
  az_Ct.of (by decide) (Nat.le_of_ble_eq_true rfl) (fun Y _ _ C => s_X12_findOrders_e C G M r h ⟨rfl, rfl⟩)
set_option maxHeartbeats 4000000 in
set_option maxRecDepth 100000 in
theorem s_X12_queue_79 {Y : az_Y} {V : az_V} {post : Option Value → az_M → Prop} (C : az_C Y V cX12_queue 3 RX12 (some .int) 10) (G : Nat) (s0 : Int32) (M : az_M) (r : (Int32 × az_M)) (h : f_X12_queue_79 G s0 M = some r) (hp : post (some (.int r.1)) r.2) : AW Y V (az_end Y V post) 3 M 79 [] [.int s0] := by
  unfold f_X12_queue_79 at h
  obtain rfl := Option.some.inj h
  exact az_iret C dX12_queue_79 hp
set_option maxHeartbeats 4000000 in
set_option maxRecDepth 100000 in
theorem s_X12_queue_67 {Y : az_Y} {V : az_V} {post : Option Value → az_M → Prop} (C : az_C Y V cX12_queue 3 RX12 (some .int) 10) (G : Nat) (x1 : Int32) (M : az_M) (r : (Int32 × az_M)) (h : f_X12_queue_67 G x1 M = some r) (hp : post (some (.int r.1)) r.2) : AW Y V (az_end Y V post) 3 M 67 [(0, .ref (az_ad V 40)), (1, .int x1)] [] := by
  have o40 := C.hL.at 40 (ci := 12) rfl
  unfold f_X12_queue_67 at h
  refine az_iload_n C 1 dX12_queue_67 rfl ?_
  refine az_if_ne C 78 dX12_queue_68 (by decide) (fun c17 => ?_) (fun c17 => ?_)
  · have h := az_f c17 h
    refine az_iconst (v := (-1)) C dX12_queue_78 (by decide) ?_
    refine az_sub [] rfl ?_
    exact s_X12_queue_79 C G (-1) M r h hp
  · have h := az_t c17 h
    refine az_aload_n C 0 dX12_queue_71 rfl ?_
    refine az_geti C o40 fl_X12_494 rfl dX12_queue_72 ?_
    refine az_goto C 79 dX12_queue_75 (by decide) ?_
    refine az_sub [] rfl ?_
    exact s_X12_queue_79 C G (M.1 40 48) M r h hp
set_option maxHeartbeats 4000000 in
set_option maxRecDepth 100000 in
theorem s_X12_queue_119 {Y : az_Y} {V : az_V} {post : Option Value → az_M → Prop} (C : az_C Y V cX12_queue 3 RX12 (some .int) 10) (G : Nat) (s0 : Int32) (M : az_M) (r : (Int32 × az_M)) (h : f_X12_queue_119 G s0 M = some r) (hp : post (some (.int r.1)) r.2) : AW Y V (az_end Y V post) 3 M 119 [] [.int s0] := by
  unfold f_X12_queue_119 at h
  obtain rfl := Option.some.inj h
  exact az_iret C dX12_queue_119 hp
set_option maxHeartbeats 4000000 in
set_option maxRecDepth 100000 in
theorem s_X12_queue_52 {Y : az_Y} {V : az_V} {post : Option Value → az_M → Prop} (C : az_C Y V cX12_queue 3 RX12 (some .int) 10) (G : Nat) (x1 : Int32) (M : az_M) (r : (Int32 × az_M)) (h : f_X12_queue_52 G x1 M = some r) (hp : post (some (.int r.1)) r.2) : AW Y V (az_end Y V post) 3 M 52 [(0, .ref (az_ad V 40)), (1, .int x1)] [] := by
  have o40 := C.hL.at 40 (ci := 12) rfl
  have a63 := C.hL.ar 63 (t := 0) (len := 7) rfl
  have a64 := C.hL.ar 64 (t := 0) (len := 7) rfl
  unfold f_X12_queue_52 at h
  refine az_aload_n C 0 dX12_queue_52 rfl ?_
  obtain ⟨q9, e10, h⟩ := az_b h
  refine az_cV (rest := []) (st2 := []) C [] (c_X12_findOrders C.hL G M e10) (by decide) li_X12_515 o40 (by decide) rfl rfl (Nat.le_of_ble_eq_true rfl) dX12_queue_53 rfl ?_
  refine az_iload_n C 1 dX12_queue_56 rfl ?_
  refine az_if_eq C 67 dX12_queue_57 (by decide) (fun c11 => ?_) (fun c11 => ?_)
  · have h := az_t c11 h
    exact s_X12_queue_67 C G x1 q9 r h hp
  · have h := az_f c11 h
    refine az_aload_n C 0 dX12_queue_60 rfl ?_
    refine az_geti C o40 fl_X12_494 rfl dX12_queue_61 ?_
    refine az_if_ne C 80 dX12_queue_64 (by decide) (fun c12 => ?_) (fun c12 => ?_)
    · have h := az_f c12 h
      refine az_iload_n C 1 dX12_queue_80 rfl ?_
      refine az_bipush (v := 21) C dX12_queue_81 (by decide) ?_
      refine az_icmp_ne C 93 dX12_queue_83 (by decide) (fun c13 => ?_) (fun c13 => ?_)
      · have h := az_f c13 h
        refine az_iload_n C 1 dX12_queue_93 rfl ?_
        refine az_bipush (v := 11) C dX12_queue_94 (by decide) ?_
        refine az_icmp_ge C 110 dX12_queue_96 (by decide) (fun c14 => ?_) (fun c14 => ?_)
        · have h := az_t c14 h
          refine az_aload_n C 0 dX12_queue_110 rfl ?_
          refine az_getr (r := 64) C o40 fl_X12_125 rfl rfl dX12_queue_111 ?_
          refine az_iload_n C 1 dX12_queue_114 rfl ?_
          refine az_bipush (v := 11) C dX12_queue_115 (by decide) ?_
          refine az_isub C dX12_queue_117 ?_
          obtain ⟨g15, h⟩ := az_g h
          refine az_ild (k := (x1 - 11).toNatClampNeg) C a64 g15 rfl dX12_queue_118 ?_
          refine az_sub [] rfl ?_
          exact s_X12_queue_119 C G (q9.1 64 ((x1 - 11).toNatClampNeg)) q9 r h hp
        · have h := az_f c14 h
          refine az_aload_n C 0 dX12_queue_99 rfl ?_
          refine az_getr (r := 63) C o40 fl_X12_122 rfl rfl dX12_queue_100 ?_
          refine az_iload_n C 1 dX12_queue_103 rfl ?_
          refine az_iconst (v := 1) C dX12_queue_104 (by decide) ?_
          refine az_isub C dX12_queue_105 ?_
          obtain ⟨g16, h⟩ := az_g h
          refine az_ild (k := (x1 - 1).toNatClampNeg) C a63 g16 rfl dX12_queue_106 ?_
          refine az_goto C 119 dX12_queue_107 (by decide) ?_
          refine az_sub [] rfl ?_
          exact s_X12_queue_119 C G (q9.1 63 ((x1 - 1).toNatClampNeg)) q9 r h hp
      · have h := az_t c13 h
        refine az_aload_n C 0 dX12_queue_86 rfl ?_
        refine az_geti C o40 fl_X12_497 rfl dX12_queue_87 ?_
        refine az_goto C 119 dX12_queue_90 (by decide) ?_
        refine az_sub [] rfl ?_
        exact s_X12_queue_119 C G (q9.1 40 47) q9 r h hp
    · have h := az_t c12 h
      exact s_X12_queue_67 C G x1 q9 r h hp
set_option maxHeartbeats 4000000 in
set_option maxRecDepth 100000 in
theorem s_X12_queue_e {Y : az_Y} {V : az_V} {post : Option Value → az_M → Prop} (C : az_C Y V cX12_queue 3 RX12 (some .int) 10) (G : Nat) (p0 : Int32) (M : az_M) (r : (Int32 × az_M)) (h : f_X12_queue G p0 M = some r) (hp : post (some (.int r.1)) r.2) : AW Y V (az_end Y V post) 3 M 0 [(0, .ref (az_ad V 40)), (1, .int p0)] [] := by
  have o40 := C.hL.at 40 (ci := 12) rfl
  have a42 := C.hL.ar 42 (t := 0) (len := 5550) rfl
  unfold f_X12_queue at h
  refine az_aload_n C 0 dX12_queue_0 rfl ?_
  refine az_iconst (v := 0) C dX12_queue_1 (by decide) ?_
  refine az_puti C o40 fl_X12_149 rfl rfl rfl rfl dX12_queue_2 ?_
  refine az_aload_n C 0 dX12_queue_5 rfl ?_
  refine az_getr (r := 42) C o40 fl_X12_13 rfl rfl dX12_queue_6 ?_
  refine az_iconst (v := 2) C dX12_queue_9 (by decide) ?_
  refine az_ild (k := 2) C a42 (az_vin (by decide)) (by decide) dX12_queue_10 ?_
  refine az_istore_n C dX12_queue_11 rfl (by decide) rfl ?_
  refine az_iload_n C 2 dX12_queue_12 rfl ?_
  refine az_if_eq C 52 dX12_queue_13 (by decide) (fun c1 => ?_) (fun c1 => ?_)
  · have h := az_t c1 h
    refine az_sub [1, 2] rfl ?_
    exact s_X12_queue_52 C G p0 (az_i M 40 0 0) r h hp
  · have h := az_f c1 h
    refine az_iload_n C 2 dX12_queue_16 rfl ?_
    refine az_bipush (v := 21) C dX12_queue_17 (by decide) ?_
    refine az_icmp_eq C 52 dX12_queue_19 (by decide) (fun c2 => ?_) (fun c2 => ?_)
    · have h := az_t c2 h
      refine az_sub [1, 2] rfl ?_
      exact s_X12_queue_52 C G p0 (az_i M 40 0 0) r h hp
    · have h := az_f c2 h
      refine az_iload_n C 2 dX12_queue_22 rfl ?_
      refine az_i2l C dX12_queue_23 ?_
      refine az_lconst (v := 1) C dX12_queue_24 (by decide) ?_
      refine az_iload_n C 0 dX12_queue_25 rfl ?_
      refine az_i2l C dX12_queue_26 ?_
      obtain ⟨q3, e4, h⟩ := az_b h
      refine az_cS (rest := []) (st2 := [.int q3]) C [.long p0.toInt64, .long 1, .long (((az_i M 40 0 0).1 42 2).toInt64)] (c_X12_in C.hL p0.toInt64 1 (((az_i M 40 0 0).1 42 2).toInt64) (az_i M 40 0 0) e4) (by decide) li_X12_169 rfl rfl (Nat.le_of_ble_eq_true rfl) dX12_queue_27 rfl ?_
      refine az_if_ne C 52 dX12_queue_30 (by decide) (fun c5 => ?_) (fun c5 => ?_)
      · have h := az_f c5 h
        refine az_sub [1, 2] rfl ?_
        exact s_X12_queue_52 C G p0 (az_i M 40 0 0) r h hp
      · have h := az_t c5 h
        refine az_iload_n C 2 dX12_queue_33 rfl ?_
        refine az_i2l C dX12_queue_34 ?_
        refine az_ldc2 C ck_X12_361 dX12_queue_35 ?_
        refine az_ldc2 C ck_X12_224 dX12_queue_38 ?_
        refine az_iload_n C 0 dX12_queue_41 rfl ?_
        refine az_i2l C dX12_queue_42 ?_
        refine az_ladd C dX12_queue_43 ?_
        obtain ⟨q6, e7, h⟩ := az_b h
        refine az_cS (rest := []) (st2 := [.int q6]) C [.long p0.toInt64, .long 11, .long (10 + ((az_i M 40 0 0).1 42 2).toInt64)] (c_X12_in C.hL p0.toInt64 11 (10 + ((az_i M 40 0 0).1 42 2).toInt64) (az_i M 40 0 0) e7) (by decide) li_X12_169 rfl rfl (Nat.le_of_ble_eq_true rfl) dX12_queue_44 rfl ?_
        refine az_if_ne C 52 dX12_queue_47 (by decide) (fun c8 => ?_) (fun c8 => ?_)
        · have h := az_f c8 h
          refine az_sub [1, 2] rfl ?_
          exact s_X12_queue_52 C G p0 (az_i M 40 0 0) r h hp
        · have h := az_t c8 h
          refine az_iconst (v := (-1)) C dX12_queue_50 (by decide) ?_
          obtain rfl := Option.some.inj h
          exact az_iret C dX12_queue_51 hp
theorem c_X12_queue {l : Launch} {V : az_V} (hL : az_L V) (G : Nat) (p0 : Int32) (M : az_M) {r : (Int32 × az_M)} (h : f_X12_queue G p0 M = some r) : az_Ct l V yX12_queue cX12_queue 3 (some .int) 10 [.ref (az_ad V 40), .int p0] M (fun v M' => v = some (.int r.1) ∧ M' = r.2) :=
  az_Ct.of (by decide) (Nat.le_of_ble_eq_true rfl) (fun Y _ _ C => s_X12_queue_e C G p0 M r h ⟨rfl, rfl⟩)
set_option maxHeartbeats 4000000 in
set_option maxRecDepth 100000 in
theorem s_X12_spades_50 {Y : az_Y} {V : az_V} {post : Option Value → az_M → Prop} (C : az_C Y V cX12_spades 4 RX12 (some .int) 10) (G : Nat) (K15 : (Int32 → Int32 → Int32 → az_M → Option (Int32 × az_M))) (hK15 : ∀ (x1 : Int32) (x2 : Int32) (x3 : Int32) (M : az_M) (r : (Int32 × az_M)), K15 x1 x2 x3 M = some r → post (some (.int r.1)) r.2 → AW Y V (az_end Y V post) 4 M 15 [(0, .ref (az_ad V 40)), (1, .int x1), (2, .int x2), (3, .int x3)] []) (x1 : Int32) (x3 : Int32) (s0 : Int32) (M : az_M) (r : (Int32 × az_M)) (h : f_X12_spades_50 G K15 x1 x3 s0 M = some r) (hp : post (some (.int r.1)) r.2) : AW Y V (az_end Y V post) 4 M 50 [(0, .ref (az_ad V 40)), (1, .int x1), (3, .int x3)] [.int s0] := by
  unfold f_X12_spades_50 at h
  refine az_istore_n C dX12_spades_50 rfl (by decide) rfl ?_
  refine az_iinc (v := (x3 + 1)) C 3 dX12_spades_51 rfl rfl (by decide) rfl ?_
  refine az_goto C 15 dX12_spades_54 (by decide) ?_
  refine az_sub [2, 3, 1, 0] rfl ?_
  exact hK15 x1 s0 (x3 + 1) M r h hp
set_option maxHeartbeats 4000000 in
set_option maxRecDepth 100000 in
theorem s_X12_spades_57 {Y : az_Y} {V : az_V} {post : Option Value → az_M → Prop} (C : az_C Y V cX12_spades 4 RX12 (some .int) 10) (G : Nat) (x1 : Int32) (x2 : Int32) (M : az_M) (r : (Int32 × az_M)) (h : f_X12_spades_57 G x1 x2 M = some r) (hp : post (some (.int r.1)) r.2) : AW Y V (az_end Y V post) 4 M 57 [(0, .ref (az_ad V 40)), (1, .int x1), (2, .int x2)] [] := by
  have o40 := C.hL.at 40 (ci := 12) rfl
  have a42 := C.hL.ar 42 (t := 0) (len := 5550) rfl
  unfold f_X12_spades_57 at h
  refine az_aload_n C 0 dX12_spades_57 rfl ?_
  refine az_getr (r := 42) C o40 fl_X12_13 rfl rfl dX12_spades_58 ?_
  refine az_bipush (v := 9) C dX12_spades_61 (by decide) ?_
  refine az_iload_n C 1 dX12_spades_63 rfl ?_
  refine az_ist (k := 9) C a42 (az_vin (by decide)) (by decide) dX12_spades_64 ?_
  refine az_iload_n C 2 dX12_spades_65 rfl ?_
  obtain rfl := Option.some.inj h
  exact az_iret C dX12_spades_66 hp
set_option maxHeartbeats 4000000 in
set_option maxRecDepth 100000 in
theorem s_X12_spades_15 {Y : az_Y} {V : az_V} {post : Option Value → az_M → Prop} (C : az_C Y V cX12_spades 4 RX12 (some .int) 10) (G : Nat) : ∀ (F : Nat) (x1 : Int32) (x2 : Int32) (x3 : Int32) (M : az_M) (r : (Int32 × az_M)), f_X12_spades_15 G F x1 x2 x3 M = some r → post (some (.int r.1)) r.2 → AW Y V (az_end Y V post) 4 M 15 [(0, .ref (az_ad V 40)), (1, .int x1), (2, .int x2), (3, .int x3)] [] := by
  have o40 := C.hL.at 40 (ci := 12) rfl
  have a42 := C.hL.ar 42 (t := 0) (len := 5550) rfl
  intro F
  induction F with
  | zero =>
    intro x1 x2 x3 M r h
    exact absurd (show (none : Option (Int32 × az_M)) = some r from h) (fun q => by cases q)
  | succ F ih =>
    intro x1 x2 x3 M r h hp
    rw [f_X12_spades_15] at h
    refine az_iload_n C 3 dX12_spades_15 rfl ?_
    refine az_bipush (v := 10) C dX12_spades_16 (by decide) ?_
    refine az_icmp_ge C 57 dX12_spades_18 (by decide) (fun c3 => ?_) (fun c3 => ?_)
    · have h := az_t c3 h
      refine az_sub [0, 1, 2] rfl ?_
      exact s_X12_spades_57 C G x1 x2 M r h hp
    · have h := az_f c3 h
      refine az_iload_n C 2 dX12_spades_21 rfl ?_
      refine az_iconst (v := (-1)) C dX12_spades_22 (by decide) ?_
      refine az_icmp_ne C 57 dX12_spades_23 (by decide) (fun c4 => ?_) (fun c4 => ?_)
      · have h := az_f c4 h
        refine az_sub [0, 1, 2] rfl ?_
        exact s_X12_spades_57 C G x1 x2 M r h hp
      · have h := az_t c4 h
        refine az_aload_n C 0 dX12_spades_26 rfl ?_
        refine az_getr (r := 42) C o40 fl_X12_13 rfl rfl dX12_spades_27 ?_
        refine az_bipush (v := 9) C dX12_spades_30 (by decide) ?_
        refine az_iload_n C 3 dX12_spades_32 rfl ?_
        refine az_ist (k := 9) C a42 (az_vin (by decide)) (by decide) dX12_spades_33 ?_
        refine az_aload_n C 0 dX12_spades_34 rfl ?_
        obtain ⟨q5, e6, h⟩ := az_b h
        refine az_cV (rest := []) (st2 := []) C [] (c_X12_findOrders C.hL G (az_i M 42 9 x3) e6) (by decide) li_X12_515 o40 (by decide) rfl rfl (Nat.le_of_ble_eq_true rfl) dX12_spades_35 rfl ?_
        refine az_aload_n C 0 dX12_spades_38 rfl ?_
        refine az_geti C o40 fl_X12_494 rfl dX12_spades_39 ?_
        refine az_if_le C 49 dX12_spades_42 (by decide) (fun c7 => ?_) (fun c7 => ?_)
        · have h := az_t c7 h
          refine az_iconst (v := (-1)) C dX12_spades_49 (by decide) ?_
          refine az_sub [0, 1, 3] rfl ?_
          exact s_X12_spades_50 C G (f_X12_spades_15 G F) ih x1 x3 (-1) q5 r h hp
        · have h := az_f c7 h
          refine az_iload_n C 3 dX12_spades_45 rfl ?_
          refine az_goto C 50 dX12_spades_46 (by decide) ?_
          refine az_sub [0, 1, 3] rfl ?_
          exact s_X12_spades_50 C G (f_X12_spades_15 G F) ih x1 x3 x3 q5 r h hp
set_option maxHeartbeats 4000000 in
set_option maxRecDepth 100000 in
theorem s_X12_spades_e {Y : az_Y} {V : az_V} {post : Option Value → az_M → Prop} (C : az_C Y V cX12_spades 4 RX12 (some .int) 10) (G : Nat)  (M : az_M) (r : (Int32 × az_M)) (h : f_X12_spades G M = some r) (hp : post (some (.int r.1)) r.2) : AW Y V (az_end Y V post) 4 M 0 [(0, .ref (az_ad V 40))] [] := by
  have o40 := C.hL.at 40 (ci := 12) rfl
  unfold f_X12_spades at h
  refine az_aload_n C 0 dX12_spades_0 rfl ?_
  refine az_iconst (v := 0) C dX12_spades_1 (by decide) ?_
  refine az_puti C o40 fl_X12_149 rfl rfl rfl rfl dX12_spades_2 ?_
  refine az_aload_n C 0 dX12_spades_5 rfl ?_
  refine az_iconst (v := 3) C dX12_spades_6 (by decide) ?_
  obtain ⟨q1, e2, h⟩ := az_b h
  refine az_cV (rest := []) (st2 := [.int q1]) C [.int 3] (c_X12_term C.hL 3 (az_i M 40 0 0) e2) (by decide) li_X12_189 o40 (by decide) rfl rfl (Nat.le_of_ble_eq_true rfl) dX12_spades_7 rfl ?_
  refine az_istore_n C dX12_spades_10 rfl (by decide) rfl ?_
  refine az_iconst (v := (-1)) C dX12_spades_11 (by decide) ?_
  refine az_istore_n C dX12_spades_12 rfl (by decide) rfl ?_
  refine az_iconst (v := 1) C dX12_spades_13 (by decide) ?_
  refine az_istore_n C dX12_spades_14 rfl (by decide) rfl ?_
  refine az_sub [3, 2, 1, 0] rfl ?_
  exact s_X12_spades_15 C G G q1 (-1) 1 (az_i M 40 0 0) r h hp
theorem c_X12_spades {l : Launch} {V : az_V} (hL : az_L V) (G : Nat)  (M : az_M) {r : (Int32 × az_M)} (h : f_X12_spades G M = some r) : az_Ct l V yX12_spades cX12_spades 4 (some .int) 10 [.ref (az_ad V 40)] M (fun v M' => v = some (.int r.1) ∧ M' = r.2) :=
  az_Ct.of (by decide) (Nat.le_of_ble_eq_true rfl) (fun Y _ _ C => s_X12_spades_e C G M r h ⟨rfl, rfl⟩)
