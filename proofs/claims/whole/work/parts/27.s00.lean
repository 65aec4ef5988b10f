set_option maxHeartbeats 4000000 in
set_option maxRecDepth 100000 in
theorem s_X7_forget_e {Y : az_Y} {V : az_V} {post : Option Value → az_M → Prop} (C : az_C Y V cX7_forget 1 RX7 none 1)  (M : az_M) (r : az_M) (h : f_X7_forget M = some r) (hp : post none r) : AW Y V (az_end Y V post) 1 M 0 [(0, .ref (az_ad V 34))] [] := by
  have o34 := C.hL.at 34 (ci := 7) rfl
  unfold f_X7_forget at h
  refine az_aload_n C 0 dX7_forget_0 rfl ?_
  refine az_iconst (v := 0) C dX7_forget_1 (by decide) ?_
  refine az_puti C o34 fl_X7_28 rfl rfl rfl rfl dX7_forget_2 ?_
  obtain rfl := Option.some.inj h
  exact az_vret C rfl dX7_forget_5 hp
theorem c_X7_forget {l : Launch} {V : az_V} (hL : az_L V)  (M : az_M) {r : az_M} (h : f_X7_forget M = some r) : az_Ct l V yX7_forget cX7_forget 1 none 1 [.ref (az_ad V 34)] M (fun v M' => v = none ∧ M' = r) :=
  az_Ct.of (by decide) (Nat.le_of_ble_eq_true rfl) (fun Y _ _ C => s_X7_forget_e C M r h ⟨rfl, rfl⟩)
set_option maxHeartbeats 4000000 in
set_option maxRecDepth 100000 in
theorem s_X7_inRow_e {Y : az_Y} {V : az_V} {post : Option Value → az_M → Prop} (C : az_C Y V cX7_inRow 3 RX7 (some .int) 1) (p0 : Int32) (p1 : Int32) (p2 : Int32) (M : az_M) (r : Int32) (h : f_X7_inRow p0 p1 p2 M = some r) (hp : post (some (.int r)) M) : AW Y V (az_end Y V post) 3 M 0 [(0, .int p0), (1, .int p1), (2, .int p2)] [] := by
  unfold f_X7_inRow at h
  refine az_iload_n C 0 dX7_inRow_0 rfl ?_
  refine az_iconst (v := 4) C dX7_inRow_1 (by decide) ?_
  refine az_iload_n C 1 dX7_inRow_2 rfl ?_
  refine az_iconst (v := 1) C dX7_inRow_3 (by decide) ?_
  refine az_isub C dX7_inRow_4 ?_
  refine az_iload_n C 2 dX7_inRow_5 rfl ?_
  refine az_isub C dX7_inRow_6 ?_
  refine az_imul C dX7_inRow_7 ?_
  refine az_ishr C dX7_inRow_8 ?_
  refine az_bipush (v := 15) C dX7_inRow_9 (by decide) ?_
  refine az_iand C dX7_inRow_11 ?_
  obtain rfl := Option.some.inj h
  exact az_iret C dX7_inRow_12 hp
theorem c_X7_inRow {l : Launch} {V : az_V} (hL : az_L V) (p0 : Int32) (p1 : Int32) (p2 : Int32) (M : az_M) {r : Int32} (h : f_X7_inRow p0 p1 p2 M = some r) : az_Ct l V yX7_inRow cX7_inRow 3 (some .int) 1 [.int p0, .int p1, .int p2] M (fun v M' => v = some (.int r) ∧ M' = M) :=
  az_Ct.of (by decide) (Nat.le_of_ble_eq_true rfl) (fun Y _ _ C => s_X7_inRow_e C p0 p1 p2 M r h ⟨rfl, rfl⟩)
set_option maxHeartbeats 4000000 in
set_option maxRecDepth 100000 in
theorem s_X7_forgetBehind_2 {Y : az_Y} {V : az_V} {post : Option Value → az_M → Prop} (C : az_C Y V cX7_forgetBehind 2 RX7 none 1) (G : Nat) : ∀ (F : Nat) (x1 : Int32) (M : az_M) (r : az_M), f_X7_forgetBehind_2 G F x1 M = some r → post none r → AW Y V (az_end Y V post) 2 M 2 [(0, .ref (az_ad V 34)), (1, .int x1)] [] := by
  have o34 := C.hL.at 34 (ci := 7) rfl
  have a38 := C.hL.ar 38 (t := 0) (len := 128) rfl
  intro F
  induction F with
  | zero =>
    intro x1 M r h
    exact absurd (show (none : Option az_M) = some r from h) (fun q => by cases q)
  | succ F ih =>
    intro x1 M r h hp
    rw [f_X7_forgetBehind_2] at h
    refine az_iload_n C 1 dX7_forgetBehind_2 rfl ?_
    refine az_aload_n C 0 dX7_forgetBehind_3 rfl ?_
    refine az_getr (r := 38) C o34 fl_X7_22 rfl rfl dX7_forgetBehind_4 ?_
    refine az_alen (v := 128) C a38 rfl (by decide) dX7_forgetBehind_7 ?_
    refine az_icmp_ge C 24 dX7_forgetBehind_8 (by decide) (fun c1 => ?_) (fun c1 => ?_)
    · have h := az_t c1 h
      obtain rfl := Option.some.inj h
      exact az_vret C rfl dX7_forgetBehind_24 hp
    · have h := az_f c1 h
      refine az_aload_n C 0 dX7_forgetBehind_11 rfl ?_
      refine az_getr (r := 38) C o34 fl_X7_22 rfl rfl dX7_forgetBehind_12 ?_
      refine az_iload_n C 1 dX7_forgetBehind_15 rfl ?_
      refine az_iconst (v := (-1)) C dX7_forgetBehind_16 (by decide) ?_
      obtain ⟨g2, h⟩ := az_g h
      refine az_ist (k := x1.toNatClampNeg) C a38 g2 rfl dX7_forgetBehind_17 ?_
      refine az_iinc (v := (x1 + 1)) C 1 dX7_forgetBehind_18 rfl rfl (by decide) rfl ?_
      refine az_goto C 2 dX7_forgetBehind_21 (by decide) ?_
      refine az_sub [1, 0] rfl ?_
      exact ih (x1 + 1) (az_i M 38 x1.toNatClampNeg (-1)) r h hp
set_option maxHeartbeats 4000000 in
set_option maxRecDepth 100000 in
theorem s_X7_forgetBehind_e {Y : az_Y} {V : az_V} {post : Option Value → az_M → Prop} (C : az_C Y V cX7_forgetBehind 2 RX7 none 1) (G : Nat)  (M : az_M) (r : az_M) (h : f_X7_forgetBehind G M = some r) (hp : post none r) : AW Y V (az_end Y V post) 2 M 0 [(0, .ref (az_ad V 34))] [] := by
  unfold f_X7_forgetBehind at h
  refine az_iconst (v := 0) C dX7_forgetBehind_0 (by decide) ?_
  refine az_istore_n C dX7_forgetBehind_1 rfl (by decide) rfl ?_
  refine az_sub [1, 0] rfl ?_
  exact s_X7_forgetBehind_2 C G G 0 M r h hp
theorem c_X7_forgetBehind {l : Launch} {V : az_V} (hL : az_L V) (G : Nat)  (M : az_M) {r : az_M} (h : f_X7_forgetBehind G M = some r) : az_Ct l V yX7_forgetBehind cX7_forgetBehind 2 none 1 [.ref (az_ad V 34)] M (fun v M' => v = none ∧ M' = r) :=
  az_Ct.of (by decide) (Nat.le_of_ble_eq_true rfl) (fun Y _ _ C => s_X7_forgetBehind_e C G M r h ⟨rfl, rfl⟩)
set_option maxHeartbeats 4000000 in
set_option maxRecDepth 100000 in
theorem s_X7_canBeMissed_92 {Y : az_Y} {V : az_V} {post : Option Value → az_M → Prop} (C : az_C Y V cX7_canBeMissed 4 RX7 (some .boolean) 5) (G : Nat) (s0 : Int32) (M : az_M) (r : (Int32 × az_M)) (h : f_X7_canBeMissed_92 (az_z V) G s0 M = some r) (hp : post (some (.int r.1)) r.2) : AW Y V (az_end Y V post) 4 M 92 [] [.int s0] := by
  unfold f_X7_canBeMissed_92 at h
  obtain ⟨g10, h⟩ := az_g2 h
  obtain rfl := Option.some.inj h
  exact az_zret C dX7_canBeMissed_92 (az_nz g10) hp
set_option maxHeartbeats 4000000 in
set_option maxRecDepth 100000 in
theorem s_X7_canBeMissed_15 {Y : az_Y} {V : az_V} {post : Option Value → az_M → Prop} (C : az_C Y V cX7_canBeMissed 4 RX7 (some .boolean) 5) (G : Nat) : ∀ (F : Nat) (x1 : Int32) (x2 : Int32) (x3 : Int32) (M : az_M) (r : (Int32 × az_M)), f_X7_canBeMissed_15 (az_z V) G F x1 x2 x3 M = some r → post (some (.int r.1)) r.2 → AW Y V (az_end Y V post) 4 M 15 [(0, .ref (az_ad V 34)), (1, .int x1), (2, .int x2), (3, .int x3)] [] := by
  have o19 := C.hL.at 19 (ci := 8) rfl
  have o34 := C.hL.at 34 (ci := 7) rfl
  have o35 := C.hL.at 35 (ci := 4) rfl
  have a36 := C.hL.ar 36 (t := 0) (len := 145) rfl
  intro F
  induction F with
  | zero =>
    intro x1 x2 x3 M r h
    exact absurd (show (none : Option (Int32 × az_M)) = some r from h) (fun q => by cases q)
  | succ F ih =>
    intro x1 x2 x3 M r h hp
    rw [f_X7_canBeMissed_15] at h
    refine az_iload_n C 3 dX7_canBeMissed_15 rfl ?_
    refine az_iconst (v := 2) C dX7_canBeMissed_16 (by decide) ?_
    refine az_aload_n C 0 dX7_canBeMissed_17 rfl ?_
    refine az_getr (r := 35) C o34 fl_X7_12 rfl rfl dX7_canBeMissed_18 ?_
    refine az_getr (r := 36) C o35 fl_X7_60 rfl rfl dX7_canBeMissed_21 ?_
    refine az_bipush (v := 17) C dX7_canBeMissed_24 (by decide) ?_
    refine az_ild (k := 17) C a36 (az_vin (by decide)) (by decide) dX7_canBeMissed_26 ?_
    refine az_imul C dX7_canBeMissed_27 ?_
    refine az_icmp_ge C 62 dX7_canBeMissed_28 (by decide) (fun c2 => ?_) (fun c2 => ?_)
    · have h := az_t c2 h
      refine az_aload_n C 0 dX7_canBeMissed_62 rfl ?_
      refine az_getr (r := 35) C o34 fl_X7_12 rfl rfl dX7_canBeMissed_63 ?_
      refine az_getr (r := 36) C o35 fl_X7_60 rfl rfl dX7_canBeMissed_66 ?_
      refine az_bipush (v := 16) C dX7_canBeMissed_69 (by decide) ?_
      refine az_ild (k := 16) C a36 (az_vin (by decide)) (by decide) dX7_canBeMissed_71 ?_
      refine az_aload_n C 0 dX7_canBeMissed_72 rfl ?_
      refine az_getr (r := 35) C o34 fl_X7_12 rfl rfl dX7_canBeMissed_73 ?_
      refine az_getr (r := 36) C o35 fl_X7_60 rfl rfl dX7_canBeMissed_76 ?_
      refine az_bipush (v := 114) C dX7_canBeMissed_79 (by decide) ?_
      refine az_iload_n C 1 dX7_canBeMissed_81 rfl ?_
      refine az_iadd C dX7_canBeMissed_82 ?_
      obtain ⟨g3, h⟩ := az_g h
      refine az_ild (k := (114 + x1).toNatClampNeg) C a36 g3 rfl dX7_canBeMissed_83 ?_
      refine az_icmp_gt C 91 dX7_canBeMissed_84 (by decide) (fun c4 => ?_) (fun c4 => ?_)
      · have h := az_t c4 h
        refine az_iconst (v := 0) C dX7_canBeMissed_91 (by decide) ?_
        refine az_sub [] rfl ?_
        exact s_X7_canBeMissed_92 C G 0 M r h hp
      · have h := az_f c4 h
        refine az_iconst (v := 1) C dX7_canBeMissed_87 (by decide) ?_
        refine az_goto C 92 dX7_canBeMissed_88 (by decide) ?_
        refine az_sub [] rfl ?_
        exact s_X7_canBeMissed_92 C G 1 M r h hp
    · have h := az_f c2 h
      refine az_aload_n C 0 dX7_canBeMissed_31 rfl ?_
      refine az_getr (r := 35) C o34 fl_X7_12 rfl rfl dX7_canBeMissed_32 ?_
      obtain ⟨q5, e6, h⟩ := az_b h
      refine az_cV (rest := []) (st2 := [.int q5]) C [] (c_X4_canBeFired C.hL 35 (C.hL.pv 35 rfl) M e6) (by decide) li_X7_109 o35 (by decide) rfl rfl (Nat.le_of_ble_eq_true rfl) dX7_canBeMissed_35 rfl ?_
      refine az_if_ne C 43 dX7_canBeMissed_38 (by decide) (fun c7 => ?_) (fun c7 => ?_)
      · have h := az_f c7 h
        refine az_aload_n C 0 dX7_canBeMissed_43 rfl ?_
        refine az_getr (r := 19) C o34 fl_X7_35 rfl rfl dX7_canBeMissed_44 ?_
        refine az_aload_n C 0 dX7_canBeMissed_47 rfl ?_
        refine az_getr (r := 35) C o34 fl_X7_12 rfl rfl dX7_canBeMissed_48 ?_
        refine az_iconst (v := (-1)) C dX7_canBeMissed_51 (by decide) ?_
        refine az_iload_n C 2 dX7_canBeMissed_52 rfl ?_
        obtain ⟨q8, e9, h⟩ := az_b h
        refine az_cV (rest := []) (st2 := []) C [.ref (az_ad V 35), .int (-1), .int x2] (c_X8_shoot C.hL G 35 (C.hL.pv 35 rfl) (-1) x2 M e9) (by decide) li_X7_113 o19 (by decide) rfl rfl (Nat.le_of_ble_eq_true rfl) dX7_canBeMissed_53 rfl ?_
        refine az_iinc (v := (x3 + 1)) C 3 dX7_canBeMissed_56 rfl rfl (by decide) rfl ?_
        refine az_goto C 15 dX7_canBeMissed_59 (by decide) ?_
        refine az_sub [1, 2, 3, 0] rfl ?_
        exact ih x1 x2 (x3 + 1) q8 r h hp
      · have h := az_t c7 h
        refine az_iconst (v := 0) C dX7_canBeMissed_41 (by decide) ?_
        obtain rfl := Option.some.inj h
        exact az_zret C dX7_canBeMissed_42 rfl hp
set_option maxHeartbeats 4000000 in
set_option maxRecDepth 100000 in
theorem s_X7_canBeMissed_e {Y : az_Y} {V : az_V} {post : Option Value → az_M → Prop} (C : az_C Y V cX7_canBeMissed 4 RX7 (some .boolean) 5) (G : Nat) (p0 : Int32) (M : az_M) (r : (Int32 × az_M)) (h : f_X7_canBeMissed (az_z V) G p0 M = some r) (hp : post (some (.int r.1)) r.2) : AW Y V (az_end Y V post) 4 M 0 [(0, .ref (az_ad V 34)), (1, .int p0)] [] := by
  have o34 := C.hL.at 34 (ci := 7) rfl
  have o35 := C.hL.at 35 (ci := 4) rfl
  have a36 := C.hL.ar 36 (t := 0) (len := 145) rfl
  unfold f_X7_canBeMissed at h
  refine az_aload_n C 0 dX7_canBeMissed_0 rfl ?_
  refine az_getr (r := 35) C o34 fl_X7_12 rfl rfl dX7_canBeMissed_1 ?_
  refine az_getr (r := 36) C o35 fl_X7_60 rfl rfl dX7_canBeMissed_4 ?_
  refine az_bipush (v := 107) C dX7_canBeMissed_7 (by decide) ?_
  refine az_iload_n C 1 dX7_canBeMissed_9 rfl ?_
  refine az_iadd C dX7_canBeMissed_10 ?_
  obtain ⟨g1, h⟩ := az_g h
  refine az_ild (k := (107 + p0).toNatClampNeg) C a36 g1 rfl dX7_canBeMissed_11 ?_
  refine az_istore_n C dX7_canBeMissed_12 rfl (by decide) rfl ?_
  refine az_iconst (v := 0) C dX7_canBeMissed_13 (by decide) ?_
  refine az_istore_n C dX7_canBeMissed_14 rfl (by decide) rfl ?_
  refine az_sub [2, 3, 1, 0] rfl ?_
  exact s_X7_canBeMissed_15 C G G p0 (M.1 36 ((107 + p0).toNatClampNeg)) 0 M r h hp
theorem c_X7_canBeMissed {l : Launch} {V : az_V} (hL : az_L V) (G : Nat) (p0 : Int32) (M : az_M) {r : (Int32 × az_M)} (h : f_X7_canBeMissed (az_z V) G p0 M = some r) : az_Ct l V yX7_canBeMissed cX7_canBeMissed 4 (some .boolean) 5 [.ref (az_ad V 34), .int p0] M (fun v M' => v = some (.int r.1) ∧ M' = r.2) :=
  az_Ct.of (by decide) (Nat.le_of_ble_eq_true rfl) (fun Y _ _ C => s_X7_canBeMissed_e C G p0 M r h ⟨rfl, rfl⟩)
set_option maxHeartbeats 4000000 in
set_option maxRecDepth 100000 in
theorem s_X7_isKnownBehind_14 {Y : az_Y} {V : az_V} {post : Option Value → az_M → Prop} (C : az_C Y V cX7_isKnownBehind 3 RX7 (some .boolean) 1) (G : Nat) : ∀ (F : Nat) (x1 : Int32) (x2 : Int32) (M : az_M) (r : Int32), f_X7_isKnownBehind_14 G F x1 x2 M = some r → post (some (.int r)) M → AW Y V (az_end Y V post) 3 M 14 [(0, .ref (az_ad V 34)), (1, .int x1), (2, .int x2)] [] := by
  have o34 := C.hL.at 34 (ci := 7) rfl
  have o35 := C.hL.at 35 (ci := 4) rfl
  have a36 := C.hL.ar 36 (t := 0) (len := 145) rfl
  have a39 := C.hL.ar 39 (t := 0) (len := 2176) rfl
  intro F
  induction F with
  | zero =>
    intro x1 x2 M r h
    exact absurd (show (none : Option Int32) = some r from h) (fun q => by cases q)
  | succ F ih =>
    intro x1 x2 M r h hp
    rw [f_X7_isKnownBehind_14] at h
    refine az_iload_n C 2 dX7_isKnownBehind_14 rfl ?_
    refine az_bipush (v := 17) C dX7_isKnownBehind_15 (by decide) ?_
    refine az_icmp_ge C 51 dX7_isKnownBehind_17 (by decide) (fun c3 => ?_) (fun c3 => ?_)
    · have h := az_t c3 h
      refine az_iconst (v := 1) C dX7_isKnownBehind_51 (by decide) ?_
      obtain rfl := Option.some.inj h
      exact az_zret C dX7_isKnownBehind_52 rfl hp
    · have h := az_f c3 h
      refine az_aload_n C 0 dX7_isKnownBehind_20 rfl ?_
      refine az_getr (r := 39) C o34 fl_X7_25 rfl rfl dX7_isKnownBehind_21 ?_
      refine az_iload_n C 1 dX7_isKnownBehind_24 rfl ?_
      refine az_bipush (v := 17) C dX7_isKnownBehind_25 (by decide) ?_
      refine az_imul C dX7_isKnownBehind_27 ?_
      refine az_iload_n C 2 dX7_isKnownBehind_28 rfl ?_
      refine az_iadd C dX7_isKnownBehind_29 ?_
      obtain ⟨g4, h⟩ := az_g h
      refine az_ild (k := ((x1 * 17) + x2).toNatClampNeg) C a39 g4 rfl dX7_isKnownBehind_30 ?_
      refine az_aload_n C 0 dX7_isKnownBehind_31 rfl ?_
      refine az_getr (r := 35) C o34 fl_X7_12 rfl rfl dX7_isKnownBehind_32 ?_
      refine az_getr (r := 36) C o35 fl_X7_60 rfl rfl dX7_isKnownBehind_35 ?_
      refine az_iload_n C 2 dX7_isKnownBehind_38 rfl ?_
      obtain ⟨g5, h⟩ := az_g h
      refine az_ild (k := x2.toNatClampNeg) C a36 g5 rfl dX7_isKnownBehind_39 ?_
      refine az_icmp_eq C 45 dX7_isKnownBehind_40 (by decide) (fun c6 => ?_) (fun c6 => ?_)
      · have h := az_t c6 h
        refine az_iinc (v := (x2 + 1)) C 2 dX7_isKnownBehind_45 rfl rfl (by decide) rfl ?_
        refine az_goto C 14 dX7_isKnownBehind_48 (by decide) ?_
        refine az_sub [1, 2, 0] rfl ?_
        exact ih x1 (x2 + 1) M r h hp
      · have h := az_f c6 h
        refine az_iconst (v := 0) C dX7_isKnownBehind_43 (by decide) ?_
        obtain rfl := Option.some.inj h
        exact az_zret C dX7_isKnownBehind_44 rfl hp
set_option maxHeartbeats 4000000 in
set_option maxRecDepth 100000 in
theorem s_X7_isKnownBehind_e {Y : az_Y} {V : az_V} {post : Option Value → az_M → Prop} (C : az_C Y V cX7_isKnownBehind 3 RX7 (some .boolean) 1) (G : Nat) (p0 : Int32) (M : az_M) (r : Int32) (h : f_X7_isKnownBehind G p0 M = some r) (hp : post (some (.int r)) M) : AW Y V (az_end Y V post) 3 M 0 [(0, .ref (az_ad V 34)), (1, .int p0)] [] := by
  have o34 := C.hL.at 34 (ci := 7) rfl
  have a38 := C.hL.ar 38 (t := 0) (len := 128) rfl
  unfold f_X7_isKnownBehind at h
  refine az_aload_n C 0 dX7_isKnownBehind_0 rfl ?_
  refine az_getr (r := 38) C o34 fl_X7_22 rfl rfl dX7_isKnownBehind_1 ?_
  refine az_iload_n C 1 dX7_isKnownBehind_4 rfl ?_
  obtain ⟨g1, h⟩ := az_g h
  refine az_ild (k := p0.toNatClampNeg) C a38 g1 rfl dX7_isKnownBehind_5 ?_
  refine az_iconst (v := (-1)) C dX7_isKnownBehind_6 (by decide) ?_
  refine az_icmp_ne C 12 dX7_isKnownBehind_7 (by decide) (fun c2 => ?_) (fun c2 => ?_)
  · have h := az_f c2 h
    refine az_iconst (v := 0) C dX7_isKnownBehind_12 (by decide) ?_
    refine az_istore_n C dX7_isKnownBehind_13 rfl (by decide) rfl ?_
    refine az_sub [1, 2, 0] rfl ?_
    exact s_X7_isKnownBehind_14 C G G p0 0 M r h hp
  · have h := az_t c2 h
    refine az_iconst (v := 0) C dX7_isKnownBehind_10 (by decide) ?_
    obtain rfl := Option.some.inj h
    exact az_zret C dX7_isKnownBehind_11 rfl hp
theorem c_X7_isKnownBehind {l : Launch} {V : az_V} (hL : az_L V) (G : Nat) (p0 : Int32) (M : az_M) {r : Int32} (h : f_X7_isKnownBehind G p0 M = some r) : az_Ct l V yX7_isKnownBehind cX7_isKnownBehind 3 (some .boolean) 1 [.ref (az_ad V 34), .int p0] M (fun v M' => v = some (.int r) ∧ M' = M) :=
  az_Ct.of (by decide) (Nat.le_of_ble_eq_true rfl) (fun Y _ _ C => s_X7_isKnownBehind_e C G p0 M r h ⟨rfl, rfl⟩)
set_option maxHeartbeats 4000000 in
set_option maxRecDepth 100000 in
theorem s_X7_keepSheet_e {Y : az_Y} {V : az_V} {post : Option Value → az_M → Prop} (C : az_C Y V cX7_keepSheet 2 RX7 none 2) (p0 : Int32) (M : az_M) (r : az_M) (h : f_X7_keepSheet p0 M = some r) (hp : post none r) : AW Y V (az_end Y V post) 2 M 0 [(0, .ref (az_ad V 34)), (1, .int p0)] [] := by
  have o34 := C.hL.at 34 (ci := 7) rfl
  have o35 := C.hL.at 35 (ci := 4) rfl
  have a36 := C.hL.ar 36 (t := 0) (len := 145) rfl
  have a37 := C.hL.ar 37 (t := 0) (len := 136) rfl
  unfold f_X7_keepSheet at h
  refine az_aload_n C 0 dX7_keepSheet_0 rfl ?_
  refine az_getr (r := 35) C o34 fl_X7_12 rfl rfl dX7_keepSheet_1 ?_
  refine az_getr (r := 36) C o35 fl_X7_60 rfl rfl dX7_keepSheet_4 ?_
  refine az_iconst (v := 0) C dX7_keepSheet_7 (by decide) ?_
  refine az_aload_n C 0 dX7_keepSheet_8 rfl ?_
  refine az_getr (r := 37) C o34 fl_X7_18 rfl rfl dX7_keepSheet_9 ?_
  refine az_iload_n C 1 dX7_keepSheet_12 rfl ?_
  refine az_bipush (v := 17) C dX7_keepSheet_13 (by decide) ?_
  refine az_imul C dX7_keepSheet_15 ?_
  refine az_bipush (v := 17) C dX7_keepSheet_16 (by decide) ?_
  obtain ⟨g1, h⟩ := az_g h
  obtain ⟨g2, h⟩ := az_g2 h
  refine az_copy (i := 0) (j := (p0 * 17).toNatClampNeg) (k := 17) C (by decide) la_X7_80 a36 a37 (by decide) g1 (by decide) (by decide) g2 (by decide) rfl (by decide) (Nat.le_of_ble_eq_true rfl) dX7_keepSheet_18 ?_
  obtain rfl := Option.some.inj h
  exact az_vret C rfl dX7_keepSheet_21 hp
theorem c_X7_keepSheet {l : Launch} {V : az_V} (hL : az_L V) (p0 : Int32) (M : az_M) {r : az_M} (h : f_X7_keepSheet p0 M = some r) : az_Ct l V yX7_keepSheet cX7_keepSheet 2 none 2 [.ref (az_ad V 34), .int p0] M (fun v M' => v = none ∧ M' = r) :=
  az_Ct.of (by decide) (Nat.le_of_ble_eq_true rfl) (fun Y _ _ C => s_X7_keepSheet_e C p0 M r h ⟨rfl, rfl⟩)
set_option maxHeartbeats 4000000 in
set_option maxRecDepth 100000 in
theorem s_X7_resetSheet_e {Y : az_Y} {V : az_V} {post : Option Value → az_M → Prop} (C : az_C Y V cX7_resetSheet 2 RX7 none 2) (p0 : Int32) (M : az_M) (r : az_M) (h : f_X7_resetSheet p0 M = some r) (hp : post none r) : AW Y V (az_end Y V post) 2 M 0 [(0, .ref (az_ad V 34)), (1, .int p0)] [] := by
  have o34 := C.hL.at 34 (ci := 7) rfl
  have o35 := C.hL.at 35 (ci := 4) rfl
  have a36 := C.hL.ar 36 (t := 0) (len := 145) rfl
  have a37 := C.hL.ar 37 (t := 0) (len := 136) rfl
  unfold f_X7_resetSheet at h
  refine az_aload_n C 0 dX7_resetSheet_0 rfl ?_
  refine az_getr (r := 37) C o34 fl_X7_18 rfl rfl dX7_resetSheet_1 ?_
  refine az_iload_n C 1 dX7_resetSheet_4 rfl ?_
  refine az_bipush (v := 17) C dX7_resetSheet_5 (by decide) ?_
  refine az_imul C dX7_resetSheet_7 ?_
  refine az_aload_n C 0 dX7_resetSheet_8 rfl ?_
  refine az_getr (r := 35) C o34 fl_X7_12 rfl rfl dX7_resetSheet_9 ?_
  refine az_getr (r := 36) C o35 fl_X7_60 rfl rfl dX7_resetSheet_12 ?_
  refine az_iconst (v := 0) C dX7_resetSheet_15 (by decide) ?_
  refine az_bipush (v := 17) C dX7_resetSheet_16 (by decide) ?_
  obtain ⟨g1, h⟩ := az_g h
  obtain ⟨g2, h⟩ := az_g2 h
  refine az_copy (i := (p0 * 17).toNatClampNeg) (j := 0) (k := 17) C (by decide) la_X7_80 a37 a36 g1 (by decide) (by decide) g2 (by decide) rfl (by decide) (by decide) (Nat.le_of_ble_eq_true rfl) dX7_resetSheet_18 ?_
  obtain rfl := Option.some.inj h
  exact az_vret C rfl dX7_resetSheet_21 hp
theorem c_X7_resetSheet {l : Launch} {V : az_V} (hL : az_L V) (p0 : Int32) (M : az_M) {r : az_M} (h : f_X7_resetSheet p0 M = some r) : az_Ct l V yX7_resetSheet cX7_resetSheet 2 none 2 [.ref (az_ad V 34), .int p0] M (fun v M' => v = none ∧ M' = r) :=
  az_Ct.of (by decide) (Nat.le_of_ble_eq_true rfl) (fun Y _ _ C => s_X7_resetSheet_e C p0 M r h ⟨rfl, rfl⟩)
set_option maxHeartbeats 4000000 in
set_option maxRecDepth 100000 in
theorem s_X7_setFound_e {Y : az_Y} {V : az_V} {post : Option Value → az_M → Prop} (C : az_C Y V cX7_setFound 5 RX7 none 1) (p0 : Int32) (p1 : Int32) (p2 : Int32) (p3 : Int32) (M : az_M) (r : az_M) (h : f_X7_setFound p0 p1 p2 p3 M = some r) (hp : post none r) : AW Y V (az_end Y V post) 5 M 0 [(0, .ref (az_ad V 34)), (1, .int p0), (2, .int p1), (3, .int p2), (4, .int p3)] [] := by
  have o34 := C.hL.at 34 (ci := 7) rfl
  unfold f_X7_setFound at h
  refine az_aload_n C 0 dX7_setFound_0 rfl ?_
  refine az_iload_n C 1 dX7_setFound_1 rfl ?_
  refine az_puti C o34 fl_X7_63 rfl rfl rfl rfl dX7_setFound_2 ?_
  refine az_aload_n C 0 dX7_setFound_5 rfl ?_
  refine az_iload_n C 2 dX7_setFound_6 rfl ?_
  refine az_puti C o34 fl_X7_73 rfl rfl rfl rfl dX7_setFound_7 ?_
  refine az_aload_n C 0 dX7_setFound_10 rfl ?_
  refine az_iload_n C 3 dX7_setFound_11 rfl ?_
  refine az_puti C o34 fl_X7_100 rfl rfl rfl rfl dX7_setFound_12 ?_
  refine az_aload_n C 0 dX7_setFound_15 rfl ?_
  refine az_iload C 4 dX7_setFound_16 rfl ?_
  refine az_puti C o34 fl_X7_97 rfl rfl rfl rfl dX7_setFound_18 ?_
  obtain rfl := Option.some.inj h
  exact az_vret C rfl dX7_setFound_21 hp
theorem c_X7_setFound {l : Launch} {V : az_V} (hL : az_L V) (p0 : Int32) (p1 : Int32) (p2 : Int32) (p3 : Int32) (M : az_M) {r : az_M} (h : f_X7_setFound p0 p1 p2 p3 M = some r) : az_Ct l V yX7_setFound cX7_setFound 5 none 1 [.ref (az_ad V 34), .int p0, .int p1, .int p2, .int p3] M (fun v M' => v = none ∧ M' = r) :=
  az_Ct.of (by decide) (Nat.le_of_ble_eq_true rfl) (fun Y _ _ C => s_X7_setFound_e C p0 p1 p2 p3 M r h ⟨rfl, rfl⟩)
set_option maxHeartbeats 4000000 in
set_option maxRecDepth 100000 in
theorem s_X7_tryQuarrels_219 {Y : az_Y} {V : az_V} {post : Option Value → az_M → Prop} {dR : Nat} (C : az_C Y V cX7_tryQuarrels 10 RX7 none (dR + 1)) (hdR : 6 ≤ dR) (G : Nat) (R_X7_tryQuarrels : Int32 → Int32 → az_M → Option az_M) (hR_X7_tryQuarrels : ∀ (p0 : Int32) (p1 : Int32) (M : az_M) (r : az_M), R_X7_tryQuarrels p0 p1 M = some r → az_Ct Y.2.1 V yX7_tryQuarrels cX7_tryQuarrels 10 none dR [.ref (az_ad V 34), .int p0, .int p1] M (fun v M' => v = none ∧ M' = r)) (K78 : (Int32 → Int32 → Int32 → Int32 → Int32 → Int32 → Int32 → Int32 → az_M → Option az_M)) (hK78 : ∀ (x1 : Int32) (x2 : Int32) (x3 : Int32) (x4 : Int32) (x5 : Int32) (x6 : Int32) (x7 : Int32) (x8 : Int32) (M : az_M) (r : az_M), K78 x1 x2 x3 x4 x5 x6 x7 x8 M = some r → post none r → AW Y V (az_end Y V post) 10 M 78 [(0, .ref (az_ad V 34)), (1, .int x1), (2, .int x2), (3, .int x3), (4, .int x4), (5, .int x5), (6, .int x6), (7, .int x7), (8, .int x8)] []) (x1 : Int32) (x2 : Int32) (x3 : Int32) (x4 : Int32) (x5 : Int32) (x6 : Int32) (x7 : Int32) (x8 : Int32) (M : az_M) (r : az_M) (h : f_X7_tryQuarrels_219 (az_z V) G R_X7_tryQuarrels K78 x1 x2 x3 x4 x5 x6 x7 x8 M = some r) (hp : post none r) : AW Y V (az_end Y V post) 10 M 219 [(0, .ref (az_ad V 34)), (1, .int x1), (2, .int x2), (3, .int x3), (4, .int x4), (5, .int x5), (6, .int x6), (7, .int x7), (8, .int x8)] [] := by
  unfold f_X7_tryQuarrels_219 at h
  refine az_iinc (v := (x8 + 1)) C 8 dX7_tryQuarrels_219 rfl rfl (by decide) rfl ?_
  refine az_goto C 78 dX7_tryQuarrels_222 (by decide) ?_
  refine az_sub [1, 2, 3, 4, 5, 6, 7, 8, 0] rfl ?_
  exact hK78 x1 x2 x3 x4 x5 x6 x7 (x8 + 1) M r h hp
set_option maxHeartbeats 4000000 in
set_option maxRecDepth 100000 in
theorem s_X7_tryQuarrels_197 {Y : az_Y} {V : az_V} {post : Option Value → az_M → Prop} {dR : Nat} (C : az_C Y V cX7_tryQuarrels 10 RX7 none (dR + 1)) (hdR : 6 ≤ dR) (G : Nat) (R_X7_tryQuarrels : Int32 → Int32 → az_M → Option az_M) (hR_X7_tryQuarrels : ∀ (p0 : Int32) (p1 : Int32) (M : az_M) (r : az_M), R_X7_tryQuarrels p0 p1 M = some r → az_Ct Y.2.1 V yX7_tryQuarrels cX7_tryQuarrels 10 none dR [.ref (az_ad V 34), .int p0, .int p1] M (fun v M' => v = none ∧ M' = r)) (K78 : (Int32 → Int32 → Int32 → Int32 → Int32 → Int32 → Int32 → Int32 → az_M → Option az_M)) (hK78 : ∀ (x1 : Int32) (x2 : Int32) (x3 : Int32) (x4 : Int32) (x5 : Int32) (x6 : Int32) (x7 : Int32) (x8 : Int32) (M : az_M) (r : az_M), K78 x1 x2 x3 x4 x5 x6 x7 x8 M = some r → post none r → AW Y V (az_end Y V post) 10 M 78 [(0, .ref (az_ad V 34)), (1, .int x1), (2, .int x2), (3, .int x3), (4, .int x4), (5, .int x5), (6, .int x6), (7, .int x7), (8, .int x8)] []) (x1 : Int32) (x2 : Int32) (x3 : Int32) (x4 : Int32) (x5 : Int32) (x7 : Int32) (x8 : Int32) (s0 : Int32) (M : az_M) (r : az_M) (h : f_X7_tryQuarrels_197 (az_z V) G R_X7_tryQuarrels K78 x1 x2 x3 x4 x5 x7 x8 s0 M = some r) (hp : post none r) : AW Y V (az_end Y V post) 10 M 197 [(0, .ref (az_ad V 34)), (1, .int x1), (2, .int x2), (3, .int x3), (4, .int x4), (5, .int x5), (7, .int x7), (8, .int x8)] [.int s0] := by
  have o34 := C.hL.at 34 (ci := 7) rfl
  unfold f_X7_tryQuarrels_197 at h
  refine az_istore C dX7_tryQuarrels_197 (by decide) rfl ?_
  refine az_iload C 7 dX7_tryQuarrels_199 rfl ?_
  refine az_aload_n C 1 dX7_tryQuarrels_201 rfl ?_
  refine az_geti C o34 fl_X7_97 rfl dX7_tryQuarrels_202 ?_
  refine az_max C (by omega) lm_X7_103 (Nat.le_of_ble_eq_true rfl) dX7_tryQuarrels_205 ?_
  refine az_istore C dX7_tryQuarrels_208 (by decide) rfl ?_
  refine az_iload C 6 dX7_tryQuarrels_210 rfl ?_
  refine az_aload_n C 2 dX7_tryQuarrels_212 rfl ?_
  refine az_geti C o34 fl_X7_63 rfl dX7_tryQuarrels_213 ?_
  refine az_iadd C dX7_tryQuarrels_216 ?_
  refine az_istore C dX7_tryQuarrels_217 (by decide) rfl ?_
  refine az_sub [3, 4, 5, 6, 0, 7, 2, 1, 8] rfl ?_
  exact s_X7_tryQuarrels_219 C hdR G R_X7_tryQuarrels hR_X7_tryQuarrels K78 hK78 x1 x2 x3 (x4 + (M.1 34 0)) x5 s0 (if x7 < (M.1 34 3) then (M.1 34 3) else x7) x8 M r h hp
set_option maxHeartbeats 4000000 in
set_option maxRecDepth 100000 in
theorem s_X7_tryQuarrels_174 {Y : az_Y} {V : az_V} {post : Option Value → az_M → Prop} {dR : Nat} (C : az_C Y V cX7_tryQuarrels 10 RX7 none (dR + 1)) (hdR : 6 ≤ dR) (G : Nat) (R_X7_tryQuarrels : Int32 → Int32 → az_M → Option az_M) (hR_X7_tryQuarrels : ∀ (p0 : Int32) (p1 : Int32) (M : az_M) (r : az_M), R_X7_tryQuarrels p0 p1 M = some r → az_Ct Y.2.1 V yX7_tryQuarrels cX7_tryQuarrels 10 none dR [.ref (az_ad V 34), .int p0, .int p1] M (fun v M' => v = none ∧ M' = r)) (K78 : (Int32 → Int32 → Int32 → Int32 → Int32 → Int32 → Int32 → Int32 → az_M → Option az_M)) (hK78 : ∀ (x1 : Int32) (x2 : Int32) (x3 : Int32) (x4 : Int32) (x5 : Int32) (x6 : Int32) (x7 : Int32) (x8 : Int32) (M : az_M) (r : az_M), K78 x1 x2 x3 x4 x5 x6 x7 x8 M = some r → post none r → AW Y V (az_end Y V post) 10 M 78 [(0, .ref (az_ad V 34)), (1, .int x1), (2, .int x2), (3, .int x3), (4, .int x4), (5, .int x5), (6, .int x6), (7, .int x7), (8, .int x8)] []) (x1 : Int32) (x2 : Int32) (x3 : Int32) (x4 : Int32) (x6 : Int32) (x7 : Int32) (x8 : Int32) (x9 : Int32) (s0 : Int32) (M : az_M) (r : az_M) (h : f_X7_tryQuarrels_174 (az_z V) G R_X7_tryQuarrels K78 x1 x2 x3 x4 x6 x7 x8 x9 s0 M = some r) (hp : post none r) : AW Y V (az_end Y V post) 10 M 174 [(0, .ref (az_ad V 34)), (1, .int x1), (2, .int x2), (3, .int x3), (4, .int x4), (6, .int x6), (7, .int x7), (8, .int x8), (9, .int x9)] [.int s0] := by
  have o34 := C.hL.at 34 (ci := 7) rfl
  unfold f_X7_tryQuarrels_174 at h
  refine az_istore C dX7_tryQuarrels_174 (by decide) rfl ?_
  refine az_aload_n C 1 dX7_tryQuarrels_176 rfl ?_
  refine az_geti C o34 fl_X7_97 rfl dX7_tryQuarrels_177 ?_
  refine az_iload C 7 dX7_tryQuarrels_180 rfl ?_
  refine az_icmp_le C 195 dX7_tryQuarrels_182 (by decide) (fun c27 => ?_) (fun c27 => ?_)
  · have h := az_t c27 h
    refine az_iload C 6 dX7_tryQuarrels_195 rfl ?_
    refine az_sub [1, 2, 3, 4, 5, 0, 7, 8] rfl ?_
    exact s_X7_tryQuarrels_197 C hdR G R_X7_tryQuarrels hR_X7_tryQuarrels K78 hK78 x1 x2 x3 x4 s0 x7 x8 x6 M r h hp
  · have h := az_f c27 h
    refine az_iload C 9 dX7_tryQuarrels_185 rfl ?_
    refine az_aload_n C 1 dX7_tryQuarrels_187 rfl ?_
    refine az_geti C o34 fl_X7_100 rfl dX7_tryQuarrels_188 ?_
    refine az_ior C dX7_tryQuarrels_191 ?_
    refine az_goto C 197 dX7_tryQuarrels_192 (by decide) ?_
    refine az_sub [1, 2, 3, 4, 5, 0, 7, 8] rfl ?_
    exact s_X7_tryQuarrels_197 C hdR G R_X7_tryQuarrels hR_X7_tryQuarrels K78 hK78 x1 x2 x3 x4 s0 x7 x8 (x9 ||| (M.1 34 2)) M r h hp
set_option maxHeartbeats 4000000 in
set_option maxRecDepth 100000 in
theorem s_X7_tryQuarrels_172 {Y : az_Y} {V : az_V} {post : Option Value → az_M → Prop} {dR : Nat} (C : az_C Y V cX7_tryQuarrels 10 RX7 none (dR + 1)) (hdR : 6 ≤ dR) (G : Nat) (R_X7_tryQuarrels : Int32 → Int32 → az_M → Option az_M) (hR_X7_tryQuarrels : ∀ (p0 : Int32) (p1 : Int32) (M : az_M) (r : az_M), R_X7_tryQuarrels p0 p1 M = some r → az_Ct Y.2.1 V yX7_tryQuarrels cX7_tryQuarrels 10 none dR [.ref (az_ad V 34), .int p0, .int p1] M (fun v M' => v = none ∧ M' = r)) (K78 : (Int32 → Int32 → Int32 → Int32 → Int32 → Int32 → Int32 → Int32 → az_M → Option az_M)) (hK78 : ∀ (x1 : Int32) (x2 : Int32) (x3 : Int32) (x4 : Int32) (x5 : Int32) (x6 : Int32) (x7 : Int32) (x8 : Int32) (M : az_M) (r : az_M), K78 x1 x2 x3 x4 x5 x6 x7 x8 M = some r → post none r → AW Y V (az_end Y V post) 10 M 78 [(0, .ref (az_ad V 34)), (1, .int x1), (2, .int x2), (3, .int x3), (4, .int x4), (5, .int x5), (6, .int x6), (7, .int x7), (8, .int x8)] []) (x1 : Int32) (x2 : Int32) (x3 : Int32) (x4 : Int32) (x5 : Int32) (x6 : Int32) (x7 : Int32) (x8 : Int32) (x9 : Int32) (M : az_M) (r : az_M) (h : f_X7_tryQuarrels_172 (az_z V) G R_X7_tryQuarrels K78 x1 x2 x3 x4 x5 x6 x7 x8 x9 M = some r) (hp : post none r) : AW Y V (az_end Y V post) 10 M 172 [(0, .ref (az_ad V 34)), (1, .int x1), (2, .int x2), (3, .int x3), (4, .int x4), (5, .int x5), (6, .int x6), (7, .int x7), (8, .int x8), (9, .int x9)] [] := by
  unfold f_X7_tryQuarrels_172 at h
  refine az_iload C 5 dX7_tryQuarrels_172 rfl ?_
  refine az_sub [0, 1, 2, 3, 4, 6, 7, 8, 9] rfl ?_
  exact s_X7_tryQuarrels_174 C hdR G R_X7_tryQuarrels hR_X7_tryQuarrels K78 hK78 x1 x2 x3 x4 x6 x7 x8 x9 x5 M r h hp
set_option maxHeartbeats 4000000 in
set_option maxRecDepth 100000 in
theorem s_X7_tryQuarrels_142 {Y : az_Y} {V : az_V} {post : Option Value → az_M → Prop} {dR : Nat} (C : az_C Y V cX7_tryQuarrels 10 RX7 none (dR + 1)) (hdR : 6 ≤ dR) (G : Nat) (R_X7_tryQuarrels : Int32 → Int32 → az_M → Option az_M) (hR_X7_tryQuarrels : ∀ (p0 : Int32) (p1 : Int32) (M : az_M) (r : az_M), R_X7_tryQuarrels p0 p1 M = some r → az_Ct Y.2.1 V yX7_tryQuarrels cX7_tryQuarrels 10 none dR [.ref (az_ad V 34), .int p0, .int p1] M (fun v M' => v = none ∧ M' = r)) (K78 : (Int32 → Int32 → Int32 → Int32 → Int32 → Int32 → Int32 → Int32 → az_M → Option az_M)) (hK78 : ∀ (x1 : Int32) (x2 : Int32) (x3 : Int32) (x4 : Int32) (x5 : Int32) (x6 : Int32) (x7 : Int32) (x8 : Int32) (M : az_M) (r : az_M), K78 x1 x2 x3 x4 x5 x6 x7 x8 M = some r → post none r → AW Y V (az_end Y V post) 10 M 78 [(0, .ref (az_ad V 34)), (1, .int x1), (2, .int x2), (3, .int x3), (4, .int x4), (5, .int x5), (6, .int x6), (7, .int x7), (8, .int x8)] []) (x1 : Int32) (x2 : Int32) (x3 : Int32) (x4 : Int32) (x5 : Int32) (x6 : Int32) (x7 : Int32) (x8 : Int32) (M : az_M) (r : az_M) (h : f_X7_tryQuarrels_142 (az_z V) G R_X7_tryQuarrels K78 x1 x2 x3 x4 x5 x6 x7 x8 M = some r) (hp : post none r) : AW Y V (az_end Y V post) 10 M 142 [(0, .ref (az_ad V 34)), (1, .int x1), (2, .int x2), (3, .int x3), (4, .int x4), (5, .int x5), (6, .int x6), (7, .int x7), (8, .int x8)] [] := by
  have o34 := C.hL.at 34 (ci := 7) rfl
  unfold f_X7_tryQuarrels_142 at h
  refine az_iload C 8 dX7_tryQuarrels_142 rfl ?_
  refine az_iconst (v := 4) C dX7_tryQuarrels_144 (by decide) ?_
  refine az_iload_n C 3 dX7_tryQuarrels_145 rfl ?_
  refine az_imul C dX7_tryQuarrels_146 ?_
  refine az_ishl C dX7_tryQuarrels_147 ?_
  refine az_istore C dX7_tryQuarrels_148 (by decide) rfl ?_
  refine az_iload C 5 dX7_tryQuarrels_150 rfl ?_
  refine az_if_ne C 172 dX7_tryQuarrels_152 (by decide) (fun c25 => ?_) (fun c25 => ?_)
  · have h := az_f c25 h
    refine az_sub [1, 2, 3, 4, 5, 6, 7, 8, 9, 0] rfl ?_
    exact s_X7_tryQuarrels_172 C hdR G R_X7_tryQuarrels hR_X7_tryQuarrels K78 hK78 x1 x2 x3 x4 x5 x6 x7 x8 (x8 <<< ((4 * x3) &&& 31)) M r h hp
  · have h := az_t c25 h
    refine az_aload_n C 1 dX7_tryQuarrels_155 rfl ?_
    refine az_geti C o34 fl_X7_63 rfl dX7_tryQuarrels_156 ?_
    refine az_if_le C 172 dX7_tryQuarrels_159 (by decide) (fun c26 => ?_) (fun c26 => ?_)
    · have h := az_t c26 h
      refine az_sub [1, 2, 3, 4, 5, 6, 7, 8, 9, 0] rfl ?_
      exact s_X7_tryQuarrels_172 C hdR G R_X7_tryQuarrels hR_X7_tryQuarrels K78 hK78 x1 x2 x3 x4 x5 x6 x7 x8 (x8 <<< ((4 * x3) &&& 31)) M r h hp
    · have h := az_f c26 h
      refine az_iload C 0 dX7_tryQuarrels_162 rfl ?_
      refine az_aload_n C 1 dX7_tryQuarrels_164 rfl ?_
      refine az_geti C o34 fl_X7_73 rfl dX7_tryQuarrels_165 ?_
      refine az_ior C dX7_tryQuarrels_168 ?_
      refine az_goto C 174 dX7_tryQuarrels_169 (by decide) ?_
      refine az_sub [1, 2, 3, 4, 5, 7, 8, 9, 0] rfl ?_
      exact s_X7_tryQuarrels_174 C hdR G R_X7_tryQuarrels hR_X7_tryQuarrels K78 hK78 x1 x2 x3 x4 x6 x7 x8 (x8 <<< ((4 * x3) &&& 31)) ((x8 <<< ((4 * x3) &&& 31)) ||| (M.1 34 1)) M r h hp
set_option maxHeartbeats 4000000 in
set_option maxRecDepth 100000 in
theorem s_X7_tryQuarrels_98 {Y : az_Y} {V : az_V} {post : Option Value → az_M → Prop} {dR : Nat} (C : az_C Y V cX7_tryQuarrels 10 RX7 none (dR + 1)) (hdR : 6 ≤ dR) (G : Nat) (R_X7_tryQuarrels : Int32 → Int32 → az_M → Option az_M) (hR_X7_tryQuarrels : ∀ (p0 : Int32) (p1 : Int32) (M : az_M) (r : az_M), R_X7_tryQuarrels p0 p1 M = some r → az_Ct Y.2.1 V yX7_tryQuarrels cX7_tryQuarrels 10 none dR [.ref (az_ad V 34), .int p0, .int p1] M (fun v M' => v = none ∧ M' = r)) (K78 : (Int32 → Int32 → Int32 → Int32 → Int32 → Int32 → Int32 → Int32 → az_M → Option az_M)) (hK78 : ∀ (x1 : Int32) (x2 : Int32) (x3 : Int32) (x4 : Int32) (x5 : Int32) (x6 : Int32) (x7 : Int32) (x8 : Int32) (M : az_M) (r : az_M), K78 x1 x2 x3 x4 x5 x6 x7 x8 M = some r → post none r → AW Y V (az_end Y V post) 10 M 78 [(0, .ref (az_ad V 34)), (1, .int x1), (2, .int x2), (3, .int x3), (4, .int x4), (5, .int x5), (6, .int x6), (7, .int x7), (8, .int x8)] []) (x1 : Int32) (x2 : Int32) (x3 : Int32) (x4 : Int32) (x5 : Int32) (x6 : Int32) (x7 : Int32) (x8 : Int32) (M : az_M) (r : az_M) (h : f_X7_tryQuarrels_98 (az_z V) G R_X7_tryQuarrels K78 x1 x2 x3 x4 x5 x6 x7 x8 M = some r) (hp : post none r) : AW Y V (az_end Y V post) 10 M 98 [(0, .ref (az_ad V 34)), (1, .int x1), (2, .int x2), (3, .int x3), (4, .int x4), (5, .int x5), (6, .int x6), (7, .int x7), (8, .int x8)] [] := by
  have o34 := C.hL.at 34 (ci := 7) rfl
  unfold f_X7_tryQuarrels_98 at h
  refine az_iload_n C 2 dX7_tryQuarrels_98 rfl ?_
  refine az_iload C 8 dX7_tryQuarrels_99 rfl ?_
  refine az_ishr C dX7_tryQuarrels_101 ?_
  refine az_iconst (v := 1) C dX7_tryQuarrels_102 (by decide) ?_
  refine az_iand C dX7_tryQuarrels_103 ?_
  refine az_if_ne C 219 dX7_tryQuarrels_104 (by decide) (fun c15 => ?_) (fun c15 => ?_)
  · have h := az_f c15 h
    exact s_X7_tryQuarrels_219 C hdR G R_X7_tryQuarrels hR_X7_tryQuarrels K78 hK78 x1 x2 x3 x4 x5 x6 x7 x8 M r h hp
  · have h := az_t c15 h
    refine az_aload_n C 0 dX7_tryQuarrels_107 rfl ?_
    refine az_iload_n C 1 dX7_tryQuarrels_108 rfl ?_
    obtain ⟨q16, e17, h⟩ := az_b h
    refine az_cV (rest := []) (st2 := []) C [.int x1] (c_X7_resetSheet C.hL x1 M e17) (by omega) li_X7_57 o34 (by decide) rfl rfl (Nat.le_of_ble_eq_true rfl) dX7_tryQuarrels_109 rfl ?_
    refine az_aload_n C 0 dX7_tryQuarrels_112 rfl ?_
    refine az_iconst (v := 0) C dX7_tryQuarrels_113 (by decide) ?_
    refine az_iconst (v := (-1)) C dX7_tryQuarrels_114 (by decide) ?_
    refine az_iconst (v := (-1)) C dX7_tryQuarrels_115 (by decide) ?_
    refine az_iconst (v := (-1)) C dX7_tryQuarrels_116 (by decide) ?_
    obtain ⟨q18, e19, h⟩ := az_b h
    refine az_cV (rest := []) (st2 := []) C [.int 0, .int (-1), .int (-1), .int (-1)] (c_X7_setFound C.hL 0 (-1) (-1) (-1) q16 e19) (by omega) li_X7_86 o34 (by decide) rfl rfl (Nat.le_of_ble_eq_true rfl) dX7_tryQuarrels_117 rfl ?_
    refine az_aload_n C 0 dX7_tryQuarrels_120 rfl ?_
    refine az_iload C 8 dX7_tryQuarrels_121 rfl ?_
    obtain ⟨q20, e21, h⟩ := az_b h
    refine az_cV (rest := []) (st2 := [.int q20.1]) C [.int x8] (c_X7_canBeMissed C.hL G x8 q18 e21) (by omega) li_X7_94 o34 (by decide) rfl rfl (Nat.le_of_ble_eq_true rfl) dX7_tryQuarrels_123 rfl ?_
    refine az_if_eq C 142 dX7_tryQuarrels_126 (by decide) (fun c22 => ?_) (fun c22 => ?_)
    · have h := az_t c22 h
      exact s_X7_tryQuarrels_142 C hdR G R_X7_tryQuarrels hR_X7_tryQuarrels K78 hK78 x1 x2 x3 x4 x5 x6 x7 x8 q20.2 r h hp
    · have h := az_f c22 h
      refine az_aload_n C 0 dX7_tryQuarrels_129 rfl ?_
      refine az_iload_n C 1 dX7_tryQuarrels_130 rfl ?_
      refine az_iconst (v := 1) C dX7_tryQuarrels_131 (by decide) ?_
      refine az_iadd C dX7_tryQuarrels_132 ?_
      refine az_iload_n C 2 dX7_tryQuarrels_133 rfl ?_
      refine az_iconst (v := 1) C dX7_tryQuarrels_134 (by decide) ?_
      refine az_iload C 8 dX7_tryQuarrels_135 rfl ?_
      refine az_ishl C dX7_tryQuarrels_137 ?_
      refine az_ior C dX7_tryQuarrels_138 ?_
      obtain ⟨q23, e24, h⟩ := az_b h
      refine az_cV (rest := []) (st2 := []) C [.int (x1 + 1), .int (x2 ||| (1 <<< (x8 &&& 31)))] (hR_X7_tryQuarrels (x1 + 1) (x2 ||| (1 <<< (x8 &&& 31))) q20.2 q23 e24) (by omega) li_X7_49 o34 (by decide) rfl rfl (Nat.le_of_ble_eq_true rfl) dX7_tryQuarrels_139 rfl ?_
      exact s_X7_tryQuarrels_142 C hdR G R_X7_tryQuarrels hR_X7_tryQuarrels K78 hK78 x1 x2 x3 x4 x5 x6 x7 x8 q23 r h hp
set_option maxHeartbeats 4000000 in
set_option maxRecDepth 100000 in
theorem s_X7_tryQuarrels_225 {Y : az_Y} {V : az_V} {post : Option Value → az_M → Prop} {dR : Nat} (C : az_C Y V cX7_tryQuarrels 10 RX7 none (dR + 1)) (hdR : 6 ≤ dR) (G : Nat) (R_X7_tryQuarrels : Int32 → Int32 → az_M → Option az_M) (hR_X7_tryQuarrels : ∀ (p0 : Int32) (p1 : Int32) (M : az_M) (r : az_M), R_X7_tryQuarrels p0 p1 M = some r → az_Ct Y.2.1 V yX7_tryQuarrels cX7_tryQuarrels 10 none dR [.ref (az_ad V 34), .int p0, .int p1] M (fun v M' => v = none ∧ M' = r)) (x1 : Int32) (x2 : Int32) (x4 : Int32) (x5 : Int32) (x6 : Int32) (x7 : Int32) (M : az_M) (r : az_M) (h : f_X7_tryQuarrels_225 (az_z V) G R_X7_tryQuarrels x1 x2 x4 x5 x6 x7 M = some r) (hp : post none r) : AW Y V (az_end Y V post) 10 M 225 [(0, .ref (az_ad V 34)), (1, .int x1), (2, .int x2), (4, .int x4), (5, .int x5), (6, .int x6), (7, .int x7)] [] := by
  have o34 := C.hL.at 34 (ci := 7) rfl
  have a37 := C.hL.ar 37 (t := 0) (len := 136) rfl
  have a38 := C.hL.ar 38 (t := 0) (len := 128) rfl
  have a39 := C.hL.ar 39 (t := 0) (len := 2176) rfl
  unfold f_X7_tryQuarrels_225 at h
  refine az_aload_n C 0 dX7_tryQuarrels_225 rfl ?_
  refine az_iload C 3 dX7_tryQuarrels_226 rfl ?_
  refine az_iload C 4 dX7_tryQuarrels_228 rfl ?_
  refine az_iload C 5 dX7_tryQuarrels_230 rfl ?_
  refine az_iload C 6 dX7_tryQuarrels_232 rfl ?_
  obtain ⟨q28, e29, h⟩ := az_b h
  refine az_cV (rest := []) (st2 := []) C [.int x4, .int x5, .int x6, .int x7] (c_X7_setFound C.hL x4 x5 x6 x7 M e29) (by omega) li_X7_86 o34 (by decide) rfl rfl (Nat.le_of_ble_eq_true rfl) dX7_tryQuarrels_234 rfl ?_
  refine az_aload_n C 0 dX7_tryQuarrels_237 rfl ?_
  refine az_getr (r := 38) C o34 fl_X7_22 rfl rfl dX7_tryQuarrels_238 ?_
  refine az_iload_n C 2 dX7_tryQuarrels_241 rfl ?_
  refine az_iload C 3 dX7_tryQuarrels_242 rfl ?_
  obtain ⟨g30, h⟩ := az_g h
  refine az_ist (k := x2.toNatClampNeg) C a38 g30 rfl dX7_tryQuarrels_244 ?_
  refine az_aload_n C 0 dX7_tryQuarrels_245 rfl ?_
  refine az_getr (r := 37) C o34 fl_X7_18 rfl rfl dX7_tryQuarrels_246 ?_
  refine az_iload_n C 1 dX7_tryQuarrels_249 rfl ?_
  refine az_bipush (v := 17) C dX7_tryQuarrels_250 (by decide) ?_
  refine az_imul C dX7_tryQuarrels_252 ?_
  refine az_aload_n C 0 dX7_tryQuarrels_253 rfl ?_
  refine az_getr (r := 39) C o34 fl_X7_25 rfl rfl dX7_tryQuarrels_254 ?_
  refine az_iload_n C 2 dX7_tryQuarrels_257 rfl ?_
  refine az_bipush (v := 17) C dX7_tryQuarrels_258 (by decide) ?_
  refine az_imul C dX7_tryQuarrels_260 ?_
  refine az_bipush (v := 17) C dX7_tryQuarrels_261 (by decide) ?_
  obtain ⟨g31, h⟩ := az_g h
  obtain ⟨g32, h⟩ := az_g h
  obtain ⟨g33, h⟩ := az_g2 h
  obtain ⟨g34, h⟩ := az_g2 h
  refine az_copy (i := (x1 * 17).toNatClampNeg) (j := (x2 * 17).toNatClampNeg) (k := 17) C (by omega) la_X7_80 a37 a39 g31 g32 (by decide) g33 g34 rfl rfl (by decide) (Nat.le_of_ble_eq_true rfl) dX7_tryQuarrels_263 ?_
  obtain rfl := Option.some.inj h
  exact az_vret C rfl dX7_tryQuarrels_266 hp
set_option maxHeartbeats 4000000 in
set_option maxRecDepth 100000 in
theorem s_X7_tryQuarrels_78 {Y : az_Y} {V : az_V} {post : Option Value → az_M → Prop} {dR : Nat} (C : az_C Y V cX7_tryQuarrels 10 RX7 none (dR + 1)) (hdR : 6 ≤ dR) (G : Nat) (R_X7_tryQuarrels : Int32 → Int32 → az_M → Option az_M) (hR_X7_tryQuarrels : ∀ (p0 : Int32) (p1 : Int32) (M : az_M) (r : az_M), R_X7_tryQuarrels p0 p1 M = some r → az_Ct Y.2.1 V yX7_tryQuarrels cX7_tryQuarrels 10 none dR [.ref (az_ad V 34), .int p0, .int p1] M (fun v M' => v = none ∧ M' = r)) : ∀ (F : Nat) (x1 : Int32) (x2 : Int32) (x3 : Int32) (x4 : Int32) (x5 : Int32) (x6 : Int32) (x7 : Int32) (x8 : Int32) (M : az_M) (r : az_M), f_X7_tryQuarrels_78 (az_z V) G R_X7_tryQuarrels F x1 x2 x3 x4 x5 x6 x7 x8 M = some r → post none r → AW Y V (az_end Y V post) 10 M 78 [(0, .ref (az_ad V 34)), (1, .int x1), (2, .int x2), (3, .int x3), (4, .int x4), (5, .int x5), (6, .int x6), (7, .int x7), (8, .int x8)] [] := by
  have o34 := C.hL.at 34 (ci := 7) rfl
  intro F
  induction F with
  | zero =>
    intro x1 x2 x3 x4 x5 x6 x7 x8 M r h
    exact absurd (show (none : Option az_M) = some r from h) (fun q => by cases q)
  | succ F ih =>
    intro x1 x2 x3 x4 x5 x6 x7 x8 M r h hp
    rw [f_X7_tryQuarrels_78] at h
    refine az_iload C 8 dX7_tryQuarrels_78 rfl ?_
    refine az_iload_n C 1 dX7_tryQuarrels_80 rfl ?_
    refine az_iload_n C 3 dX7_tryQuarrels_81 rfl ?_
    refine az_iadd C dX7_tryQuarrels_82 ?_
    refine az_icmp_gt C 225 dX7_tryQuarrels_83 (by decide) (fun c12 => ?_) (fun c12 => ?_)
    · have h := az_t c12 h
      refine az_sub [0, 1, 2, 4, 5, 6, 7] rfl ?_
      exact s_X7_tryQuarrels_225 C hdR G R_X7_tryQuarrels hR_X7_tryQuarrels x1 x2 x4 x5 x6 x7 M r h hp
    · have h := az_f c12 h
      refine az_aload_n C 0 dX7_tryQuarrels_86 rfl ?_
      refine az_geti C o34 fl_X7_43 rfl dX7_tryQuarrels_87 ?_
      refine az_if_eq C 98 dX7_tryQuarrels_90 (by decide) (fun c13 => ?_) (fun c13 => ?_)
      · have h := az_t c13 h
        exact s_X7_tryQuarrels_98 C hdR G R_X7_tryQuarrels hR_X7_tryQuarrels (f_X7_tryQuarrels_78 (az_z V) G R_X7_tryQuarrels F) ih x1 x2 x3 x4 x5 x6 x7 x8 M r h hp
      · have h := az_f c13 h
        refine az_iload C 4 dX7_tryQuarrels_93 rfl ?_
        refine az_if_gt C 225 dX7_tryQuarrels_95 (by decide) (fun c14 => ?_) (fun c14 => ?_)
        · have h := az_t c14 h
          refine az_sub [0, 1, 2, 4, 5, 6, 7] rfl ?_
          exact s_X7_tryQuarrels_225 C hdR G R_X7_tryQuarrels hR_X7_tryQuarrels x1 x2 x4 x5 x6 x7 M r h hp
        · have h := az_f c14 h
          exact s_X7_tryQuarrels_98 C hdR G R_X7_tryQuarrels hR_X7_tryQuarrels (f_X7_tryQuarrels_78 (az_z V) G R_X7_tryQuarrels F) ih x1 x2 x3 x4 x5 x6 x7 x8 M r h hp
set_option maxHeartbeats 4000000 in
set_option maxRecDepth 100000 in
theorem s_X7_tryQuarrels_e {Y : az_Y} {V : az_V} {post : Option Value → az_M → Prop} {dR : Nat} (C : az_C Y V cX7_tryQuarrels 10 RX7 none (dR + 1)) (hdR : 6 ≤ dR) (G : Nat) (R_X7_tryQuarrels : Int32 → Int32 → az_M → Option az_M) (hR_X7_tryQuarrels : ∀ (p0 : Int32) (p1 : Int32) (M : az_M) (r : az_M), R_X7_tryQuarrels p0 p1 M = some r → az_Ct Y.2.1 V yX7_tryQuarrels cX7_tryQuarrels 10 none dR [.ref (az_ad V 34), .int p0, .int p1] M (fun v M' => v = none ∧ M' = r)) (p0 : Int32) (p1 : Int32) (M : az_M) (r : az_M) (h : f_X7_tryQuarrels_b (az_z V) G R_X7_tryQuarrels p0 p1 M = some r) (hp : post none r) : AW Y V (az_end Y V post) 10 M 0 [(0, .ref (az_ad V 34)), (1, .int p0), (2, .int p1)] [] := by
  have o34 := C.hL.at 34 (ci := 7) rfl
  have o35 := C.hL.at 35 (ci := 4) rfl
  have a36 := C.hL.ar 36 (t := 0) (len := 145) rfl
  have a38 := C.hL.ar 38 (t := 0) (len := 128) rfl
  unfold f_X7_tryQuarrels_b at h
  refine az_aload_n C 0 dX7_tryQuarrels_0 rfl ?_
  refine az_getr (r := 35) C o34 fl_X7_12 rfl rfl dX7_tryQuarrels_1 ?_
  refine az_getr (r := 36) C o35 fl_X7_60 rfl rfl dX7_tryQuarrels_4 ?_
  refine az_bipush (v := 25) C dX7_tryQuarrels_7 (by decide) ?_
  refine az_ild (k := 25) C a36 (az_vin (by decide)) (by decide) dX7_tryQuarrels_9 ?_
  refine az_iconst (v := 1) C dX7_tryQuarrels_10 (by decide) ?_
  refine az_isub C dX7_tryQuarrels_11 ?_
  refine az_iload_n C 1 dX7_tryQuarrels_12 rfl ?_
  refine az_isub C dX7_tryQuarrels_13 ?_
  refine az_istore_n C dX7_tryQuarrels_14 rfl (by decide) rfl ?_
  refine az_iload_n C 0 dX7_tryQuarrels_15 rfl ?_
  refine az_if_ge C 36 dX7_tryQuarrels_16 (by decide) (fun c1 => ?_) (fun c1 => ?_)
  · have h := az_t c1 h
    refine az_aload_n C 1 dX7_tryQuarrels_36 rfl ?_
    refine az_iload_n C 3 dX7_tryQuarrels_37 rfl ?_
    obtain ⟨q2, e3, h⟩ := az_b h
    refine az_cV (rest := []) (st2 := [.int q2]) C [.int p1] (c_X7_isKnownBehind C.hL G p1 M e3) (by omega) li_X7_90 o34 (by decide) rfl rfl (Nat.le_of_ble_eq_true rfl) dX7_tryQuarrels_38 rfl ?_
    refine az_if_eq C 58 dX7_tryQuarrels_41 (by decide) (fun c4 => ?_) (fun c4 => ?_)
    · have h := az_t c4 h
      refine az_aload_n C 1 dX7_tryQuarrels_58 rfl ?_
      refine az_iload_n C 2 dX7_tryQuarrels_59 rfl ?_
      obtain ⟨q5, e6, h⟩ := az_b h
      refine az_cV (rest := []) (st2 := []) C [.int p0] (c_X7_keepSheet C.hL p0 M e6) (by omega) li_X7_53 o34 (by decide) rfl rfl (Nat.le_of_ble_eq_true rfl) dX7_tryQuarrels_60 rfl ?_
      refine az_iconst (v := 0) C dX7_tryQuarrels_63 (by decide) ?_
      refine az_istore C dX7_tryQuarrels_64 (by decide) rfl ?_
      refine az_iconst (v := (-1)) C dX7_tryQuarrels_66 (by decide) ?_
      refine az_istore C dX7_tryQuarrels_67 (by decide) rfl ?_
      refine az_iconst (v := (-1)) C dX7_tryQuarrels_69 (by decide) ?_
      refine az_istore C dX7_tryQuarrels_70 (by decide) rfl ?_
      refine az_iconst (v := (-1)) C dX7_tryQuarrels_72 (by decide) ?_
      refine az_istore C dX7_tryQuarrels_73 (by decide) rfl ?_
      refine az_iconst (v := 0) C dX7_tryQuarrels_75 (by decide) ?_
      refine az_istore C dX7_tryQuarrels_76 (by decide) rfl ?_
      refine az_sub [6, 7, 8, 5, 4, 3, 2, 1, 0] rfl ?_
      exact s_X7_tryQuarrels_78 C hdR G R_X7_tryQuarrels hR_X7_tryQuarrels G p0 p1 (((M.1 36 25) - 1) - p0) 0 (-1) (-1) (-1) 0 q5 r h hp
    · have h := az_f c4 h
      refine az_aload_n C 1 dX7_tryQuarrels_44 rfl ?_
      refine az_aload_n C 1 dX7_tryQuarrels_45 rfl ?_
      refine az_getr (r := 38) C o34 fl_X7_22 rfl rfl dX7_tryQuarrels_46 ?_
      refine az_iload_n C 3 dX7_tryQuarrels_49 rfl ?_
      obtain ⟨g7, h⟩ := az_g h
      refine az_ild (k := p1.toNatClampNeg) C a38 g7 rfl dX7_tryQuarrels_50 ?_
      refine az_iconst (v := (-1)) C dX7_tryQuarrels_51 (by decide) ?_
      refine az_iconst (v := (-1)) C dX7_tryQuarrels_52 (by decide) ?_
      refine az_iconst (v := (-1)) C dX7_tryQuarrels_53 (by decide) ?_
      obtain ⟨q8, e9, h⟩ := az_b h
      refine az_cV (rest := []) (st2 := []) C [.int (M.1 38 p1.toNatClampNeg), .int (-1), .int (-1), .int (-1)] (c_X7_setFound C.hL (M.1 38 p1.toNatClampNeg) (-1) (-1) (-1) M e9) (by omega) li_X7_86 o34 (by decide) rfl rfl (Nat.le_of_ble_eq_true rfl) dX7_tryQuarrels_54 rfl ?_
      obtain rfl := Option.some.inj h
      exact az_vret C rfl dX7_tryQuarrels_57 hp
  · have h := az_f c1 h
    refine az_aload_n C 1 dX7_tryQuarrels_19 rfl ?_
    refine az_iconst (v := 1) C dX7_tryQuarrels_20 (by decide) ?_
    refine az_iconst (v := 0) C dX7_tryQuarrels_21 (by decide) ?_
    refine az_iconst (v := 0) C dX7_tryQuarrels_22 (by decide) ?_
    refine az_aload_n C 1 dX7_tryQuarrels_23 rfl ?_
    refine az_getr (r := 35) C o34 fl_X7_12 rfl rfl dX7_tryQuarrels_24 ?_
    refine az_getr (r := 36) C o35 fl_X7_60 rfl rfl dX7_tryQuarrels_27 ?_
    refine az_iconst (v := 0) C dX7_tryQuarrels_30 (by decide) ?_
    refine az_ild (k := 0) C a36 (az_vin (by decide)) (by decide) dX7_tryQuarrels_31 ?_
    obtain ⟨q10, e11, h⟩ := az_b h
    refine az_cV (rest := []) (st2 := []) C [.int 1, .int 0, .int 0, .int (M.1 36 0)] (c_X7_setFound C.hL 1 0 0 (M.1 36 0) M e11) (by omega) li_X7_86 o34 (by decide) rfl rfl (Nat.le_of_ble_eq_true rfl) dX7_tryQuarrels_32 rfl ?_
    obtain rfl := Option.some.inj h
    exact az_vret C rfl dX7_tryQuarrels_35 hp
theorem c_X7_tryQuarrels_b {l : Launch} {V : az_V} {dR : Nat} (hL : az_L V) (hdR : 6 ≤ dR) (G : Nat) (R_X7_tryQuarrels : Int32 → Int32 → az_M → Option az_M) (hR_X7_tryQuarrels : ∀ (p0 : Int32) (p1 : Int32) (M : az_M) (r : az_M), R_X7_tryQuarrels p0 p1 M = some r → az_Ct l V yX7_tryQuarrels cX7_tryQuarrels 10 none dR [.ref (az_ad V 34), .int p0, .int p1] M (fun v M' => v = none ∧ M' = r)) (p0 : Int32) (p1 : Int32) (M : az_M) {r : az_M} (h : f_X7_tryQuarrels_b (az_z V) G R_X7_tryQuarrels p0 p1 M = some r) : az_Ct l V yX7_tryQuarrels cX7_tryQuarrels 10 none (dR + 1) [.ref (az_ad V 34), .int p0, .int p1] M (fun v M' => v = none ∧ M' = r) :=
  az_Ct.of (by decide) (Nat.le_of_ble_eq_true rfl) (fun Y hl _ C => s_X7_tryQuarrels_e C hdR G R_X7_tryQuarrels (by rw [hl]; exact hR_X7_tryQuarrels) p0 p1 M r h ⟨rfl, rfl⟩)
theorem c_X7_tryQuarrels {l : Launch} {V : az_V} (hL : az_L V) (G : Nat) : ∀ (D : Nat) (p0 : Int32) (p1 : Int32) (M : az_M) {r : az_M}, f_X7_tryQuarrels (az_z V) G D p0 p1 M = some r → az_Ct l V yX7_tryQuarrels cX7_tryQuarrels 10 none (6 + 1 * D) [.ref (az_ad V 34), .int p0, .int p1] M (fun v M' => v = none ∧ M' = r) := by
  intro D
  induction D with
  | zero =>
    intro p0 p1 M r h
    exact absurd (show (none : Option az_M) = some r from h) (fun q => by cases q)
  | succ D ih =>
    intro p0 p1 M r h
    have h : f_X7_tryQuarrels_b (az_z V) G (f_X7_tryQuarrels (az_z V) G D) p0 p1 M = some r := h
    exact c_X7_tryQuarrels_b (dR := 6 + 1 * D) hL (Nat.le_add_right _ _) G (f_X7_tryQuarrels (az_z V) G D) (fun p0 p1 M r h => ih p0 p1 M h) p0 p1 M h
set_option maxHeartbeats 4000000 in
set_option maxRecDepth 100000 in
theorem s_X7_lookForRows_38 {Y : az_Y} {V : az_V} {post : Option Value → az_M → Prop} (C : az_C Y V cX7_lookForRows 1 RX7 none 17) (G : Nat)  (M : az_M) (r : az_M) (h : f_X7_lookForRows_38 (az_z V) G M = some r) (hp : post none r) : AW Y V (az_end Y V post) 1 M 38 [] [] := by
  unfold f_X7_lookForRows_38 at h
  obtain rfl := Option.some.inj h
  exact az_vret C rfl dX7_lookForRows_38 hp
set_option maxHeartbeats 4000000 in
set_option maxRecDepth 100000 in
theorem s_X7_lookForRows_e {Y : az_Y} {V : az_V} {post : Option Value → az_M → Prop} (C : az_C Y V cX7_lookForRows 1 RX7 none 17) (G : Nat)  (M : az_M) (r : az_M) (h : f_X7_lookForRows (az_z V) G M = some r) (hp : post none r) : AW Y V (az_end Y V post) 1 M 0 [(0, .ref (az_ad V 34))] [] := by
  have o34 := C.hL.at 34 (ci := 7) rfl
  have o35 := C.hL.at 35 (ci := 4) rfl
  unfold f_X7_lookForRows at h
  refine az_aload_n C 0 dX7_lookForRows_0 rfl ?_
  refine az_geti C o34 fl_X7_28 rfl dX7_lookForRows_1 ?_
  refine az_if_ne C 38 dX7_lookForRows_4 (by decide) (fun c1 => ?_) (fun c1 => ?_)
  · have h := az_f c1 h
    refine az_sub [] rfl ?_
    exact s_X7_lookForRows_38 C G M r h hp
  · have h := az_t c1 h
    refine az_aload_n C 0 dX7_lookForRows_7 rfl ?_
    refine az_getr (r := 35) C o34 fl_X7_12 rfl rfl dX7_lookForRows_8 ?_
    refine az_aload_n C 0 dX7_lookForRows_11 rfl ?_
    refine az_getr (r := 1) C o34 fl_X7_32 rfl rfl dX7_lookForRows_12 ?_
    obtain ⟨q2, e3, h⟩ := az_b h
    refine az_cV (rest := []) (st2 := []) C [.ref (az_ad V 1)] (c_X4_copy C.hL 35 (C.hL.pv 35 rfl) 1 (C.hL.pv 1 rfl) M e3) (by decide) li_X7_39 o35 (by decide) rfl rfl (Nat.le_of_ble_eq_true rfl) dX7_lookForRows_15 rfl ?_
    refine az_aload_n C 0 dX7_lookForRows_18 rfl ?_
    refine az_iconst (v := 0) C dX7_lookForRows_19 (by decide) ?_
    refine az_puti C o34 fl_X7_43 rfl rfl rfl rfl dX7_lookForRows_20 ?_
    refine az_aload_n C 0 dX7_lookForRows_23 rfl ?_
    obtain ⟨q4, e5, h⟩ := az_b h
    refine az_cV (rest := []) (st2 := []) C [] (c_X7_forgetBehind C.hL G (az_i q2 34 10 0) e5) (by decide) li_X7_46 o34 (by decide) rfl rfl (Nat.le_of_ble_eq_true rfl) dX7_lookForRows_24 rfl ?_
    refine az_aload_n C 0 dX7_lookForRows_27 rfl ?_
    refine az_iconst (v := 0) C dX7_lookForRows_28 (by decide) ?_
    refine az_iconst (v := 0) C dX7_lookForRows_29 (by decide) ?_
    obtain ⟨q6, e7, h⟩ := az_b h
    refine az_cV (rest := []) (st2 := []) C [.int 0, .int 0] (c_X7_tryQuarrels C.hL G 10 0 0 q4 e7) (by decide) li_X7_49 o34 (by decide) rfl rfl (Nat.le_of_ble_eq_true rfl) dX7_lookForRows_30 rfl ?_
    refine az_aload_n C 0 dX7_lookForRows_33 rfl ?_
    refine az_iconst (v := 1) C dX7_lookForRows_34 (by decide) ?_
    refine az_puti C o34 fl_X7_28 rfl rfl rfl rfl dX7_lookForRows_35 ?_
    refine az_sub [] rfl ?_
    exact s_X7_lookForRows_38 C G (az_i q6 34 13 1) r h hp
theorem c_X7_lookForRows {l : Launch} {V : az_V} (hL : az_L V) (G : Nat)  (M : az_M) {r : az_M} (h : f_X7_lookForRows (az_z V) G M = some r) : az_Ct l V yX7_lookForRows cX7_lookForRows 1 none 17 [.ref (az_ad V 34)] M (fun v M' => v = none ∧ M' = r) :=
  az_Ct.of (by decide) (Nat.le_of_ble_eq_true rfl) (fun Y _ _ C => s_X7_lookForRows_e C G M r h ⟨rfl, rfl⟩)
set_option maxHeartbeats 4000000 in
set_option maxRecDepth 100000 in
theorem s_X7_fewestSpades_28 {Y : az_Y} {V : az_V} {post : Option Value → az_M → Prop} (C : az_C Y V cX7_fewestSpades 2 RX7 (some .int) 17) (G : Nat) : ∀ (F : Nat) (x1 : Int32) (M : az_M) (r : (Int32 × az_M)), f_X7_fewestSpades_28 (az_z V) G F x1 M = some r → post (some (.int r.1)) r.2 → AW Y V (az_end Y V post) 2 M 28 [(0, .ref (az_ad V 34)), (1, .int x1)] [] := by
  have o34 := C.hL.at 34 (ci := 7) rfl
  have o35 := C.hL.at 35 (ci := 4) rfl
  have a36 := C.hL.ar 36 (t := 0) (len := 145) rfl
  intro F
  induction F with
  | zero =>
    intro x1 M r h
    exact absurd (show (none : Option (Int32 × az_M)) = some r from h) (fun q => by cases q)
  | succ F ih =>
    intro x1 M r h hp
    rw [f_X7_fewestSpades_28] at h
    refine az_iload_n C 1 dX7_fewestSpades_28 rfl ?_
    refine az_bipush (v := 9) C dX7_fewestSpades_29 (by decide) ?_
    refine az_icmp_gt C 75 dX7_fewestSpades_31 (by decide) (fun c5 => ?_) (fun c5 => ?_)
    · have h := az_t c5 h
      refine az_iconst (v := (-1)) C dX7_fewestSpades_75 (by decide) ?_
      obtain rfl := Option.some.inj h
      exact az_iret C dX7_fewestSpades_76 hp
    · have h := az_f c5 h
      refine az_aload_n C 0 dX7_fewestSpades_34 rfl ?_
      refine az_iconst (v := 0) C dX7_fewestSpades_35 (by decide) ?_
      obtain ⟨q6, e7, h⟩ := az_b h
      refine az_cV (rest := []) (st2 := []) C [.int 0] (c_X7_resetSheet C.hL 0 M e7) (by decide) li_X7_57 o34 (by decide) rfl rfl (Nat.le_of_ble_eq_true rfl) dX7_fewestSpades_36 rfl ?_
      refine az_aload_n C 0 dX7_fewestSpades_39 rfl ?_
      refine az_getr (r := 35) C o34 fl_X7_12 rfl rfl dX7_fewestSpades_40 ?_
      refine az_getr (r := 36) C o35 fl_X7_60 rfl rfl dX7_fewestSpades_43 ?_
      refine az_bipush (v := 19) C dX7_fewestSpades_46 (by decide) ?_
      refine az_iload_n C 1 dX7_fewestSpades_48 rfl ?_
      refine az_ist (k := 19) C a36 (az_vin (by decide)) (by decide) dX7_fewestSpades_49 ?_
      refine az_aload_n C 0 dX7_fewestSpades_50 rfl ?_
      obtain ⟨q8, e9, h⟩ := az_b h
      refine az_cV (rest := []) (st2 := []) C [] (c_X7_forgetBehind C.hL G (az_i q6 36 19 x1) e9) (by decide) li_X7_46 o34 (by decide) rfl rfl (Nat.le_of_ble_eq_true rfl) dX7_fewestSpades_51 rfl ?_
      refine az_aload_n C 0 dX7_fewestSpades_54 rfl ?_
      refine az_iconst (v := 0) C dX7_fewestSpades_55 (by decide) ?_
      refine az_iconst (v := 0) C dX7_fewestSpades_56 (by decide) ?_
      obtain ⟨q10, e11, h⟩ := az_b h
      refine az_cV (rest := []) (st2 := []) C [.int 0, .int 0] (c_X7_tryQuarrels C.hL G 10 0 0 q8 e11) (by decide) li_X7_49 o34 (by decide) rfl rfl (Nat.le_of_ble_eq_true rfl) dX7_fewestSpades_57 rfl ?_
      refine az_aload_n C 0 dX7_fewestSpades_60 rfl ?_
      refine az_geti C o34 fl_X7_63 rfl dX7_fewestSpades_61 ?_
      refine az_if_le C 69 dX7_fewestSpades_64 (by decide) (fun c12 => ?_) (fun c12 => ?_)
      · have h := az_t c12 h
        refine az_iinc (v := (x1 + 1)) C 1 dX7_fewestSpades_69 rfl rfl (by decide) rfl ?_
        refine az_goto C 28 dX7_fewestSpades_72 (by decide) ?_
        refine az_sub [1, 0] rfl ?_
        exact ih (x1 + 1) q10 r h hp
      · have h := az_f c12 h
        refine az_iload_n C 1 dX7_fewestSpades_67 rfl ?_
        obtain rfl := Option.some.inj h
        exact az_iret C dX7_fewestSpades_68 hp
set_option maxHeartbeats 4000000 in
set_option maxRecDepth 100000 in
theorem s_X7_fewestSpades_e {Y : az_Y} {V : az_V} {post : Option Value → az_M → Prop} (C : az_C Y V cX7_fewestSpades 2 RX7 (some .int) 17) (G : Nat)  (M : az_M) (r : (Int32 × az_M)) (h : f_X7_fewestSpades (az_z V) G M = some r) (hp : post (some (.int r.1)) r.2) : AW Y V (az_end Y V post) 2 M 0 [(0, .ref (az_ad V 34))] [] := by
  have o34 := C.hL.at 34 (ci := 7) rfl
  have o35 := C.hL.at 35 (ci := 4) rfl
  unfold f_X7_fewestSpades at h
  refine az_aload_n C 0 dX7_fewestSpades_0 rfl ?_
  refine az_iconst (v := 0) C dX7_fewestSpades_1 (by decide) ?_
  refine az_puti C o34 fl_X7_28 rfl rfl rfl rfl dX7_fewestSpades_2 ?_
  refine az_aload_n C 0 dX7_fewestSpades_5 rfl ?_
  refine az_getr (r := 35) C o34 fl_X7_12 rfl rfl dX7_fewestSpades_6 ?_
  refine az_aload_n C 0 dX7_fewestSpades_9 rfl ?_
  refine az_getr (r := 1) C o34 fl_X7_32 rfl rfl dX7_fewestSpades_10 ?_
  obtain ⟨q1, e2, h⟩ := az_b h
  refine az_cV (rest := []) (st2 := []) C [.ref (az_ad V 1)] (c_X4_copy C.hL 35 (C.hL.pv 35 rfl) 1 (C.hL.pv 1 rfl) (az_i M 34 13 0) e2) (by decide) li_X7_39 o35 (by decide) rfl rfl (Nat.le_of_ble_eq_true rfl) dX7_fewestSpades_13 rfl ?_
  refine az_aload_n C 0 dX7_fewestSpades_16 rfl ?_
  refine az_iconst (v := 1) C dX7_fewestSpades_17 (by decide) ?_
  refine az_puti C o34 fl_X7_43 rfl rfl rfl rfl dX7_fewestSpades_18 ?_
  refine az_aload_n C 0 dX7_fewestSpades_21 rfl ?_
  refine az_iconst (v := 0) C dX7_fewestSpades_22 (by decide) ?_
  obtain ⟨q3, e4, h⟩ := az_b h
  refine az_cV (rest := []) (st2 := []) C [.int 0] (c_X7_keepSheet C.hL 0 (az_i q1 34 10 1) e4) (by decide) li_X7_53 o34 (by decide) rfl rfl (Nat.le_of_ble_eq_true rfl) dX7_fewestSpades_23 rfl ?_
  refine az_iconst (v := 1) C dX7_fewestSpades_26 (by decide) ?_
  refine az_istore_n C dX7_fewestSpades_27 rfl (by decide) rfl ?_
  refine az_sub [1, 0] rfl ?_
  exact s_X7_fewestSpades_28 C G G 1 q3 r h hp
theorem c_X7_fewestSpades {l : Launch} {V : az_V} (hL : az_L V) (G : Nat)  (M : az_M) {r : (Int32 × az_M)} (h : f_X7_fewestSpades (az_z V) G M = some r) : az_Ct l V yX7_fewestSpades cX7_fewestSpades 2 (some .int) 17 [.ref (az_ad V 34)] M (fun v M' => v = some (.int r.1) ∧ M' = r.2) :=
  az_Ct.of (by decide) (Nat.le_of_ble_eq_true rfl) (fun Y _ _ C => s_X7_fewestSpades_e C G M r h ⟨rfl, rfl⟩)
set_option maxHeartbeats 4000000 in
set_option maxRecDepth 100000 in
theorem s_X7_tryShots_66 {Y : az_Y} {V : az_V} {post : Option Value → az_M → Prop} {dR : Nat} (C : az_C Y V cX7_tryShots 5 RX7 none (dR + 1)) (hdR : 5 ≤ dR) (G : Nat) (R_X7_tryShots : Int32 → Int32 → Int32 → az_M → Option az_M) (hR_X7_tryShots : ∀ (p0 : Int32) (p1 : Int32) (p2 : Int32) (M : az_M) (r : az_M), R_X7_tryShots p0 p1 p2 M = some r → az_Ct Y.2.1 V yX7_tryShots cX7_tryShots 5 none dR [.ref (az_ad V 34), .int p0, .int p1, .int p2] M (fun v M' => v = none ∧ M' = r))  (M : az_M) (r : az_M) (h : f_X7_tryShots_66 (az_z V) G R_X7_tryShots M = some r) (hp : post none r) : AW Y V (az_end Y V post) 5 M 66 [] [] := by
  unfold f_X7_tryShots_66 at h
  obtain rfl := Option.some.inj h
  exact az_vret C rfl dX7_tryShots_66 hp
set_option maxHeartbeats 4000000 in
set_option maxRecDepth 100000 in
theorem s_X7_tryShots_53 {Y : az_Y} {V : az_V} {post : Option Value → az_M → Prop} {dR : Nat} (C : az_C Y V cX7_tryShots 5 RX7 none (dR + 1)) (hdR : 5 ≤ dR) (G : Nat) (R_X7_tryShots : Int32 → Int32 → Int32 → az_M → Option az_M) (hR_X7_tryShots : ∀ (p0 : Int32) (p1 : Int32) (p2 : Int32) (M : az_M) (r : az_M), R_X7_tryShots p0 p1 p2 M = some r → az_Ct Y.2.1 V yX7_tryShots cX7_tryShots 5 none dR [.ref (az_ad V 34), .int p0, .int p1, .int p2] M (fun v M' => v = none ∧ M' = r)) (s0 : Int32) (M : az_M) (r : az_M) (h : f_X7_tryShots_53 (az_z V) G R_X7_tryShots s0 M = some r) (hp : post none r) : AW Y V (az_end Y V post) 5 M 53 [(0, .ref (az_ad V 34))] [.int s0, .ref (az_ad V 34)] := by
  have o34 := C.hL.at 34 (ci := 7) rfl
  unfold f_X7_tryShots_53 at h
  refine az_puti C o34 fl_X7_73 rfl rfl rfl rfl dX7_tryShots_53 ?_
  refine az_aload_n C 0 dX7_tryShots_56 rfl ?_
  refine az_dup C dX7_tryShots_57 rfl ?_
  refine az_geti C o34 fl_X7_63 rfl dX7_tryShots_58 ?_
  refine az_iconst (v := 1) C dX7_tryShots_61 (by decide) ?_
  refine az_iadd C dX7_tryShots_62 ?_
  refine az_puti C o34 fl_X7_63 rfl rfl rfl rfl dX7_tryShots_63 ?_
  refine az_sub [] rfl ?_
  exact s_X7_tryShots_66 C hdR G R_X7_tryShots hR_X7_tryShots (az_i (az_i M 34 1 s0) 34 0 (((az_i M 34 1 s0).1 34 0) + 1)) r h hp
set_option maxHeartbeats 4000000 in
set_option maxRecDepth 100000 in
theorem s_X7_tryShots_150 {Y : az_Y} {V : az_V} {post : Option Value → az_M → Prop} {dR : Nat} (C : az_C Y V cX7_tryShots 5 RX7 none (dR + 1)) (hdR : 5 ≤ dR) (G : Nat) (R_X7_tryShots : Int32 → Int32 → Int32 → az_M → Option az_M) (hR_X7_tryShots : ∀ (p0 : Int32) (p1 : Int32) (p2 : Int32) (M : az_M) (r : az_M), R_X7_tryShots p0 p1 p2 M = some r → az_Ct Y.2.1 V yX7_tryShots cX7_tryShots 5 none dR [.ref (az_ad V 34), .int p0, .int p1, .int p2] M (fun v M' => v = none ∧ M' = r)) (K75 : (Int32 → Int32 → Int32 → Int32 → az_M → Option az_M)) (hK75 : ∀ (x1 : Int32) (x2 : Int32) (x3 : Int32) (x4 : Int32) (M : az_M) (r : az_M), K75 x1 x2 x3 x4 M = some r → post none r → AW Y V (az_end Y V post) 5 M 75 [(0, .ref (az_ad V 34)), (1, .int x1), (2, .int x2), (3, .int x3), (4, .int x4)] []) (x1 : Int32) (x2 : Int32) (x3 : Int32) (x4 : Int32) (M : az_M) (r : az_M) (h : f_X7_tryShots_150 (az_z V) G R_X7_tryShots K75 x1 x2 x3 x4 M = some r) (hp : post none r) : AW Y V (az_end Y V post) 5 M 150 [(0, .ref (az_ad V 34)), (1, .int x1), (2, .int x2), (3, .int x3), (4, .int x4)] [] := by
  unfold f_X7_tryShots_150 at h
  refine az_iinc (v := (x4 + 1)) C 4 dX7_tryShots_150 rfl rfl (by decide) rfl ?_
  refine az_goto C 75 dX7_tryShots_153 (by decide) ?_
  refine az_sub [1, 2, 3, 4, 0] rfl ?_
  exact hK75 x1 x2 x3 (x4 + 1) M r h hp
set_option maxHeartbeats 4000000 in
set_option maxRecDepth 100000 in
theorem s_X7_tryShots_75 {Y : az_Y} {V : az_V} {post : Option Value → az_M → Prop} {dR : Nat} (C : az_C Y V cX7_tryShots 5 RX7 none (dR + 1)) (hdR : 5 ≤ dR) (G : Nat) (R_X7_tryShots : Int32 → Int32 → Int32 → az_M → Option az_M) (hR_X7_tryShots : ∀ (p0 : Int32) (p1 : Int32) (p2 : Int32) (M : az_M) (r : az_M), R_X7_tryShots p0 p1 p2 M = some r → az_Ct Y.2.1 V yX7_tryShots cX7_tryShots 5 none dR [.ref (az_ad V 34), .int p0, .int p1, .int p2] M (fun v M' => v = none ∧ M' = r)) : ∀ (F : Nat) (x1 : Int32) (x2 : Int32) (x3 : Int32) (x4 : Int32) (M : az_M) (r : az_M), f_X7_tryShots_75 (az_z V) G R_X7_tryShots F x1 x2 x3 x4 M = some r → post none r → AW Y V (az_end Y V post) 5 M 75 [(0, .ref (az_ad V 34)), (1, .int x1), (2, .int x2), (3, .int x3), (4, .int x4)] [] := by
  have o19 := C.hL.at 19 (ci := 8) rfl
  have o34 := C.hL.at 34 (ci := 7) rfl
  have o35 := C.hL.at 35 (ci := 4) rfl
  have a36 := C.hL.ar 36 (t := 0) (len := 145) rfl
  intro F
  induction F with
  | zero =>
    intro x1 x2 x3 x4 M r h
    exact absurd (show (none : Option az_M) = some r from h) (fun q => by cases q)
  | succ F ih =>
    intro x1 x2 x3 x4 M r h hp
    rw [f_X7_tryShots_75] at h
    refine az_iload C 4 dX7_tryShots_75 rfl ?_
    refine az_aload_n C 0 dX7_tryShots_77 rfl ?_
    refine az_getr (r := 35) C o34 fl_X7_12 rfl rfl dX7_tryShots_78 ?_
    refine az_getr (r := 36) C o35 fl_X7_60 rfl rfl dX7_tryShots_81 ?_
    refine az_bipush (v := 23) C dX7_tryShots_84 (by decide) ?_
    refine az_ild (k := 23) C a36 (az_vin (by decide)) (by decide) dX7_tryShots_86 ?_
    refine az_icmp_ge C 156 dX7_tryShots_87 (by decide) (fun c7 => ?_) (fun c7 => ?_)
    · have h := az_t c7 h
      obtain rfl := Option.some.inj h
      exact az_vret C rfl dX7_tryShots_156 hp
    · have h := az_f c7 h
      refine az_aload_n C 0 dX7_tryShots_90 rfl ?_
      refine az_iload_n C 1 dX7_tryShots_91 rfl ?_
      obtain ⟨q8, e9, h⟩ := az_b h
      refine az_cV (rest := []) (st2 := []) C [.int x1] (c_X7_resetSheet C.hL x1 M e9) (by omega) li_X7_57 o34 (by decide) rfl rfl (Nat.le_of_ble_eq_true rfl) dX7_tryShots_92 rfl ?_
      refine az_aload_n C 0 dX7_tryShots_95 rfl ?_
      refine az_getr (r := 35) C o34 fl_X7_12 rfl rfl dX7_tryShots_96 ?_
      obtain ⟨q10, e11, h⟩ := az_b h
      refine az_cV (rest := []) (st2 := [.int q10]) C [] (c_X4_canBeFired C.hL 35 (C.hL.pv 35 rfl) q8 e11) (by omega) li_X7_109 o35 (by decide) rfl rfl (Nat.le_of_ble_eq_true rfl) dX7_tryShots_99 rfl ?_
      refine az_if_eq C 150 dX7_tryShots_102 (by decide) (fun c12 => ?_) (fun c12 => ?_)
      · have h := az_t c12 h
        exact s_X7_tryShots_150 C hdR G R_X7_tryShots hR_X7_tryShots (f_X7_tryShots_75 (az_z V) G R_X7_tryShots F) ih x1 x2 x3 x4 q8 r h hp
      · have h := az_f c12 h
        refine az_aload_n C 0 dX7_tryShots_105 rfl ?_
        refine az_getr (r := 35) C o34 fl_X7_12 rfl rfl dX7_tryShots_106 ?_
        refine az_getr (r := 36) C o35 fl_X7_60 rfl rfl dX7_tryShots_109 ?_
        refine az_bipush (v := 27) C dX7_tryShots_112 (by decide) ?_
        refine az_iload C 4 dX7_tryShots_114 rfl ?_
        refine az_iadd C dX7_tryShots_116 ?_
        obtain ⟨g13, h⟩ := az_g h
        refine az_ild (k := (27 + x4).toNatClampNeg) C a36 g13 rfl dX7_tryShots_117 ?_
        refine az_iconst (v := 2) C dX7_tryShots_118 (by decide) ?_
        refine az_icmp_eq C 150 dX7_tryShots_119 (by decide) (fun c14 => ?_) (fun c14 => ?_)
        · have h := az_t c14 h
          exact s_X7_tryShots_150 C hdR G R_X7_tryShots hR_X7_tryShots (f_X7_tryShots_75 (az_z V) G R_X7_tryShots F) ih x1 x2 x3 x4 q8 r h hp
        · have h := az_f c14 h
          refine az_aload_n C 0 dX7_tryShots_122 rfl ?_
          refine az_getr (r := 19) C o34 fl_X7_35 rfl rfl dX7_tryShots_123 ?_
          refine az_aload_n C 0 dX7_tryShots_126 rfl ?_
          refine az_getr (r := 35) C o34 fl_X7_12 rfl rfl dX7_tryShots_127 ?_
          refine az_iconst (v := (-1)) C dX7_tryShots_130 (by decide) ?_
          refine az_iload C 4 dX7_tryShots_131 rfl ?_
          obtain ⟨q15, e16, h⟩ := az_b h
          refine az_cV (rest := []) (st2 := []) C [.ref (az_ad V 35), .int (-1), .int x4] (c_X8_shoot C.hL G 35 (C.hL.pv 35 rfl) (-1) x4 q8 e16) (by omega) li_X7_113 o19 (by decide) rfl rfl (Nat.le_of_ble_eq_true rfl) dX7_tryShots_133 rfl ?_
          refine az_aload_n C 0 dX7_tryShots_136 rfl ?_
          refine az_iload_n C 1 dX7_tryShots_137 rfl ?_
          refine az_iconst (v := 1) C dX7_tryShots_138 (by decide) ?_
          refine az_iadd C dX7_tryShots_139 ?_
          refine az_iload_n C 2 dX7_tryShots_140 rfl ?_
          refine az_iload_n C 3 dX7_tryShots_141 rfl ?_
          refine az_iconst (v := 4) C dX7_tryShots_142 (by decide) ?_
          refine az_ishl C dX7_tryShots_143 ?_
          refine az_iload C 4 dX7_tryShots_144 rfl ?_
          refine az_ior C dX7_tryShots_146 ?_
          obtain ⟨q17, e18, h⟩ := az_b h
          refine az_cV (rest := []) (st2 := []) C [.int (x1 + 1), .int x2, .int ((x3 <<< (4 &&& 31)) ||| x4)] (hR_X7_tryShots (x1 + 1) x2 ((x3 <<< (4 &&& 31)) ||| x4) q15 q17 e18) (by omega) li_X7_76 o34 (by decide) rfl rfl (Nat.le_of_ble_eq_true rfl) dX7_tryShots_147 rfl ?_
          exact s_X7_tryShots_150 C hdR G R_X7_tryShots hR_X7_tryShots (f_X7_tryShots_75 (az_z V) G R_X7_tryShots F) ih x1 x2 x3 x4 q17 r h hp
set_option maxHeartbeats 4000000 in
set_option maxRecDepth 100000 in
theorem s_X7_tryShots_e {Y : az_Y} {V : az_V} {post : Option Value → az_M → Prop} {dR : Nat} (C : az_C Y V cX7_tryShots 5 RX7 none (dR + 1)) (hdR : 5 ≤ dR) (G : Nat) (R_X7_tryShots : Int32 → Int32 → Int32 → az_M → Option az_M) (hR_X7_tryShots : ∀ (p0 : Int32) (p1 : Int32) (p2 : Int32) (M : az_M) (r : az_M), R_X7_tryShots p0 p1 p2 M = some r → az_Ct Y.2.1 V yX7_tryShots cX7_tryShots 5 none dR [.ref (az_ad V 34), .int p0, .int p1, .int p2] M (fun v M' => v = none ∧ M' = r)) (p0 : Int32) (p1 : Int32) (p2 : Int32) (M : az_M) (r : az_M) (h : f_X7_tryShots_b (az_z V) G R_X7_tryShots p0 p1 p2 M = some r) (hp : post none r) : AW Y V (az_end Y V post) 5 M 0 [(0, .ref (az_ad V 34)), (1, .int p0), (2, .int p1), (3, .int p2)] [] := by
  have o34 := C.hL.at 34 (ci := 7) rfl
  have o35 := C.hL.at 35 (ci := 4) rfl
  have a36 := C.hL.ar 36 (t := 0) (len := 145) rfl
  unfold f_X7_tryShots_b at h
  refine az_iload_n C 1 dX7_tryShots_0 rfl ?_
  refine az_iload_n C 2 dX7_tryShots_1 rfl ?_
  refine az_icmp_lt C 67 dX7_tryShots_2 (by decide) (fun c1 => ?_) (fun c1 => ?_)
  · have h := az_t c1 h
    refine az_aload_n C 0 dX7_tryShots_67 rfl ?_
    refine az_iload_n C 1 dX7_tryShots_68 rfl ?_
    obtain ⟨q2, e3, h⟩ := az_b h
    refine az_cV (rest := []) (st2 := []) C [.int p0] (c_X7_keepSheet C.hL p0 M e3) (by omega) li_X7_53 o34 (by decide) rfl rfl (Nat.le_of_ble_eq_true rfl) dX7_tryShots_69 rfl ?_
    refine az_iconst (v := 0) C dX7_tryShots_72 (by decide) ?_
    refine az_istore C dX7_tryShots_73 (by decide) rfl ?_
    refine az_sub [1, 2, 3, 4, 0] rfl ?_
    exact s_X7_tryShots_75 C hdR G R_X7_tryShots hR_X7_tryShots G p0 p1 p2 0 q2 r h hp
  · have h := az_f c1 h
    refine az_aload_n C 0 dX7_tryShots_5 rfl ?_
    refine az_getr (r := 35) C o34 fl_X7_12 rfl rfl dX7_tryShots_6 ?_
    refine az_getr (r := 36) C o35 fl_X7_60 rfl rfl dX7_tryShots_9 ?_
    refine az_iconst (v := 0) C dX7_tryShots_12 (by decide) ?_
    refine az_ild (k := 0) C a36 (az_vin (by decide)) (by decide) dX7_tryShots_13 ?_
    refine az_aload_n C 0 dX7_tryShots_14 rfl ?_
    refine az_geti C o34 fl_X7_67 rfl dX7_tryShots_15 ?_
    refine az_icmp_ne C 66 dX7_tryShots_18 (by decide) (fun c4 => ?_) (fun c4 => ?_)
    · have h := az_f c4 h
      refine az_sub [] rfl ?_
      exact s_X7_tryShots_66 C hdR G R_X7_tryShots hR_X7_tryShots M r h hp
    · have h := az_t c4 h
      refine az_aload_n C 0 dX7_tryShots_21 rfl ?_
      refine az_getr (r := 35) C o34 fl_X7_12 rfl rfl dX7_tryShots_22 ?_
      refine az_getr (r := 36) C o35 fl_X7_60 rfl rfl dX7_tryShots_25 ?_
      refine az_iconst (v := 1) C dX7_tryShots_28 (by decide) ?_
      refine az_ild (k := 1) C a36 (az_vin (by decide)) (by decide) dX7_tryShots_29 ?_
      refine az_aload_n C 0 dX7_tryShots_30 rfl ?_
      refine az_geti C o34 fl_X7_70 rfl dX7_tryShots_31 ?_
      refine az_icmp_ne C 66 dX7_tryShots_34 (by decide) (fun c5 => ?_) (fun c5 => ?_)
      · have h := az_f c5 h
        refine az_sub [] rfl ?_
        exact s_X7_tryShots_66 C hdR G R_X7_tryShots hR_X7_tryShots M r h hp
      · have h := az_t c5 h
        refine az_aload_n C 0 dX7_tryShots_37 rfl ?_
        refine az_aload_n C 0 dX7_tryShots_38 rfl ?_
        refine az_geti C o34 fl_X7_63 rfl dX7_tryShots_39 ?_
        refine az_if_ne C 49 dX7_tryShots_42 (by decide) (fun c6 => ?_) (fun c6 => ?_)
        · have h := az_f c6 h
          refine az_aload_n C 0 dX7_tryShots_49 rfl ?_
          refine az_geti C o34 fl_X7_73 rfl dX7_tryShots_50 ?_
          refine az_sub [0] rfl ?_
          exact s_X7_tryShots_53 C hdR G R_X7_tryShots hR_X7_tryShots (M.1 34 1) M r h hp
        · have h := az_t c6 h
          refine az_iload_n C 3 dX7_tryShots_45 rfl ?_
          refine az_goto C 53 dX7_tryShots_46 (by decide) ?_
          refine az_sub [0] rfl ?_
          exact s_X7_tryShots_53 C hdR G R_X7_tryShots hR_X7_tryShots p2 M r h hp
theorem c_X7_tryShots_b {l : Launch} {V : az_V} {dR : Nat} (hL : az_L V) (hdR : 5 ≤ dR) (G : Nat) (R_X7_tryShots : Int32 → Int32 → Int32 → az_M → Option az_M) (hR_X7_tryShots : ∀ (p0 : Int32) (p1 : Int32) (p2 : Int32) (M : az_M) (r : az_M), R_X7_tryShots p0 p1 p2 M = some r → az_Ct l V yX7_tryShots cX7_tryShots 5 none dR [.ref (az_ad V 34), .int p0, .int p1, .int p2] M (fun v M' => v = none ∧ M' = r)) (p0 : Int32) (p1 : Int32) (p2 : Int32) (M : az_M) {r : az_M} (h : f_X7_tryShots_b (az_z V) G R_X7_tryShots p0 p1 p2 M = some r) : az_Ct l V yX7_tryShots cX7_tryShots 5 none (dR + 1) [.ref (az_ad V 34), .int p0, .int p1, .int p2] M (fun v M' => v = none ∧ M' = r) :=
  az_Ct.of (by decide) (Nat.le_of_ble_eq_true rfl) (fun Y hl _ C => s_X7_tryShots_e C hdR G R_X7_tryShots (by rw [hl]; exact hR_X7_tryShots) p0 p1 p2 M r h ⟨rfl, rfl⟩)
theorem c_X7_tryShots {l : Launch} {V : az_V} (hL : az_L V) (G : Nat) : ∀ (D : Nat) (p0 : Int32) (p1 : Int32) (p2 : Int32) (M : az_M) {r : az_M}, f_X7_tryShots (az_z V) G D p0 p1 p2 M = some r → az_Ct l V yX7_tryShots cX7_tryShots 5 none (5 + 1 * D) [.ref (az_ad V 34), .int p0, .int p1, .int p2] M (fun v M' => v = none ∧ M' = r) := by
  intro D
  induction D with
  | zero =>
    intro p0 p1 p2 M r h
    exact absurd (show (none : Option az_M) = some r from h) (fun q => by cases q)
  | succ D ih =>
    intro p0 p1 p2 M r h
    have h : f_X7_tryShots_b (az_z V) G (f_X7_tryShots (az_z V) G D) p0 p1 p2 M = some r := h
    exact c_X7_tryShots_b (dR := 5 + 1 * D) hL (Nat.le_add_right _ _) G (f_X7_tryShots (az_z V) G D) (fun p0 p1 p2 M r h => ih p0 p1 p2 M h) p0 p1 p2 M h
set_option maxHeartbeats 4000000 in
set_option maxRecDepth 100000 in
theorem s_X7_lookForMarks_e {Y : az_Y} {V : az_V} {post : Option Value → az_M → Prop} (C : az_C Y V cX7_lookForMarks 4 RX7 none 16) (G : Nat) (p0 : Int32) (p1 : Int32) (p2 : Int32) (M : az_M) (r : az_M) (h : f_X7_lookForMarks (az_z V) G p0 p1 p2 M = some r) (hp : post none r) : AW Y V (az_end Y V post) 4 M 0 [(0, .ref (az_ad V 34)), (1, .int p0), (2, .int p1), (3, .int p2)] [] := by
  have o34 := C.hL.at 34 (ci := 7) rfl
  have o35 := C.hL.at 35 (ci := 4) rfl
  have a36 := C.hL.ar 36 (t := 0) (len := 145) rfl
  unfold f_X7_lookForMarks at h
  refine az_aload_n C 0 dX7_lookForMarks_0 rfl ?_
  refine az_iconst (v := 0) C dX7_lookForMarks_1 (by decide) ?_
  refine az_puti C o34 fl_X7_28 rfl rfl rfl rfl dX7_lookForMarks_2 ?_
  refine az_aload_n C 0 dX7_lookForMarks_5 rfl ?_
  refine az_getr (r := 35) C o34 fl_X7_12 rfl rfl dX7_lookForMarks_6 ?_
  refine az_aload_n C 0 dX7_lookForMarks_9 rfl ?_
  refine az_getr (r := 1) C o34 fl_X7_32 rfl rfl dX7_lookForMarks_10 ?_
  obtain ⟨q1, e2, h⟩ := az_b h
  refine az_cV (rest := []) (st2 := []) C [.ref (az_ad V 1)] (c_X4_copy C.hL 35 (C.hL.pv 35 rfl) 1 (C.hL.pv 1 rfl) (az_i M 34 13 0) e2) (by decide) li_X7_39 o35 (by decide) rfl rfl (Nat.le_of_ble_eq_true rfl) dX7_lookForMarks_13 rfl ?_
  refine az_aload_n C 0 dX7_lookForMarks_16 rfl ?_
  refine az_getr (r := 35) C o34 fl_X7_12 rfl rfl dX7_lookForMarks_17 ?_
  refine az_getr (r := 36) C o35 fl_X7_60 rfl rfl dX7_lookForMarks_20 ?_
  refine az_bipush (v := 18) C dX7_lookForMarks_23 (by decide) ?_
  refine az_iconst (v := 1) C dX7_lookForMarks_25 (by decide) ?_
  refine az_ist (k := 18) C a36 (az_vin (by decide)) (by decide) dX7_lookForMarks_26 ?_
  refine az_aload_n C 0 dX7_lookForMarks_27 rfl ?_
  refine az_getr (r := 35) C o34 fl_X7_12 rfl rfl dX7_lookForMarks_28 ?_
  refine az_getr (r := 36) C o35 fl_X7_60 rfl rfl dX7_lookForMarks_31 ?_
  refine az_iconst (v := 3) C dX7_lookForMarks_34 (by decide) ?_
  refine az_iconst (v := 0) C dX7_lookForMarks_35 (by decide) ?_
  refine az_ist (k := 3) C a36 (az_vin (by decide)) (by decide) dX7_lookForMarks_36 ?_
  refine az_aload_n C 0 dX7_lookForMarks_37 rfl ?_
  refine az_iload_n C 2 dX7_lookForMarks_38 rfl ?_
  refine az_puti C o34 fl_X7_67 rfl rfl rfl rfl dX7_lookForMarks_39 ?_
  refine az_aload_n C 0 dX7_lookForMarks_42 rfl ?_
  refine az_iload_n C 3 dX7_lookForMarks_43 rfl ?_
  refine az_puti C o34 fl_X7_70 rfl rfl rfl rfl dX7_lookForMarks_44 ?_
  refine az_aload_n C 0 dX7_lookForMarks_47 rfl ?_
  refine az_iconst (v := 0) C dX7_lookForMarks_48 (by decide) ?_
  refine az_puti C o34 fl_X7_63 rfl rfl rfl rfl dX7_lookForMarks_49 ?_
  refine az_aload_n C 0 dX7_lookForMarks_52 rfl ?_
  refine az_iconst (v := (-1)) C dX7_lookForMarks_53 (by decide) ?_
  refine az_puti C o34 fl_X7_73 rfl rfl rfl rfl dX7_lookForMarks_54 ?_
  refine az_aload_n C 0 dX7_lookForMarks_57 rfl ?_
  refine az_iconst (v := 0) C dX7_lookForMarks_58 (by decide) ?_
  refine az_iload_n C 1 dX7_lookForMarks_59 rfl ?_
  refine az_iconst (v := 0) C dX7_lookForMarks_60 (by decide) ?_
  obtain ⟨q3, e4, h⟩ := az_b h
  refine az_cV (rest := []) (st2 := []) C [.int 0, .int p0, .int 0] (c_X7_tryShots C.hL G 10 0 p0 0 (az_i (az_i (az_i (az_i (az_i (az_i q1 36 18 1) 36 3 0) 34 11 p1) 34 12 p2) 34 0 0) 34 1 (-1)) e4) (by decide) li_X7_76 o34 (by decide) rfl rfl (Nat.le_of_ble_eq_true rfl) dX7_lookForMarks_61 rfl ?_
  obtain rfl := Option.some.inj h
  exact az_vret C rfl dX7_lookForMarks_64 hp
theorem c_X7_lookForMarks {l : Launch} {V : az_V} (hL : az_L V) (G : Nat) (p0 : Int32) (p1 : Int32) (p2 : Int32) (M : az_M) {r : az_M} (h : f_X7_lookForMarks (az_z V) G p0 p1 p2 M = some r) : az_Ct l V yX7_lookForMarks cX7_lookForMarks 4 none 16 [.ref (az_ad V 34), .int p0, .int p1, .int p2] M (fun v M' => v = none ∧ M' = r) :=
  az_Ct.of (by decide) (Nat.le_of_ble_eq_true rfl) (fun Y _ _ C => s_X7_lookForMarks_e C G p0 p1 p2 M r h ⟨rfl, rfl⟩)
