set_option maxHeartbeats 4000000 in
set_option maxRecDepth 100000 in
theorem s_X11_refuse_25 {Y : az_Y} {V : az_V} {post : Option Value → az_M → Prop} (C : az_C Y V cX11_refuse 2 RX11 (some .int) 1) (x1 : Int32) (s0 : Int32) (M : az_M) (r : (Int32 × az_M)) (h : f_X11_refuse_25 x1 s0 M = some r) (hp : post (some (.int r.1)) r.2) : AW Y V (az_end Y V post) 2 M 25 [(1, .int x1)] [.int s0, .ref (az_ad V 12)] := by
  have a12 := C.hL.ar 12 (t := 0) (len := 5) rfl
  unfold f_X11_refuse_25 at h
  refine az_dup2 C dX11_refuse_25 rfl rfl ?_
  obtain ⟨g2, h⟩ := az_g h
  refine az_ild (k := s0.toNatClampNeg) C a12 g2 rfl dX11_refuse_26 ?_
  refine az_iconst (v := 1) C dX11_refuse_27 (by decide) ?_
  refine az_iadd C dX11_refuse_28 ?_
  obtain ⟨g3, h⟩ := az_g h
  refine az_ist (k := s0.toNatClampNeg) C a12 g3 rfl dX11_refuse_29 ?_
  refine az_iload_n C 0 dX11_refuse_30 rfl ?_
  obtain rfl := Option.some.inj h
  exact az_iret C dX11_refuse_31 hp
set_option maxHeartbeats 4000000 in
set_option maxRecDepth 100000 in
theorem s_X11_refuse_e {Y : az_Y} {V : az_V} {post : Option Value → az_M → Prop} (C : az_C Y V cX11_refuse 2 RX11 (some .int) 1) (p0 : Int32) (M : az_M) (r : (Int32 × az_M)) (h : f_X11_refuse p0 M = some r) (hp : post (some (.int r.1)) r.2) : AW Y V (az_end Y V post) 2 M 0 [(0, .ref (az_ad V 0)), (1, .int p0)] [] := by
  have o0 := C.hL.at 0 (ci := 11) rfl
  unfold f_X11_refuse at h
  refine az_aload_n C 0 dX11_refuse_0 rfl ?_
  refine az_iload_n C 1 dX11_refuse_1 rfl ?_
  refine az_puti C o0 fl_X11_51 rfl rfl rfl rfl dX11_refuse_2 ?_
  refine az_aload_n C 0 dX11_refuse_5 rfl ?_
  refine az_getr (r := 12) C o0 fl_X11_47 rfl rfl dX11_refuse_6 ?_
  refine az_iload_n C 1 dX11_refuse_9 rfl ?_
  refine az_bipush (v := (-4)) C dX11_refuse_10 (by decide) ?_
  refine az_icmp_le C 21 dX11_refuse_12 (by decide) (fun c1 => ?_) (fun c1 => ?_)
  · have h := az_t c1 h
    refine az_bipush (v := (-2)) C dX11_refuse_21 (by decide) ?_
    refine az_iload_n C 1 dX11_refuse_23 rfl ?_
    refine az_isub C dX11_refuse_24 ?_
    refine az_sub [1] rfl ?_
    exact s_X11_refuse_25 C p0 ((-2) - p0) (az_i M 0 12 p0) r h hp
  · have h := az_f c1 h
    refine az_iconst (v := (-1)) C dX11_refuse_15 (by decide) ?_
    refine az_iload_n C 1 dX11_refuse_16 rfl ?_
    refine az_isub C dX11_refuse_17 ?_
    refine az_goto C 25 dX11_refuse_18 (by decide) ?_
    refine az_sub [1] rfl ?_
    exact s_X11_refuse_25 C p0 ((-1) - p0) (az_i M 0 12 p0) r h hp
theorem c_X11_refuse {l : Launch} {V : az_V} (hL : az_L V) (p0 : Int32) (M : az_M) {r : (Int32 × az_M)} (h : f_X11_refuse p0 M = some r) : az_Ct l V yX11_refuse cX11_refuse 2 (some .int) 1 [.ref (az_ad V 0), .int p0] M (fun v M' => v = some (.int r.1) ∧ M' = r.2) :=
  az_Ct.of (by decide) (Nat.le_of_ble_eq_true rfl) (fun Y _ _ C => s_X11_refuse_e C p0 M r h ⟨rfl, rfl⟩)
set_option maxHeartbeats 4000000 in
set_option maxRecDepth 100000 in
theorem s_X11_settle_e {Y : az_Y} {V : az_V} {post : Option Value → az_M → Prop} (C : az_C Y V cX11_settle 2 RX11 (some .int) 2) (p0 : Int32) (M : az_M) (r : (Int32 × az_M)) (h : f_X11_settle p0 M = some r) (hp : post (some (.int r.1)) r.2) : AW Y V (az_end Y V post) 2 M 0 [(0, .ref (az_ad V 0)), (1, .int p0)] [] := by
  have o0 := C.hL.at 0 (ci := 11) rfl
  have o34 := C.hL.at 34 (ci := 7) rfl
  unfold f_X11_settle at h
  refine az_aload_n C 0 dX11_settle_0 rfl ?_
  refine az_iconst (v := 0) C dX11_settle_1 (by decide) ?_
  refine az_puti C o0 fl_X11_51 rfl rfl rfl rfl dX11_settle_2 ?_
  refine az_aload_n C 0 dX11_settle_5 rfl ?_
  refine az_getr (r := 34) C o0 fl_X11_109 rfl rfl dX11_settle_6 ?_
  obtain ⟨q1, e2, h⟩ := az_b h
  refine az_cV (rest := []) (st2 := []) C [] (c_X7_forget C.hL (az_i M 0 12 0) e2) (by decide) li_X11_316 o34 (by decide) rfl rfl (Nat.le_of_ble_eq_true rfl) dX11_settle_9 rfl ?_
  refine az_iload_n C 1 dX11_settle_12 rfl ?_
  obtain rfl := Option.some.inj h
  exact az_iret C dX11_settle_13 hp
theorem c_X11_settle {l : Launch} {V : az_V} (hL : az_L V) (p0 : Int32) (M : az_M) {r : (Int32 × az_M)} (h : f_X11_settle p0 M = some r) : az_Ct l V yX11_settle cX11_settle 2 (some .int) 2 [.ref (az_ad V 0), .int p0] M (fun v M' => v = some (.int r.1) ∧ M' = r.2) :=
  az_Ct.of (by decide) (Nat.le_of_ble_eq_true rfl) (fun Y _ _ C => s_X11_settle_e C p0 M r h ⟨rfl, rfl⟩)
set_option maxHeartbeats 4000000 in
set_option maxRecDepth 100000 in
theorem s_X11_settleAnew_e {Y : az_Y} {V : az_V} {post : Option Value → az_M → Prop} (C : az_C Y V cX11_settleAnew 2 RX11 (some .int) 3) (p0 : Int32) (M : az_M) (r : (Int32 × az_M)) (h : f_X11_settleAnew p0 M = some r) (hp : post (some (.int r.1)) r.2) : AW Y V (az_end Y V post) 2 M 0 [(0, .ref (az_ad V 0)), (1, .int p0)] [] := by
  have o0 := C.hL.at 0 (ci := 11) rfl
  have o7 := C.hL.at 7 (ci := 3) rfl
  unfold f_X11_settleAnew at h
  refine az_aload_n C 0 dX11_settleAnew_0 rfl ?_
  refine az_getr (r := 7) C o0 fl_X11_35 rfl rfl dX11_settleAnew_1 ?_
  obtain ⟨q1, e2, h⟩ := az_b h
  refine az_cV (rest := []) (st2 := []) C [] (c_X3_clear C.hL 7 (C.hL.pa 7 rfl) M e2) (by decide) li_X11_319 o7 (by decide) rfl rfl (Nat.le_of_ble_eq_true rfl) dX11_settleAnew_4 rfl ?_
  refine az_aload_n C 0 dX11_settleAnew_7 rfl ?_
  refine az_iload_n C 1 dX11_settleAnew_8 rfl ?_
  obtain ⟨q3, e4, h⟩ := az_b h
  refine az_cV (rest := []) (st2 := [.int q3.1]) C [.int p0] (c_X11_settle C.hL p0 q1 e4) (by decide) li_X11_209 o0 (by decide) rfl rfl (Nat.le_of_ble_eq_true rfl) dX11_settleAnew_9 rfl ?_
  obtain rfl := Option.some.inj h
  exact az_iret C dX11_settleAnew_12 hp
theorem c_X11_settleAnew {l : Launch} {V : az_V} (hL : az_L V) (p0 : Int32) (M : az_M) {r : (Int32 × az_M)} (h : f_X11_settleAnew p0 M = some r) : az_Ct l V yX11_settleAnew cX11_settleAnew 2 (some .int) 3 [.ref (az_ad V 0), .int p0] M (fun v M' => v = some (.int r.1) ∧ M' = r.2) :=
  az_Ct.of (by decide) (Nat.le_of_ble_eq_true rfl) (fun Y _ _ C => s_X11_settleAnew_e C p0 M r h ⟨rfl, rfl⟩)
set_option maxHeartbeats 4000000 in
set_option maxRecDepth 100000 in
theorem s_X11_put_25 {Y : az_Y} {V : az_V} {post : Option Value → az_M → Prop} (C : az_C Y V cX11_put 4 RX11 (some .int) 4)  (M : az_M) (r : (Int32 × az_M)) (h : f_X11_put_25 M = some r) (hp : post (some (.int r.1)) r.2) : AW Y V (az_end Y V post) 4 M 25 [(0, .ref (az_ad V 0))] [] := by
  have o0 := C.hL.at 0 (ci := 11) rfl
  unfold f_X11_put_25 at h
  refine az_aload_n C 0 dX11_put_25 rfl ?_
  refine az_iconst (v := (-1)) C dX11_put_26 (by decide) ?_
  obtain ⟨q10, e11, h⟩ := az_b h
  refine az_cV (rest := []) (st2 := [.int q10.1]) C [.int (-1)] (c_X11_refuse C.hL (-1) M e11) (by decide) li_X11_116 o0 (by decide) rfl rfl (Nat.le_of_ble_eq_true rfl) dX11_put_27 rfl ?_
  obtain rfl := Option.some.inj h
  exact az_iret C dX11_put_30 hp
set_option maxHeartbeats 4000000 in
set_option maxRecDepth 100000 in
theorem s_X11_put_e {Y : az_Y} {V : az_V} {post : Option Value → az_M → Prop} (C : az_C Y V cX11_put 4 RX11 (some .int) 4) (p0 : Int32) (p1 : Int32) (M : az_M) (r : (Int32 × az_M)) (h : f_X11_put p0 p1 M = some r) (hp : post (some (.int r.1)) r.2) : AW Y V (az_end Y V post) 4 M 0 [(0, .ref (az_ad V 0)), (1, .int p0), (2, .int p1)] [] := by
  have o0 := C.hL.at 0 (ci := 11) rfl
  have o1 := C.hL.at 1 (ci := 4) rfl
  have a2 := C.hL.ar 2 (t := 0) (len := 145) rfl
  unfold f_X11_put at h
  refine az_iload_n C 1 dX11_put_0 rfl ?_
  refine az_if_lt C 25 dX11_put_1 (by decide) (fun c1 => ?_) (fun c1 => ?_)
  · have h := az_t c1 h
    refine az_sub [0] rfl ?_
    exact s_X11_put_25 C M r h hp
  · have h := az_f c1 h
    refine az_iload_n C 1 dX11_put_4 rfl ?_
    refine az_gst (i := 0) C (by decide) gs_X11_113 dX11_put_5 ?_
    refine az_gln (v := 3) C (by decide) (by decide) dX11_put_8 ?_
    refine az_icmp_ge C 25 dX11_put_9 (by decide) (fun c2 => ?_) (fun c2 => ?_)
    · have h := az_t c2 h
      refine az_sub [0] rfl ?_
      exact s_X11_put_25 C M r h hp
    · have h := az_f c2 h
      refine az_iload_n C 2 dX11_put_12 rfl ?_
      refine az_if_lt C 25 dX11_put_13 (by decide) (fun c3 => ?_) (fun c3 => ?_)
      · have h := az_t c3 h
        refine az_sub [0] rfl ?_
        exact s_X11_put_25 C M r h hp
      · have h := az_f c3 h
        refine az_iload_n C 2 dX11_put_16 rfl ?_
        refine az_gst (i := 0) C (by decide) gs_X11_113 dX11_put_17 ?_
        refine az_iload_n C 1 dX11_put_20 rfl ?_
        obtain ⟨g4, h⟩ := az_g h
        refine az_gld (k := p0.toNatClampNeg) (len := 3) C (by decide) (by decide) g4 rfl dX11_put_21 ?_
        refine az_icmp_le C 31 dX11_put_22 (by decide) (fun c5 => ?_) (fun c5 => ?_)
        · have h := az_t c5 h
          refine az_aload_n C 0 dX11_put_31 rfl ?_
          refine az_getr (r := 1) C o0 fl_X11_14 rfl rfl dX11_put_32 ?_
          refine az_getr (r := 2) C o1 fl_X11_120 rfl rfl dX11_put_35 ?_
          refine az_iconst (v := 0) C dX11_put_38 (by decide) ?_
          refine az_iload_n C 1 dX11_put_39 rfl ?_
          refine az_iadd C dX11_put_40 ?_
          obtain ⟨g6, h⟩ := az_g h
          refine az_ild (k := (0 + p0).toNatClampNeg) C a2 g6 rfl dX11_put_41 ?_
          refine az_istore_n C dX11_put_42 rfl (by decide) rfl ?_
          refine az_aload_n C 1 dX11_put_43 rfl ?_
          refine az_getr (r := 1) C o0 fl_X11_14 rfl rfl dX11_put_44 ?_
          refine az_getr (r := 2) C o1 fl_X11_120 rfl rfl dX11_put_47 ?_
          refine az_iconst (v := 0) C dX11_put_50 (by decide) ?_
          refine az_iload_n C 2 dX11_put_51 rfl ?_
          refine az_iadd C dX11_put_52 ?_
          refine az_iload_n C 3 dX11_put_53 rfl ?_
          obtain ⟨g7, h⟩ := az_g h
          refine az_ist (k := (0 + p0).toNatClampNeg) C a2 g7 rfl dX11_put_54 ?_
          refine az_aload_n C 1 dX11_put_55 rfl ?_
          refine az_iload_n C 0 dX11_put_56 rfl ?_
          obtain ⟨q8, e9, h⟩ := az_b h
          refine az_cV (rest := []) (st2 := [.int q8.1]) C [.int (M.1 2 ((0 + p0).toNatClampNeg))] (c_X11_settleAnew C.hL (M.1 2 ((0 + p0).toNatClampNeg)) (az_i M 2 ((0 + p0).toNatClampNeg) p1) e9) (by decide) li_X11_123 o0 (by decide) rfl rfl (Nat.le_of_ble_eq_true rfl) dX11_put_57 rfl ?_
          obtain rfl := Option.some.inj h
          exact az_iret C dX11_put_60 hp
        · have h := az_f c5 h
          refine az_sub [0] rfl ?_
          exact s_X11_put_25 C M r h hp
theorem c_X11_put {l : Launch} {V : az_V} (hL : az_L V) (p0 : Int32) (p1 : Int32) (M : az_M) {r : (Int32 × az_M)} (h : f_X11_put p0 p1 M = some r) : az_Ct l V yX11_put cX11_put 4 (some .int) 4 [.ref (az_ad V 0), .int p0, .int p1] M (fun v M' => v = some (.int r.1) ∧ M' = r.2) :=
  az_Ct.of (by decide) (Nat.le_of_ble_eq_true rfl) (fun Y _ _ C => s_X11_put_e C p0 p1 M r h ⟨rfl, rfl⟩)
set_option maxHeartbeats 4000000 in
set_option maxRecDepth 100000 in
theorem s_X11_bullet_20 {Y : az_Y} {V : az_V} {post : Option Value → az_M → Prop} (C : az_C Y V cX11_bullet 2 RX11 (some .int) 2) (s0 : Int32) (M : az_M) (r : Int32) (h : f_X11_bullet_20 s0 M = some r) (hp : post (some (.int r)) M) : AW Y V (az_end Y V post) 2 M 20 [] [.int s0] := by
  unfold f_X11_bullet_20 at h
  obtain rfl := Option.some.inj h
  exact az_iret C dX11_bullet_20 hp
set_option maxHeartbeats 4000000 in
set_option maxRecDepth 100000 in
theorem s_X11_bullet_70 {Y : az_Y} {V : az_V} {post : Option Value → az_M → Prop} (C : az_C Y V cX11_bullet 2 RX11 (some .int) 2) (s0 : Int32) (M : az_M) (r : Int32) (h : f_X11_bullet_70 s0 M = some r) (hp : post (some (.int r)) M) : AW Y V (az_end Y V post) 2 M 70 [] [.int s0] := by
  unfold f_X11_bullet_70 at h
  obtain rfl := Option.some.inj h
  exact az_iret C dX11_bullet_70 hp
set_option maxHeartbeats 4000000 in
set_option maxRecDepth 100000 in
theorem s_X11_bullet_69 {Y : az_Y} {V : az_V} {post : Option Value → az_M → Prop} (C : az_C Y V cX11_bullet 2 RX11 (some .int) 2)  (M : az_M) (r : Int32) (h : f_X11_bullet_69 M = some r) (hp : post (some (.int r)) M) : AW Y V (az_end Y V post) 2 M 69 [] [] := by
  unfold f_X11_bullet_69 at h
  refine az_iconst (v := (-1)) C dX11_bullet_69 (by decide) ?_
  exact s_X11_bullet_70 C (-1) M r h hp
set_option maxHeartbeats 4000000 in
set_option maxRecDepth 100000 in
theorem s_X11_bullet_e {Y : az_Y} {V : az_V} {post : Option Value → az_M → Prop} (C : az_C Y V cX11_bullet 2 RX11 (some .int) 2) (p0 : Int32) (M : az_M) (r : Int32) (h : f_X11_bullet p0 M = some r) (hp : post (some (.int r)) M) : AW Y V (az_end Y V post) 2 M 0 [(0, .ref (az_ad V 0)), (1, .int p0)] [] := by
  have o0 := C.hL.at 0 (ci := 11) rfl
  have o1 := C.hL.at 1 (ci := 4) rfl
  have a2 := C.hL.ar 2 (t := 0) (len := 145) rfl
  unfold f_X11_bullet at h
  refine az_iload_n C 1 dX11_bullet_0 rfl ?_
  refine az_iconst (v := 4) C dX11_bullet_1 (by decide) ?_
  refine az_icmp_ne C 21 dX11_bullet_2 (by decide) (fun c1 => ?_) (fun c1 => ?_)
  · have h := az_f c1 h
    refine az_iload_n C 1 dX11_bullet_21 rfl ?_
    refine az_iconst (v := 5) C dX11_bullet_22 (by decide) ?_
    refine az_icmp_ne C 46 dX11_bullet_23 (by decide) (fun c2 => ?_) (fun c2 => ?_)
    · have h := az_f c2 h
      refine az_iload_n C 1 dX11_bullet_46 rfl ?_
      refine az_if_lt C 69 dX11_bullet_47 (by decide) (fun c3 => ?_) (fun c3 => ?_)
      · have h := az_t c3 h
        refine az_sub [] rfl ?_
        exact s_X11_bullet_69 C M r h hp
      · have h := az_f c3 h
        refine az_iload_n C 1 dX11_bullet_50 rfl ?_
        refine az_iconst (v := 3) C dX11_bullet_51 (by decide) ?_
        refine az_icmp_gt C 69 dX11_bullet_52 (by decide) (fun c4 => ?_) (fun c4 => ?_)
        · have h := az_t c4 h
          refine az_sub [] rfl ?_
          exact s_X11_bullet_69 C M r h hp
        · have h := az_f c4 h
          refine az_aload_n C 0 dX11_bullet_55 rfl ?_
          refine az_getr (r := 1) C o0 fl_X11_14 rfl rfl dX11_bullet_56 ?_
          refine az_getr (r := 2) C o1 fl_X11_120 rfl rfl dX11_bullet_59 ?_
          refine az_iconst (v := 0) C dX11_bullet_62 (by decide) ?_
          refine az_iload_n C 1 dX11_bullet_63 rfl ?_
          refine az_iadd C dX11_bullet_64 ?_
          obtain ⟨g5, h⟩ := az_g h
          refine az_ild (k := (0 + p0).toNatClampNeg) C a2 g5 rfl dX11_bullet_65 ?_
          refine az_goto C 70 dX11_bullet_66 (by decide) ?_
          refine az_sub [] rfl ?_
          exact s_X11_bullet_70 C (M.1 2 ((0 + p0).toNatClampNeg)) M r h hp
    · have h := az_t c2 h
      refine az_aload_n C 0 dX11_bullet_26 rfl ?_
      refine az_getr (r := 1) C o0 fl_X11_14 rfl rfl dX11_bullet_27 ?_
      refine az_aload_n C 0 dX11_bullet_30 rfl ?_
      refine az_getr (r := 1) C o0 fl_X11_14 rfl rfl dX11_bullet_31 ?_
      refine az_getr (r := 2) C o1 fl_X11_120 rfl rfl dX11_bullet_34 ?_
      refine az_bipush (v := 26) C dX11_bullet_37 (by decide) ?_
      refine az_ild (k := 26) C a2 (az_vin (by decide)) (by decide) dX11_bullet_39 ?_
      refine az_iconst (v := 1) C dX11_bullet_40 (by decide) ?_
      refine az_isub C dX11_bullet_41 ?_
      obtain ⟨q6, e7, h⟩ := az_b h
      refine az_cV (rest := []) (st2 := [.int q6]) C [.int ((M.1 2 26) - 1)] (c_X4_shotAt C.hL 1 (C.hL.pv 1 rfl) ((M.1 2 26) - 1) M e7) (by decide) li_X11_130 o1 (by decide) rfl rfl (Nat.le_of_ble_eq_true rfl) dX11_bullet_42 rfl ?_
      obtain rfl := Option.some.inj h
      exact az_iret C dX11_bullet_45 hp
  · have h := az_t c1 h
    refine az_aload_n C 0 dX11_bullet_5 rfl ?_
    refine az_getr (r := 1) C o0 fl_X11_14 rfl rfl dX11_bullet_6 ?_
    obtain ⟨q8, e9, h⟩ := az_b h
    refine az_cV (rest := []) (st2 := [.int q8]) C [] (c_X4_canBeFired C.hL 1 (C.hL.pv 1 rfl) M e9) (by decide) li_X11_126 o1 (by decide) rfl rfl (Nat.le_of_ble_eq_true rfl) dX11_bullet_9 rfl ?_
    refine az_if_eq C 19 dX11_bullet_12 (by decide) (fun c10 => ?_) (fun c10 => ?_)
    · have h := az_t c10 h
      refine az_iconst (v := 0) C dX11_bullet_19 (by decide) ?_
      refine az_sub [] rfl ?_
      exact s_X11_bullet_20 C 0 M r h hp
    · have h := az_f c10 h
      refine az_iconst (v := 1) C dX11_bullet_15 (by decide) ?_
      refine az_goto C 20 dX11_bullet_16 (by decide) ?_
      refine az_sub [] rfl ?_
      exact s_X11_bullet_20 C 1 M r h hp
theorem c_X11_bullet {l : Launch} {V : az_V} (hL : az_L V) (p0 : Int32) (M : az_M) {r : Int32} (h : f_X11_bullet p0 M = some r) : az_Ct l V yX11_bullet cX11_bullet 2 (some .int) 2 [.ref (az_ad V 0), .int p0] M (fun v M' => v = some (.int r) ∧ M' = M) :=
  az_Ct.of (by decide) (Nat.le_of_ble_eq_true rfl) (fun Y _ _ C => s_X11_bullet_e C p0 M r h ⟨rfl, rfl⟩)
set_option maxHeartbeats 4000000 in
set_option maxRecDepth 100000 in
theorem s_X11_isPlace_34 {Y : az_Y} {V : az_V} {post : Option Value → az_M → Prop} (C : az_C Y V cX11_isPlace 3 RX11 (some .boolean) 1) (s0 : Int32) (M : az_M) (r : Int32) (h : f_X11_isPlace_34 s0 M = some r) (hp : post (some (.int r)) M) : AW Y V (az_end Y V post) 3 M 34 [] [.int s0] := by
  unfold f_X11_isPlace_34 at h
  obtain ⟨g7, h⟩ := az_g2 h
  obtain rfl := Option.some.inj h
  exact az_zret C dX11_isPlace_34 (az_nz g7) hp
set_option maxHeartbeats 4000000 in
set_option maxRecDepth 100000 in
theorem s_X11_isPlace_33 {Y : az_Y} {V : az_V} {post : Option Value → az_M → Prop} (C : az_C Y V cX11_isPlace 3 RX11 (some .boolean) 1)  (M : az_M) (r : Int32) (h : f_X11_isPlace_33 M = some r) (hp : post (some (.int r)) M) : AW Y V (az_end Y V post) 3 M 33 [] [] := by
  unfold f_X11_isPlace_33 at h
  refine az_iconst (v := 0) C dX11_isPlace_33 (by decide) ?_
  exact s_X11_isPlace_34 C 0 M r h hp
set_option maxHeartbeats 4000000 in
set_option maxRecDepth 100000 in
theorem s_X11_isPlace_e {Y : az_Y} {V : az_V} {post : Option Value → az_M → Prop} (C : az_C Y V cX11_isPlace 3 RX11 (some .boolean) 1) (p0 : Int32) (p1 : Int32) (p2 : Int32) (M : az_M) (r : Int32) (h : f_X11_isPlace p0 p1 p2 M = some r) (hp : post (some (.int r)) M) : AW Y V (az_end Y V post) 3 M 0 [(0, .int p0), (1, .int p1), (2, .int p2)] [] := by
  unfold f_X11_isPlace at h
  refine az_iload_n C 0 dX11_isPlace_0 rfl ?_
  refine az_if_lt C 33 dX11_isPlace_1 (by decide) (fun c1 => ?_) (fun c1 => ?_)
  · have h := az_t c1 h
    refine az_sub [] rfl ?_
    exact s_X11_isPlace_33 C M r h hp
  · have h := az_f c1 h
    refine az_iload_n C 0 dX11_isPlace_4 rfl ?_
    refine az_iconst (v := 3) C dX11_isPlace_5 (by decide) ?_
    refine az_icmp_gt C 33 dX11_isPlace_6 (by decide) (fun c2 => ?_) (fun c2 => ?_)
    · have h := az_t c2 h
      refine az_sub [] rfl ?_
      exact s_X11_isPlace_33 C M r h hp
    · have h := az_f c2 h
      refine az_iload_n C 1 dX11_isPlace_9 rfl ?_
      refine az_if_lt C 33 dX11_isPlace_10 (by decide) (fun c3 => ?_) (fun c3 => ?_)
      · have h := az_t c3 h
        refine az_sub [] rfl ?_
        exact s_X11_isPlace_33 C M r h hp
      · have h := az_f c3 h
        refine az_iload_n C 1 dX11_isPlace_13 rfl ?_
        refine az_bipush (v := 99) C dX11_isPlace_14 (by decide) ?_
        refine az_icmp_gt C 33 dX11_isPlace_16 (by decide) (fun c4 => ?_) (fun c4 => ?_)
        · have h := az_t c4 h
          refine az_sub [] rfl ?_
          exact s_X11_isPlace_33 C M r h hp
        · have h := az_f c4 h
          refine az_iload_n C 2 dX11_isPlace_19 rfl ?_
          refine az_if_lt C 33 dX11_isPlace_20 (by decide) (fun c5 => ?_) (fun c5 => ?_)
          · have h := az_t c5 h
            refine az_sub [] rfl ?_
            exact s_X11_isPlace_33 C M r h hp
          · have h := az_f c5 h
            refine az_iload_n C 2 dX11_isPlace_23 rfl ?_
            refine az_bipush (v := 20) C dX11_isPlace_24 (by decide) ?_
            refine az_icmp_gt C 33 dX11_isPlace_26 (by decide) (fun c6 => ?_) (fun c6 => ?_)
            · have h := az_t c6 h
              refine az_sub [] rfl ?_
              exact s_X11_isPlace_33 C M r h hp
            · have h := az_f c6 h
              refine az_iconst (v := 1) C dX11_isPlace_29 (by decide) ?_
              refine az_goto C 34 dX11_isPlace_30 (by decide) ?_
              refine az_sub [] rfl ?_
              exact s_X11_isPlace_34 C 1 M r h hp
theorem c_X11_isPlace {l : Launch} {V : az_V} (hL : az_L V) (p0 : Int32) (p1 : Int32) (p2 : Int32) (M : az_M) {r : Int32} (h : f_X11_isPlace p0 p1 p2 M = some r) : az_Ct l V yX11_isPlace cX11_isPlace 3 (some .boolean) 1 [.int p0, .int p1, .int p2] M (fun v M' => v = some (.int r) ∧ M' = M) :=
  az_Ct.of (by decide) (Nat.le_of_ble_eq_true rfl) (fun Y _ _ C => s_X11_isPlace_e C p0 p1 p2 M r h ⟨rfl, rfl⟩)
set_option maxHeartbeats 4000000 in
set_option maxRecDepth 100000 in
theorem s_X11_place_e {Y : az_Y} {V : az_V} {post : Option Value → az_M → Prop} (C : az_C Y V cX11_place 4 RX11 (some .int) 4) (p0 : Int32) (p1 : Int32) (p2 : Int32) (M : az_M) (r : (Int32 × az_M)) (h : f_X11_place p0 p1 p2 M = some r) (hp : post (some (.int r.1)) r.2) : AW Y V (az_end Y V post) 4 M 0 [(0, .ref (az_ad V 0)), (1, .int p0), (2, .int p1), (3, .int p2)] [] := by
  have o0 := C.hL.at 0 (ci := 11) rfl
  have o1 := C.hL.at 1 (ci := 4) rfl
  have a2 := C.hL.ar 2 (t := 0) (len := 145) rfl
  unfold f_X11_place at h
  refine az_iload_n C 1 dX11_place_0 rfl ?_
  refine az_iload_n C 2 dX11_place_1 rfl ?_
  refine az_iload_n C 3 dX11_place_2 rfl ?_
  obtain ⟨q1, e2, h⟩ := az_b h
  refine az_cS (rest := []) (st2 := [.int q1]) C [.int p0, .int p1, .int p2] (c_X11_isPlace C.hL p0 p1 p2 M e2) (by decide) li_X11_133 rfl rfl (Nat.le_of_ble_eq_true rfl) dX11_place_3 rfl ?_
  refine az_if_ne C 15 dX11_place_6 (by decide) (fun c3 => ?_) (fun c3 => ?_)
  · have h := az_f c3 h
    refine az_aload_n C 0 dX11_place_15 rfl ?_
    refine az_getr (r := 1) C o0 fl_X11_14 rfl rfl dX11_place_16 ?_
    refine az_getr (r := 2) C o1 fl_X11_120 rfl rfl dX11_place_19 ?_
    refine az_bipush (v := 23) C dX11_place_22 (by decide) ?_
    refine az_ild (k := 23) C a2 (az_vin (by decide)) (by decide) dX11_place_24 ?_
    refine az_bipush (v := 12) C dX11_place_25 (by decide) ?_
    refine az_icmp_lt C 37 dX11_place_27 (by decide) (fun c4 => ?_) (fun c4 => ?_)
    · have h := az_t c4 h
      refine az_aload_n C 0 dX11_place_37 rfl ?_
      refine az_aload_n C 0 dX11_place_38 rfl ?_
      refine az_getr (r := 1) C o0 fl_X11_14 rfl rfl dX11_place_39 ?_
      refine az_iload_n C 1 dX11_place_42 rfl ?_
      refine az_iload_n C 2 dX11_place_43 rfl ?_
      refine az_iload_n C 3 dX11_place_44 rfl ?_
      obtain ⟨q5, e6, h⟩ := az_b h
      refine az_cV (rest := [.ref (az_ad V 0)]) (st2 := [.int q5.1, .ref (az_ad V 0)]) C [.int p0, .int p1, .int p2] (c_X4_addPlace C.hL 1 (C.hL.pv 1 rfl) p0 p1 p2 M e6) (by decide) li_X11_137 o1 (by decide) rfl rfl (Nat.le_of_ble_eq_true rfl) dX11_place_45 rfl ?_
      obtain ⟨q7, e8, h⟩ := az_b h
      refine az_cV (rest := []) (st2 := [.int q7.1]) C [.int q5.1] (c_X11_settleAnew C.hL q5.1 q5.2 e8) (by decide) li_X11_123 o0 (by decide) rfl rfl (Nat.le_of_ble_eq_true rfl) dX11_place_48 rfl ?_
      obtain rfl := Option.some.inj h
      exact az_iret C dX11_place_51 hp
    · have h := az_f c4 h
      refine az_aload_n C 0 dX11_place_30 rfl ?_
      refine az_bipush (v := (-5)) C dX11_place_31 (by decide) ?_
      obtain ⟨q9, e10, h⟩ := az_b h
      refine az_cV (rest := []) (st2 := [.int q9.1]) C [.int (-5)] (c_X11_refuse C.hL (-5) M e10) (by decide) li_X11_116 o0 (by decide) rfl rfl (Nat.le_of_ble_eq_true rfl) dX11_place_33 rfl ?_
      obtain rfl := Option.some.inj h
      exact az_iret C dX11_place_36 hp
  · have h := az_t c3 h
    refine az_aload_n C 0 dX11_place_9 rfl ?_
    refine az_iconst (v := (-1)) C dX11_place_10 (by decide) ?_
    obtain ⟨q11, e12, h⟩ := az_b h
    refine az_cV (rest := []) (st2 := [.int q11.1]) C [.int (-1)] (c_X11_refuse C.hL (-1) M e12) (by decide) li_X11_116 o0 (by decide) rfl rfl (Nat.le_of_ble_eq_true rfl) dX11_place_11 rfl ?_
    obtain rfl := Option.some.inj h
    exact az_iret C dX11_place_14 hp
theorem c_X11_place {l : Launch} {V : az_V} (hL : az_L V) (p0 : Int32) (p1 : Int32) (p2 : Int32) (M : az_M) {r : (Int32 × az_M)} (h : f_X11_place p0 p1 p2 M = some r) : az_Ct l V yX11_place cX11_place 4 (some .int) 4 [.ref (az_ad V 0), .int p0, .int p1, .int p2] M (fun v M' => v = some (.int r.1) ∧ M' = r.2) :=
  az_Ct.of (by decide) (Nat.le_of_ble_eq_true rfl) (fun Y _ _ C => s_X11_place_e C p0 p1 p2 M r h ⟨rfl, rfl⟩)
set_option maxHeartbeats 4000000 in
set_option maxRecDepth 100000 in
theorem s_X11_at_e {Y : az_Y} {V : az_V} {post : Option Value → az_M → Prop} (C : az_C Y V cX11_at 3 RX11 (some .int) 4) (G : Nat) (p0 : Int32) (p1 : Int32) (M : az_M) (r : (Int32 × az_M)) (h : f_X11_at (az_z V) G p0 p1 M = some r) (hp : post (some (.int r.1)) r.2) : AW Y V (az_end Y V post) 3 M 0 [(0, .ref (az_ad V 0)), (1, .int p0), (2, .int p1)] [] := by
  have o0 := C.hL.at 0 (ci := 11) rfl
  have o1 := C.hL.at 1 (ci := 4) rfl
  have o19 := C.hL.at 19 (ci := 8) rfl
  have a2 := C.hL.ar 2 (t := 0) (len := 145) rfl
  unfold f_X11_at at h
  refine az_aload_n C 0 dX11_at_0 rfl ?_
  refine az_getr (r := 1) C o0 fl_X11_14 rfl rfl dX11_at_1 ?_
  refine az_iload_n C 1 dX11_at_4 rfl ?_
  obtain ⟨q1, e2, h⟩ := az_b h
  refine az_cV (rest := []) (st2 := [.int q1]) C [.int p0] (c_X4_hasPlace C.hL 1 (C.hL.pv 1 rfl) p0 M e2) (by decide) li_X11_141 o1 (by decide) rfl rfl (Nat.le_of_ble_eq_true rfl) dX11_at_5 rfl ?_
  refine az_if_ne C 13 dX11_at_8 (by decide) (fun c3 => ?_) (fun c3 => ?_)
  · have h := az_f c3 h
    refine az_iload_n C 2 dX11_at_13 rfl ?_
    by_cases c4 : p1 = 0
    · have h := az_t c4 h
      refine az_tabIn (off := 42) C 56 dX11_at_14 (by rw [c4]; decide) (by rw [c4]; decide) (by rw [c4]; decide) (by decide) ?_
      refine az_aload_n C 0 dX11_at_56 rfl ?_
      refine az_getr (r := 1) C o0 fl_X11_14 rfl rfl dX11_at_57 ?_
      refine az_getr (r := 2) C o1 fl_X11_120 rfl rfl dX11_at_60 ?_
      refine az_bipush (v := 27) C dX11_at_63 (by decide) ?_
      refine az_iload_n C 1 dX11_at_65 rfl ?_
      refine az_iadd C dX11_at_66 ?_
      obtain ⟨g5, h⟩ := az_g h
      refine az_ild (k := (27 + p0).toNatClampNeg) C a2 g5 rfl dX11_at_67 ?_
      obtain rfl := Option.some.inj h
      exact az_iret C dX11_at_68 hp
    have h := az_f c4 h
    have nc4 := lv_neT c4 (a := 0) (by decide)
    by_cases c6 : p1 = 1
    · have h := az_t c6 h
      refine az_tabIn (off := 55) C 69 dX11_at_14 (by rw [c6]; decide) (by rw [c6]; decide) (by rw [c6]; decide) (by decide) ?_
      refine az_aload_n C 0 dX11_at_69 rfl ?_
      refine az_getr (r := 1) C o0 fl_X11_14 rfl rfl dX11_at_70 ?_
      refine az_getr (r := 2) C o1 fl_X11_120 rfl rfl dX11_at_73 ?_
      refine az_bipush (v := 39) C dX11_at_76 (by decide) ?_
      refine az_iload_n C 1 dX11_at_78 rfl ?_
      refine az_iadd C dX11_at_79 ?_
      obtain ⟨g7, h⟩ := az_g h
      refine az_ild (k := (39 + p0).toNatClampNeg) C a2 g7 rfl dX11_at_80 ?_
      obtain rfl := Option.some.inj h
      exact az_iret C dX11_at_81 hp
    have h := az_f c6 h
    have nc6 := lv_neT c6 (a := 1) (by decide)
    by_cases c8 : p1 = 2
    · have h := az_t c8 h
      refine az_tabIn (off := 68) C 82 dX11_at_14 (by rw [c8]; decide) (by rw [c8]; decide) (by rw [c8]; decide) (by decide) ?_
      refine az_aload_n C 0 dX11_at_82 rfl ?_
      refine az_getr (r := 1) C o0 fl_X11_14 rfl rfl dX11_at_83 ?_
      refine az_getr (r := 2) C o1 fl_X11_120 rfl rfl dX11_at_86 ?_
      refine az_bipush (v := 51) C dX11_at_89 (by decide) ?_
      refine az_iload_n C 1 dX11_at_91 rfl ?_
      refine az_iadd C dX11_at_92 ?_
      obtain ⟨g9, h⟩ := az_g h
      refine az_ild (k := (51 + p0).toNatClampNeg) C a2 g9 rfl dX11_at_93 ?_
      obtain rfl := Option.some.inj h
      exact az_iret C dX11_at_94 hp
    have h := az_f c8 h
    have nc8 := lv_neT c8 (a := 2) (by decide)
    by_cases c10 : p1 = 3
    · have h := az_t c10 h
      refine az_tabIn (off := 81) C 95 dX11_at_14 (by rw [c10]; decide) (by rw [c10]; decide) (by rw [c10]; decide) (by decide) ?_
      refine az_aload_n C 0 dX11_at_95 rfl ?_
      refine az_getr (r := 1) C o0 fl_X11_14 rfl rfl dX11_at_96 ?_
      refine az_getr (r := 2) C o1 fl_X11_120 rfl rfl dX11_at_99 ?_
      refine az_iconst (v := 4) C dX11_at_102 (by decide) ?_
      refine az_iload_n C 1 dX11_at_103 rfl ?_
      refine az_iadd C dX11_at_104 ?_
      obtain ⟨g11, h⟩ := az_g h
      refine az_ild (k := (4 + p0).toNatClampNeg) C a2 g11 rfl dX11_at_105 ?_
      obtain rfl := Option.some.inj h
      exact az_iret C dX11_at_106 hp
    have h := az_f c10 h
    have nc10 := lv_neT c10 (a := 3) (by decide)
    by_cases c12 : p1 = 4
    · have h := az_t c12 h
      refine az_tabIn (off := 93) C 107 dX11_at_14 (by rw [c12]; decide) (by rw [c12]; decide) (by rw [c12]; decide) (by decide) ?_
      refine az_aload_n C 0 dX11_at_107 rfl ?_
      refine az_getr (r := 19) C o0 fl_X11_84 rfl rfl dX11_at_108 ?_
      refine az_aload_n C 0 dX11_at_111 rfl ?_
      refine az_getr (r := 1) C o0 fl_X11_14 rfl rfl dX11_at_112 ?_
      refine az_iconst (v := 1) C dX11_at_115 (by decide) ?_
      refine az_iconst (v := (-1)) C dX11_at_116 (by decide) ?_
      refine az_iload_n C 1 dX11_at_117 rfl ?_
      obtain ⟨q13, e14, h⟩ := az_b h
      refine az_cV (rest := []) (st2 := [.int q13.1]) C [.ref (az_ad V 1), .int 1, .int (-1), .int p0] (c_X8_ask C.hL G 1 (C.hL.pv 1 rfl) 1 (-1) p0 M e14) (by decide) li_X11_145 o19 (by decide) rfl rfl (Nat.le_of_ble_eq_true rfl) dX11_at_118 rfl ?_
      obtain rfl := Option.some.inj h
      exact az_iret C dX11_at_121 hp
    have h := az_f c12 h
    have nc12 := lv_neT c12 (a := 4) (by decide)
    by_cases c15 : p1 = 5
    · have h := az_t c15 h
      refine az_tabIn (off := 108) C 122 dX11_at_14 (by rw [c15]; decide) (by rw [c15]; decide) (by rw [c15]; decide) (by decide) ?_
      refine az_aload_n C 0 dX11_at_122 rfl ?_
      refine az_getr (r := 19) C o0 fl_X11_84 rfl rfl dX11_at_123 ?_
      refine az_aload_n C 0 dX11_at_126 rfl ?_
      refine az_getr (r := 1) C o0 fl_X11_14 rfl rfl dX11_at_127 ?_
      refine az_iconst (v := 2) C dX11_at_130 (by decide) ?_
      refine az_iconst (v := (-1)) C dX11_at_131 (by decide) ?_
      refine az_iload_n C 1 dX11_at_132 rfl ?_
      obtain ⟨q16, e17, h⟩ := az_b h
      refine az_cV (rest := []) (st2 := [.int q16.1]) C [.ref (az_ad V 1), .int 2, .int (-1), .int p0] (c_X8_ask C.hL G 1 (C.hL.pv 1 rfl) 2 (-1) p0 M e17) (by decide) li_X11_145 o19 (by decide) rfl rfl (Nat.le_of_ble_eq_true rfl) dX11_at_133 rfl ?_
      obtain rfl := Option.some.inj h
      exact az_iret C dX11_at_136 hp
    have h := az_f c15 h
    have nc15 := lv_neT c15 (a := 5) (by decide)
    by_cases c18 : p1 = 6
    · have h := az_t c18 h
      refine az_tabIn (off := 123) C 137 dX11_at_14 (by rw [c18]; decide) (by rw [c18]; decide) (by rw [c18]; decide) (by decide) ?_
      refine az_aload_n C 0 dX11_at_137 rfl ?_
      refine az_getr (r := 19) C o0 fl_X11_84 rfl rfl dX11_at_138 ?_
      refine az_aload_n C 0 dX11_at_141 rfl ?_
      refine az_getr (r := 1) C o0 fl_X11_14 rfl rfl dX11_at_142 ?_
      refine az_iconst (v := 3) C dX11_at_145 (by decide) ?_
      refine az_iconst (v := (-1)) C dX11_at_146 (by decide) ?_
      refine az_iload_n C 1 dX11_at_147 rfl ?_
      obtain ⟨q19, e20, h⟩ := az_b h
      refine az_cV (rest := []) (st2 := [.int q19.1]) C [.ref (az_ad V 1), .int 3, .int (-1), .int p0] (c_X8_ask C.hL G 1 (C.hL.pv 1 rfl) 3 (-1) p0 M e20) (by decide) li_X11_145 o19 (by decide) rfl rfl (Nat.le_of_ble_eq_true rfl) dX11_at_148 rfl ?_
      obtain rfl := Option.some.inj h
      exact az_iret C dX11_at_151 hp
    have h := az_f c18 h
    have nc18 := lv_neT c18 (a := 6) (by decide)
    refine az_tabOut C 152 dX11_at_14 (by omega) (by decide) ?_
    refine az_iconst (v := (-1)) C dX11_at_152 (by decide) ?_
    obtain rfl := Option.some.inj h
    exact az_iret C dX11_at_153 hp
  · have h := az_t c3 h
    refine az_iconst (v := (-1)) C dX11_at_11 (by decide) ?_
    obtain rfl := Option.some.inj h
    exact az_iret C dX11_at_12 hp
theorem c_X11_at {l : Launch} {V : az_V} (hL : az_L V) (G : Nat) (p0 : Int32) (p1 : Int32) (M : az_M) {r : (Int32 × az_M)} (h : f_X11_at (az_z V) G p0 p1 M = some r) : az_Ct l V yX11_at cX11_at 3 (some .int) 4 [.ref (az_ad V 0), .int p0, .int p1] M (fun v M' => v = some (.int r.1) ∧ M' = r.2) :=
  az_Ct.of (by decide) (Nat.le_of_ble_eq_true rfl) (fun Y _ _ C => s_X11_at_e C G p0 p1 M r h ⟨rfl, rfl⟩)
set_option maxHeartbeats 4000000 in
set_option maxRecDepth 100000 in
theorem s_X11_person_19 {Y : az_Y} {V : az_V} {post : Option Value → az_M → Prop} (C : az_C Y V cX11_person 3 RX11 (some .int) 4)  (M : az_M) (r : (Int32 × az_M)) (h : f_X11_person_19 M = some r) (hp : post (some (.int r.1)) r.2) : AW Y V (az_end Y V post) 3 M 19 [(0, .ref (az_ad V 0))] [] := by
  have o0 := C.hL.at 0 (ci := 11) rfl
  unfold f_X11_person_19 at h
  refine az_aload_n C 0 dX11_person_19 rfl ?_
  refine az_iconst (v := (-1)) C dX11_person_20 (by decide) ?_
  obtain ⟨q12, e13, h⟩ := az_b h
  refine az_cV (rest := []) (st2 := [.int q12.1]) C [.int (-1)] (c_X11_refuse C.hL (-1) M e13) (by decide) li_X11_116 o0 (by decide) rfl rfl (Nat.le_of_ble_eq_true rfl) dX11_person_21 rfl ?_
  obtain rfl := Option.some.inj h
  exact az_iret C dX11_person_24 hp
set_option maxHeartbeats 4000000 in
set_option maxRecDepth 100000 in
theorem s_X11_person_e {Y : az_Y} {V : az_V} {post : Option Value → az_M → Prop} (C : az_C Y V cX11_person 3 RX11 (some .int) 4) (p0 : Int32) (p1 : Int32) (M : az_M) (r : (Int32 × az_M)) (h : f_X11_person p0 p1 M = some r) (hp : post (some (.int r.1)) r.2) : AW Y V (az_end Y V post) 3 M 0 [(0, .ref (az_ad V 0)), (1, .int p0), (2, .int p1)] [] := by
  have o0 := C.hL.at 0 (ci := 11) rfl
  have o1 := C.hL.at 1 (ci := 4) rfl
  have a2 := C.hL.ar 2 (t := 0) (len := 145) rfl
  unfold f_X11_person at h
  refine az_iload_n C 1 dX11_person_0 rfl ?_
  refine az_if_lt C 19 dX11_person_1 (by decide) (fun c1 => ?_) (fun c1 => ?_)
  · have h := az_t c1 h
    refine az_sub [0] rfl ?_
    exact s_X11_person_19 C M r h hp
  · have h := az_f c1 h
    refine az_iload_n C 1 dX11_person_4 rfl ?_
    refine az_bipush (v := 10) C dX11_person_5 (by decide) ?_
    refine az_icmp_gt C 19 dX11_person_7 (by decide) (fun c2 => ?_) (fun c2 => ?_)
    · have h := az_t c2 h
      refine az_sub [0] rfl ?_
      exact s_X11_person_19 C M r h hp
    · have h := az_f c2 h
      refine az_iload_n C 2 dX11_person_10 rfl ?_
      refine az_if_lt C 19 dX11_person_11 (by decide) (fun c3 => ?_) (fun c3 => ?_)
      · have h := az_t c3 h
        refine az_sub [0] rfl ?_
        exact s_X11_person_19 C M r h hp
      · have h := az_f c3 h
        refine az_iload_n C 2 dX11_person_14 rfl ?_
        refine az_iconst (v := 1) C dX11_person_15 (by decide) ?_
        refine az_icmp_le C 25 dX11_person_16 (by decide) (fun c4 => ?_) (fun c4 => ?_)
        · have h := az_t c4 h
          refine az_aload_n C 0 dX11_person_25 rfl ?_
          refine az_getr (r := 1) C o0 fl_X11_14 rfl rfl dX11_person_26 ?_
          refine az_getr (r := 2) C o1 fl_X11_120 rfl rfl dX11_person_29 ?_
          refine az_bipush (v := 24) C dX11_person_32 (by decide) ?_
          refine az_ild (k := 24) C a2 (az_vin (by decide)) (by decide) dX11_person_34 ?_
          refine az_bipush (v := 10) C dX11_person_35 (by decide) ?_
          refine az_icmp_lt C 47 dX11_person_37 (by decide) (fun c5 => ?_) (fun c5 => ?_)
          · have h := az_t c5 h
            refine az_aload_n C 0 dX11_person_47 rfl ?_
            refine az_aload_n C 0 dX11_person_48 rfl ?_
            refine az_getr (r := 1) C o0 fl_X11_14 rfl rfl dX11_person_49 ?_
            refine az_iload_n C 1 dX11_person_52 rfl ?_
            refine az_iload_n C 2 dX11_person_53 rfl ?_
            obtain ⟨q6, e7, h⟩ := az_b h
            refine az_cV (rest := [.ref (az_ad V 0)]) (st2 := [.int q6.1, .ref (az_ad V 0)]) C [.int p0, .int p1] (c_X4_addPerson C.hL 1 (C.hL.pv 1 rfl) p0 p1 M e7) (by decide) li_X11_149 o1 (by decide) rfl rfl (Nat.le_of_ble_eq_true rfl) dX11_person_54 rfl ?_
            obtain ⟨q8, e9, h⟩ := az_b h
            refine az_cV (rest := []) (st2 := [.int q8.1]) C [.int q6.1] (c_X11_settleAnew C.hL q6.1 q6.2 e9) (by decide) li_X11_123 o0 (by decide) rfl rfl (Nat.le_of_ble_eq_true rfl) dX11_person_57 rfl ?_
            obtain rfl := Option.some.inj h
            exact az_iret C dX11_person_60 hp
          · have h := az_f c5 h
            refine az_aload_n C 0 dX11_person_40 rfl ?_
            refine az_bipush (v := (-5)) C dX11_person_41 (by decide) ?_
            obtain ⟨q10, e11, h⟩ := az_b h
            refine az_cV (rest := []) (st2 := [.int q10.1]) C [.int (-5)] (c_X11_refuse C.hL (-5) M e11) (by decide) li_X11_116 o0 (by decide) rfl rfl (Nat.le_of_ble_eq_true rfl) dX11_person_43 rfl ?_
            obtain rfl := Option.some.inj h
            exact az_iret C dX11_person_46 hp
        · have h := az_f c4 h
          refine az_sub [0] rfl ?_
          exact s_X11_person_19 C M r h hp
theorem c_X11_person {l : Launch} {V : az_V} (hL : az_L V) (p0 : Int32) (p1 : Int32) (M : az_M) {r : (Int32 × az_M)} (h : f_X11_person p0 p1 M = some r) : az_Ct l V yX11_person cX11_person 3 (some .int) 4 [.ref (az_ad V 0), .int p0, .int p1] M (fun v M' => v = some (.int r.1) ∧ M' = r.2) :=
  az_Ct.of (by decide) (Nat.le_of_ble_eq_true rfl) (fun Y _ _ C => s_X11_person_e C p0 p1 M r h ⟨rfl, rfl⟩)
set_option maxHeartbeats 4000000 in
set_option maxRecDepth 100000 in
theorem s_X11_of_15 {Y : az_Y} {V : az_V} {post : Option Value → az_M → Prop} (C : az_C Y V cX11_of 3 RX11 (some .int) 4) (G : Nat)  (M : az_M) (r : (Int32 × az_M)) (h : f_X11_of_15 (az_z V) G M = some r) (hp : post (some (.int r.1)) r.2) : AW Y V (az_end Y V post) 3 M 15 [] [] := by
  unfold f_X11_of_15 at h
  refine az_iconst (v := (-1)) C dX11_of_15 (by decide) ?_
  obtain rfl := Option.some.inj h
  exact az_iret C dX11_of_16 hp
set_option maxHeartbeats 4000000 in
set_option maxRecDepth 100000 in
theorem s_X11_of_103 {Y : az_Y} {V : az_V} {post : Option Value → az_M → Prop} (C : az_C Y V cX11_of 3 RX11 (some .int) 4) (G : Nat) (s0 : Int32) (M : az_M) (r : (Int32 × az_M)) (h : f_X11_of_103 (az_z V) G s0 M = some r) (hp : post (some (.int r.1)) r.2) : AW Y V (az_end Y V post) 3 M 103 [] [.int s0] := by
  unfold f_X11_of_103 at h
  obtain rfl := Option.some.inj h
  exact az_iret C dX11_of_103 hp
set_option maxHeartbeats 4000000 in
set_option maxRecDepth 100000 in
theorem s_X11_of_137 {Y : az_Y} {V : az_V} {post : Option Value → az_M → Prop} (C : az_C Y V cX11_of 3 RX11 (some .int) 4) (G : Nat) (s0 : Int32) (M : az_M) (r : (Int32 × az_M)) (h : f_X11_of_137 (az_z V) G s0 M = some r) (hp : post (some (.int r.1)) r.2) : AW Y V (az_end Y V post) 3 M 137 [] [.int s0] := by
  unfold f_X11_of_137 at h
  obtain rfl := Option.some.inj h
  exact az_iret C dX11_of_137 hp
set_option maxHeartbeats 4000000 in
set_option maxRecDepth 100000 in
theorem s_X11_of_e {Y : az_Y} {V : az_V} {post : Option Value → az_M → Prop} (C : az_C Y V cX11_of 3 RX11 (some .int) 4) (G : Nat) (p0 : Int32) (p1 : Int32) (M : az_M) (r : (Int32 × az_M)) (h : f_X11_of (az_z V) G p0 p1 M = some r) (hp : post (some (.int r.1)) r.2) : AW Y V (az_end Y V post) 3 M 0 [(0, .ref (az_ad V 0)), (1, .int p0), (2, .int p1)] [] := by
  have o0 := C.hL.at 0 (ci := 11) rfl
  have o1 := C.hL.at 1 (ci := 4) rfl
  have o19 := C.hL.at 19 (ci := 8) rfl
  have a2 := C.hL.ar 2 (t := 0) (len := 145) rfl
  unfold f_X11_of at h
  refine az_aload_n C 0 dX11_of_0 rfl ?_
  refine az_getr (r := 1) C o0 fl_X11_14 rfl rfl dX11_of_1 ?_
  refine az_iload_n C 1 dX11_of_4 rfl ?_
  obtain ⟨q1, e2, h⟩ := az_b h
  refine az_cV (rest := []) (st2 := [.int q1]) C [.int p0] (c_X4_hasPerson C.hL 1 (C.hL.pv 1 rfl) p0 M e2) (by decide) li_X11_153 o1 (by decide) rfl rfl (Nat.le_of_ble_eq_true rfl) dX11_of_5 rfl ?_
  refine az_if_eq C 15 dX11_of_8 (by decide) (fun c3 => ?_) (fun c3 => ?_)
  · have h := az_t c3 h
    refine az_sub [] rfl ?_
    exact s_X11_of_15 C G M r h hp
  · have h := az_f c3 h
    refine az_iload_n C 2 dX11_of_11 rfl ?_
    refine az_if_ge C 17 dX11_of_12 (by decide) (fun c4 => ?_) (fun c4 => ?_)
    · have h := az_t c4 h
      refine az_iload_n C 2 dX11_of_17 rfl ?_
      by_cases c5 : p1 = 0
      · have h := az_t c5 h
        refine az_tabIn (off := 30) C 48 dX11_of_18 (by rw [c5]; decide) (by rw [c5]; decide) (by rw [c5]; decide) (by decide) ?_
        refine az_aload_n C 0 dX11_of_48 rfl ?_
        refine az_getr (r := 1) C o0 fl_X11_14 rfl rfl dX11_of_49 ?_
        refine az_getr (r := 2) C o1 fl_X11_120 rfl rfl dX11_of_52 ?_
        refine az_bipush (v := 63) C dX11_of_55 (by decide) ?_
        refine az_iload_n C 1 dX11_of_57 rfl ?_
        refine az_iadd C dX11_of_58 ?_
        obtain ⟨g6, h⟩ := az_g h
        refine az_ild (k := (63 + p0).toNatClampNeg) C a2 g6 rfl dX11_of_59 ?_
        obtain rfl := Option.some.inj h
        exact az_iret C dX11_of_60 hp
      have h := az_f c5 h
      have nc5 := lv_neT c5 (a := 0) (by decide)
      by_cases c7 : p1 = 1
      · have h := az_t c7 h
        refine az_tabIn (off := 43) C 61 dX11_of_18 (by rw [c7]; decide) (by rw [c7]; decide) (by rw [c7]; decide) (by decide) ?_
        refine az_aload_n C 0 dX11_of_61 rfl ?_
        refine az_getr (r := 1) C o0 fl_X11_14 rfl rfl dX11_of_62 ?_
        refine az_getr (r := 2) C o1 fl_X11_120 rfl rfl dX11_of_65 ?_
        refine az_bipush (v := 73) C dX11_of_68 (by decide) ?_
        refine az_iload_n C 1 dX11_of_70 rfl ?_
        refine az_iadd C dX11_of_71 ?_
        obtain ⟨g8, h⟩ := az_g h
        refine az_ild (k := (73 + p0).toNatClampNeg) C a2 g8 rfl dX11_of_72 ?_
        obtain rfl := Option.some.inj h
        exact az_iret C dX11_of_73 hp
      have h := az_f c7 h
      have nc7 := lv_neT c7 (a := 1) (by decide)
      by_cases c9 : p1 = 2
      · have h := az_t c9 h
        refine az_tabIn (off := 56) C 74 dX11_of_18 (by rw [c9]; decide) (by rw [c9]; decide) (by rw [c9]; decide) (by decide) ?_
        refine az_aload_n C 0 dX11_of_74 rfl ?_
        refine az_getr (r := 1) C o0 fl_X11_14 rfl rfl dX11_of_75 ?_
        refine az_getr (r := 2) C o1 fl_X11_120 rfl rfl dX11_of_78 ?_
        refine az_bipush (v := 83) C dX11_of_81 (by decide) ?_
        refine az_iload_n C 1 dX11_of_83 rfl ?_
        refine az_iadd C dX11_of_84 ?_
        obtain ⟨g10, h⟩ := az_g h
        refine az_ild (k := (83 + p0).toNatClampNeg) C a2 g10 rfl dX11_of_85 ?_
        obtain rfl := Option.some.inj h
        exact az_iret C dX11_of_86 hp
      have h := az_f c9 h
      have nc9 := lv_neT c9 (a := 2) (by decide)
      by_cases c11 : p1 = 3
      · have h := az_t c11 h
        refine az_tabIn (off := 69) C 87 dX11_of_18 (by rw [c11]; decide) (by rw [c11]; decide) (by rw [c11]; decide) (by decide) ?_
        refine az_aload_n C 0 dX11_of_87 rfl ?_
        refine az_getr (r := 1) C o0 fl_X11_14 rfl rfl dX11_of_88 ?_
        refine az_iload_n C 1 dX11_of_91 rfl ?_
        obtain ⟨q12, e13, h⟩ := az_b h
        refine az_cV (rest := []) (st2 := [.int q12]) C [.int p0] (c_X4_isHurt C.hL 1 (C.hL.pv 1 rfl) p0 M e13) (by decide) li_X11_156 o1 (by decide) rfl rfl (Nat.le_of_ble_eq_true rfl) dX11_of_92 rfl ?_
        refine az_if_eq C 102 dX11_of_95 (by decide) (fun c14 => ?_) (fun c14 => ?_)
        · have h := az_t c14 h
          refine az_iconst (v := 0) C dX11_of_102 (by decide) ?_
          refine az_sub [] rfl ?_
          exact s_X11_of_103 C G 0 M r h hp
        · have h := az_f c14 h
          refine az_iconst (v := 1) C dX11_of_98 (by decide) ?_
          refine az_goto C 103 dX11_of_99 (by decide) ?_
          refine az_sub [] rfl ?_
          exact s_X11_of_103 C G 1 M r h hp
      have h := az_f c11 h
      have nc11 := lv_neT c11 (a := 3) (by decide)
      refine az_tabOut C 104 dX11_of_18 (by omega) (by decide) ?_
      refine az_aload_n C 0 dX11_of_104 rfl ?_
      refine az_getr (r := 1) C o0 fl_X11_14 rfl rfl dX11_of_105 ?_
      refine az_iload_n C 2 dX11_of_108 rfl ?_
      refine az_iconst (v := 4) C dX11_of_109 (by decide) ?_
      refine az_isub C dX11_of_110 ?_
      obtain ⟨q15, e16, h⟩ := az_b h
      refine az_cV (rest := []) (st2 := [.int q15]) C [.int (p1 - 4)] (c_X4_hasPlace C.hL 1 (C.hL.pv 1 rfl) (p1 - 4) M e16) (by decide) li_X11_141 o1 (by decide) rfl rfl (Nat.le_of_ble_eq_true rfl) dX11_of_111 rfl ?_
      refine az_if_eq C 136 dX11_of_114 (by decide) (fun c17 => ?_) (fun c17 => ?_)
      · have h := az_t c17 h
        refine az_iconst (v := (-1)) C dX11_of_136 (by decide) ?_
        refine az_sub [] rfl ?_
        exact s_X11_of_137 C G (-1) M r h hp
      · have h := az_f c17 h
        refine az_aload_n C 0 dX11_of_117 rfl ?_
        refine az_getr (r := 19) C o0 fl_X11_84 rfl rfl dX11_of_118 ?_
        refine az_aload_n C 0 dX11_of_121 rfl ?_
        refine az_getr (r := 1) C o0 fl_X11_14 rfl rfl dX11_of_122 ?_
        refine az_iconst (v := 0) C dX11_of_125 (by decide) ?_
        refine az_iload_n C 1 dX11_of_126 rfl ?_
        refine az_iload_n C 2 dX11_of_127 rfl ?_
        refine az_iconst (v := 4) C dX11_of_128 (by decide) ?_
        refine az_isub C dX11_of_129 ?_
        obtain ⟨q18, e19, h⟩ := az_b h
        refine az_cV (rest := []) (st2 := [.int q18.1]) C [.ref (az_ad V 1), .int 0, .int p0, .int (p1 - 4)] (c_X8_ask C.hL G 1 (C.hL.pv 1 rfl) 0 p0 (p1 - 4) M e19) (by decide) li_X11_145 o19 (by decide) rfl rfl (Nat.le_of_ble_eq_true rfl) dX11_of_130 rfl ?_
        refine az_goto C 137 dX11_of_133 (by decide) ?_
        refine az_sub [] rfl ?_
        exact s_X11_of_137 C G q18.1 q18.2 r h hp
    · have h := az_f c4 h
      refine az_sub [] rfl ?_
      exact s_X11_of_15 C G M r h hp
theorem c_X11_of {l : Launch} {V : az_V} (hL : az_L V) (G : Nat) (p0 : Int32) (p1 : Int32) (M : az_M) {r : (Int32 × az_M)} (h : f_X11_of (az_z V) G p0 p1 M = some r) : az_Ct l V yX11_of cX11_of 3 (some .int) 4 [.ref (az_ad V 0), .int p0, .int p1] M (fun v M' => v = some (.int r.1) ∧ M' = r.2) :=
  az_Ct.of (by decide) (Nat.le_of_ble_eq_true rfl) (fun Y _ _ C => s_X11_of_e C G p0 p1 M r h ⟨rfl, rfl⟩)
set_option maxHeartbeats 4000000 in
set_option maxRecDepth 100000 in
theorem s_X11_quarrel_18 {Y : az_Y} {V : az_V} {post : Option Value → az_M → Prop} (C : az_C Y V cX11_quarrel 5 RX11 (some .int) 4)  (M : az_M) (r : (Int32 × az_M)) (h : f_X11_quarrel_18 M = some r) (hp : post (some (.int r.1)) r.2) : AW Y V (az_end Y V post) 5 M 18 [(0, .ref (az_ad V 0))] [] := by
  have o0 := C.hL.at 0 (ci := 11) rfl
  unfold f_X11_quarrel_18 at h
  refine az_aload_n C 0 dX11_quarrel_18 rfl ?_
  refine az_iconst (v := (-1)) C dX11_quarrel_19 (by decide) ?_
  obtain ⟨q22, e23, h⟩ := az_b h
  refine az_cV (rest := []) (st2 := [.int q22.1]) C [.int (-1)] (c_X11_refuse C.hL (-1) M e23) (by decide) li_X11_116 o0 (by decide) rfl rfl (Nat.le_of_ble_eq_true rfl) dX11_quarrel_20 rfl ?_
  obtain rfl := Option.some.inj h
  exact az_iret C dX11_quarrel_23 hp
set_option maxHeartbeats 4000000 in
set_option maxRecDepth 100000 in
theorem s_X11_quarrel_57 {Y : az_Y} {V : az_V} {post : Option Value → az_M → Prop} (C : az_C Y V cX11_quarrel 5 RX11 (some .int) 4)  (M : az_M) (r : (Int32 × az_M)) (h : f_X11_quarrel_57 M = some r) (hp : post (some (.int r.1)) r.2) : AW Y V (az_end Y V post) 5 M 57 [(0, .ref (az_ad V 0))] [] := by
  have o0 := C.hL.at 0 (ci := 11) rfl
  unfold f_X11_quarrel_57 at h
  refine az_aload_n C 0 dX11_quarrel_57 rfl ?_
  refine az_bipush (v := (-2)) C dX11_quarrel_58 (by decide) ?_
  obtain ⟨q20, e21, h⟩ := az_b h
  refine az_cV (rest := []) (st2 := [.int q20.1]) C [.int (-2)] (c_X11_refuse C.hL (-2) M e21) (by decide) li_X11_116 o0 (by decide) rfl rfl (Nat.le_of_ble_eq_true rfl) dX11_quarrel_60 rfl ?_
  obtain rfl := Option.some.inj h
  exact az_iret C dX11_quarrel_63 hp
set_option maxHeartbeats 4000000 in
set_option maxRecDepth 100000 in
theorem s_X11_quarrel_e {Y : az_Y} {V : az_V} {post : Option Value → az_M → Prop} (C : az_C Y V cX11_quarrel 5 RX11 (some .int) 4) (p0 : Int32) (p1 : Int32) (p2 : Int32) (p3 : Int32) (M : az_M) (r : (Int32 × az_M)) (h : f_X11_quarrel p0 p1 p2 p3 M = some r) (hp : post (some (.int r.1)) r.2) : AW Y V (az_end Y V post) 5 M 0 [(0, .ref (az_ad V 0)), (1, .int p0), (2, .int p1), (3, .int p2), (4, .int p3)] [] := by
  have o0 := C.hL.at 0 (ci := 11) rfl
  have o1 := C.hL.at 1 (ci := 4) rfl
  have a2 := C.hL.ar 2 (t := 0) (len := 145) rfl
  unfold f_X11_quarrel at h
  refine az_iload_n C 1 dX11_quarrel_0 rfl ?_
  refine az_iload_n C 2 dX11_quarrel_1 rfl ?_
  refine az_icmp_eq C 18 dX11_quarrel_2 (by decide) (fun c1 => ?_) (fun c1 => ?_)
  · have h := az_t c1 h
    refine az_sub [0] rfl ?_
    exact s_X11_quarrel_18 C M r h hp
  · have h := az_f c1 h
    refine az_iload C 4 dX11_quarrel_5 rfl ?_
    refine az_if_lt C 18 dX11_quarrel_7 (by decide) (fun c2 => ?_) (fun c2 => ?_)
    · have h := az_t c2 h
      refine az_sub [0] rfl ?_
      exact s_X11_quarrel_18 C M r h hp
    · have h := az_f c2 h
      refine az_iload C 4 dX11_quarrel_10 rfl ?_
      refine az_sipush (v := 999) C dX11_quarrel_12 (by decide) ?_
      refine az_icmp_le C 24 dX11_quarrel_15 (by decide) (fun c3 => ?_) (fun c3 => ?_)
      · have h := az_t c3 h
        refine az_aload_n C 0 dX11_quarrel_24 rfl ?_
        refine az_getr (r := 1) C o0 fl_X11_14 rfl rfl dX11_quarrel_25 ?_
        refine az_iload_n C 1 dX11_quarrel_28 rfl ?_
        obtain ⟨q4, e5, h⟩ := az_b h
        refine az_cV (rest := []) (st2 := [.int q4]) C [.int p0] (c_X4_hasPerson C.hL 1 (C.hL.pv 1 rfl) p0 M e5) (by decide) li_X11_153 o1 (by decide) rfl rfl (Nat.le_of_ble_eq_true rfl) dX11_quarrel_29 rfl ?_
        refine az_if_eq C 57 dX11_quarrel_32 (by decide) (fun c6 => ?_) (fun c6 => ?_)
        · have h := az_t c6 h
          refine az_sub [0] rfl ?_
          exact s_X11_quarrel_57 C M r h hp
        · have h := az_f c6 h
          refine az_aload_n C 0 dX11_quarrel_35 rfl ?_
          refine az_getr (r := 1) C o0 fl_X11_14 rfl rfl dX11_quarrel_36 ?_
          refine az_iload_n C 2 dX11_quarrel_39 rfl ?_
          obtain ⟨q7, e8, h⟩ := az_b h
          refine az_cV (rest := []) (st2 := [.int q7]) C [.int p1] (c_X4_hasPerson C.hL 1 (C.hL.pv 1 rfl) p1 M e8) (by decide) li_X11_153 o1 (by decide) rfl rfl (Nat.le_of_ble_eq_true rfl) dX11_quarrel_40 rfl ?_
          refine az_if_eq C 57 dX11_quarrel_43 (by decide) (fun c9 => ?_) (fun c9 => ?_)
          · have h := az_t c9 h
            refine az_sub [0] rfl ?_
            exact s_X11_quarrel_57 C M r h hp
          · have h := az_f c9 h
            refine az_aload_n C 0 dX11_quarrel_46 rfl ?_
            refine az_getr (r := 1) C o0 fl_X11_14 rfl rfl dX11_quarrel_47 ?_
            refine az_iload_n C 3 dX11_quarrel_50 rfl ?_
            obtain ⟨q10, e11, h⟩ := az_b h
            refine az_cV (rest := []) (st2 := [.int q10]) C [.int p2] (c_X4_hasPlace C.hL 1 (C.hL.pv 1 rfl) p2 M e11) (by decide) li_X11_141 o1 (by decide) rfl rfl (Nat.le_of_ble_eq_true rfl) dX11_quarrel_51 rfl ?_
            refine az_if_ne C 64 dX11_quarrel_54 (by decide) (fun c12 => ?_) (fun c12 => ?_)
            · have h := az_f c12 h
              refine az_aload_n C 0 dX11_quarrel_64 rfl ?_
              refine az_getr (r := 1) C o0 fl_X11_14 rfl rfl dX11_quarrel_65 ?_
              refine az_getr (r := 2) C o1 fl_X11_120 rfl rfl dX11_quarrel_68 ?_
              refine az_bipush (v := 25) C dX11_quarrel_71 (by decide) ?_
              refine az_ild (k := 25) C a2 (az_vin (by decide)) (by decide) dX11_quarrel_73 ?_
              refine az_bipush (v := 7) C dX11_quarrel_74 (by decide) ?_
              refine az_icmp_lt C 86 dX11_quarrel_76 (by decide) (fun c13 => ?_) (fun c13 => ?_)
              · have h := az_t c13 h
                refine az_aload_n C 0 dX11_quarrel_86 rfl ?_
                refine az_aload_n C 0 dX11_quarrel_87 rfl ?_
                refine az_getr (r := 1) C o0 fl_X11_14 rfl rfl dX11_quarrel_88 ?_
                refine az_iload_n C 1 dX11_quarrel_91 rfl ?_
                refine az_iload_n C 2 dX11_quarrel_92 rfl ?_
                refine az_iload_n C 3 dX11_quarrel_93 rfl ?_
                refine az_iload C 4 dX11_quarrel_94 rfl ?_
                obtain ⟨q14, e15, h⟩ := az_b h
                refine az_cV (rest := [.ref (az_ad V 0)]) (st2 := [.int q14.1, .ref (az_ad V 0)]) C [.int p0, .int p1, .int p2, .int p3] (c_X4_addQuarrel C.hL 1 (C.hL.pv 1 rfl) p0 p1 p2 p3 M e15) (by decide) li_X11_159 o1 (by decide) rfl rfl (Nat.le_of_ble_eq_true rfl) dX11_quarrel_96 rfl ?_
                obtain ⟨q16, e17, h⟩ := az_b h
                refine az_cV (rest := []) (st2 := [.int q16.1]) C [.int q14.1] (c_X11_settleAnew C.hL q14.1 q14.2 e17) (by decide) li_X11_123 o0 (by decide) rfl rfl (Nat.le_of_ble_eq_true rfl) dX11_quarrel_99 rfl ?_
                obtain rfl := Option.some.inj h
                exact az_iret C dX11_quarrel_102 hp
              · have h := az_f c13 h
                refine az_aload_n C 0 dX11_quarrel_79 rfl ?_
                refine az_bipush (v := (-5)) C dX11_quarrel_80 (by decide) ?_
                obtain ⟨q18, e19, h⟩ := az_b h
                refine az_cV (rest := []) (st2 := [.int q18.1]) C [.int (-5)] (c_X11_refuse C.hL (-5) M e19) (by decide) li_X11_116 o0 (by decide) rfl rfl (Nat.le_of_ble_eq_true rfl) dX11_quarrel_82 rfl ?_
                obtain rfl := Option.some.inj h
                exact az_iret C dX11_quarrel_85 hp
            · have h := az_t c12 h
              refine az_sub [0] rfl ?_
              exact s_X11_quarrel_57 C M r h hp
      · have h := az_f c3 h
        refine az_sub [0] rfl ?_
        exact s_X11_quarrel_18 C M r h hp
theorem c_X11_quarrel {l : Launch} {V : az_V} (hL : az_L V) (p0 : Int32) (p1 : Int32) (p2 : Int32) (p3 : Int32) (M : az_M) {r : (Int32 × az_M)} (h : f_X11_quarrel p0 p1 p2 p3 M = some r) : az_Ct l V yX11_quarrel cX11_quarrel 5 (some .int) 4 [.ref (az_ad V 0), .int p0, .int p1, .int p2, .int p3] M (fun v M' => v = some (.int r.1) ∧ M' = r.2) :=
  az_Ct.of (by decide) (Nat.le_of_ble_eq_true rfl) (fun Y _ _ C => s_X11_quarrel_e C p0 p1 p2 p3 M r h ⟨rfl, rfl⟩)
set_option maxHeartbeats 4000000 in
set_option maxRecDepth 100000 in
theorem s_X11_about_120 {Y : az_Y} {V : az_V} {post : Option Value → az_M → Prop} (C : az_C Y V cX11_about 3 RX11 (some .int) 5) (G : Nat) (s0 : Int32) (M : az_M) (r : (Int32 × az_M)) (h : f_X11_about_120 (az_z V) G s0 M = some r) (hp : post (some (.int r.1)) r.2) : AW Y V (az_end Y V post) 3 M 120 [] [.int s0] := by
  unfold f_X11_about_120 at h
  obtain rfl := Option.some.inj h
  exact az_iret C dX11_about_120 hp
set_option maxHeartbeats 4000000 in
set_option maxRecDepth 100000 in
theorem s_X11_about_e {Y : az_Y} {V : az_V} {post : Option Value → az_M → Prop} (C : az_C Y V cX11_about 3 RX11 (some .int) 5) (G : Nat) (p0 : Int32) (p1 : Int32) (M : az_M) (r : (Int32 × az_M)) (h : f_X11_about (az_z V) G p0 p1 M = some r) (hp : post (some (.int r.1)) r.2) : AW Y V (az_end Y V post) 3 M 0 [(0, .ref (az_ad V 0)), (1, .int p0), (2, .int p1)] [] := by
  have o0 := C.hL.at 0 (ci := 11) rfl
  have o1 := C.hL.at 1 (ci := 4) rfl
  have o19 := C.hL.at 19 (ci := 8) rfl
  have a2 := C.hL.ar 2 (t := 0) (len := 145) rfl
  unfold f_X11_about at h
  refine az_aload_n C 0 dX11_about_0 rfl ?_
  refine az_getr (r := 1) C o0 fl_X11_14 rfl rfl dX11_about_1 ?_
  refine az_iload_n C 1 dX11_about_4 rfl ?_
  obtain ⟨q1, e2, h⟩ := az_b h
  refine az_cV (rest := []) (st2 := [.int q1]) C [.int p0] (c_X4_hasQuarrel C.hL 1 (C.hL.pv 1 rfl) p0 M e2) (by decide) li_X11_163 o1 (by decide) rfl rfl (Nat.le_of_ble_eq_true rfl) dX11_about_5 rfl ?_
  refine az_if_ne C 13 dX11_about_8 (by decide) (fun c3 => ?_) (fun c3 => ?_)
  · have h := az_f c3 h
    refine az_iload_n C 2 dX11_about_13 rfl ?_
    by_cases c4 : p1 = 0
    · have h := az_t c4 h
      refine az_tabIn (off := 34) C 48 dX11_about_14 (by rw [c4]; decide) (by rw [c4]; decide) (by rw [c4]; decide) (by decide) ?_
      refine az_aload_n C 0 dX11_about_48 rfl ?_
      refine az_getr (r := 1) C o0 fl_X11_14 rfl rfl dX11_about_49 ?_
      refine az_getr (r := 2) C o1 fl_X11_120 rfl rfl dX11_about_52 ?_
      refine az_bipush (v := 93) C dX11_about_55 (by decide) ?_
      refine az_iload_n C 1 dX11_about_57 rfl ?_
      refine az_iadd C dX11_about_58 ?_
      obtain ⟨g5, h⟩ := az_g h
      refine az_ild (k := (93 + p0).toNatClampNeg) C a2 g5 rfl dX11_about_59 ?_
      obtain rfl := Option.some.inj h
      exact az_iret C dX11_about_60 hp
    have h := az_f c4 h
    have nc4 := lv_neT c4 (a := 0) (by decide)
    by_cases c6 : p1 = 1
    · have h := az_t c6 h
      refine az_tabIn (off := 47) C 61 dX11_about_14 (by rw [c6]; decide) (by rw [c6]; decide) (by rw [c6]; decide) (by decide) ?_
      refine az_aload_n C 0 dX11_about_61 rfl ?_
      refine az_getr (r := 1) C o0 fl_X11_14 rfl rfl dX11_about_62 ?_
      refine az_getr (r := 2) C o1 fl_X11_120 rfl rfl dX11_about_65 ?_
      refine az_bipush (v := 100) C dX11_about_68 (by decide) ?_
      refine az_iload_n C 1 dX11_about_70 rfl ?_
      refine az_iadd C dX11_about_71 ?_
      obtain ⟨g7, h⟩ := az_g h
      refine az_ild (k := (100 + p0).toNatClampNeg) C a2 g7 rfl dX11_about_72 ?_
      obtain rfl := Option.some.inj h
      exact az_iret C dX11_about_73 hp
    have h := az_f c6 h
    have nc6 := lv_neT c6 (a := 1) (by decide)
    by_cases c8 : p1 = 2
    · have h := az_t c8 h
      refine az_tabIn (off := 60) C 74 dX11_about_14 (by rw [c8]; decide) (by rw [c8]; decide) (by rw [c8]; decide) (by decide) ?_
      refine az_aload_n C 0 dX11_about_74 rfl ?_
      refine az_getr (r := 1) C o0 fl_X11_14 rfl rfl dX11_about_75 ?_
      refine az_getr (r := 2) C o1 fl_X11_120 rfl rfl dX11_about_78 ?_
      refine az_bipush (v := 107) C dX11_about_81 (by decide) ?_
      refine az_iload_n C 1 dX11_about_83 rfl ?_
      refine az_iadd C dX11_about_84 ?_
      obtain ⟨g9, h⟩ := az_g h
      refine az_ild (k := (107 + p0).toNatClampNeg) C a2 g9 rfl dX11_about_85 ?_
      obtain rfl := Option.some.inj h
      exact az_iret C dX11_about_86 hp
    have h := az_f c8 h
    have nc8 := lv_neT c8 (a := 2) (by decide)
    by_cases c10 : p1 = 3
    · have h := az_t c10 h
      refine az_tabIn (off := 73) C 87 dX11_about_14 (by rw [c10]; decide) (by rw [c10]; decide) (by rw [c10]; decide) (by decide) ?_
      refine az_aload_n C 0 dX11_about_87 rfl ?_
      refine az_getr (r := 1) C o0 fl_X11_14 rfl rfl dX11_about_88 ?_
      refine az_getr (r := 2) C o1 fl_X11_120 rfl rfl dX11_about_91 ?_
      refine az_bipush (v := 114) C dX11_about_94 (by decide) ?_
      refine az_iload_n C 1 dX11_about_96 rfl ?_
      refine az_iadd C dX11_about_97 ?_
      obtain ⟨g11, h⟩ := az_g h
      refine az_ild (k := (114 + p0).toNatClampNeg) C a2 g11 rfl dX11_about_98 ?_
      obtain rfl := Option.some.inj h
      exact az_iret C dX11_about_99 hp
    have h := az_f c10 h
    have nc10 := lv_neT c10 (a := 3) (by decide)
    by_cases c12 : p1 = 4
    · have h := az_t c12 h
      refine az_tabIn (off := 86) C 100 dX11_about_14 (by rw [c12]; decide) (by rw [c12]; decide) (by rw [c12]; decide) (by decide) ?_
      refine az_aload_n C 0 dX11_about_100 rfl ?_
      refine az_getr (r := 19) C o0 fl_X11_84 rfl rfl dX11_about_101 ?_
      refine az_aload_n C 0 dX11_about_104 rfl ?_
      refine az_getr (r := 1) C o0 fl_X11_14 rfl rfl dX11_about_105 ?_
      refine az_iload_n C 1 dX11_about_108 rfl ?_
      obtain ⟨q13, e14, h⟩ := az_b h
      refine az_cV (rest := []) (st2 := [.int q13.1]) C [.ref (az_ad V 1), .int p0] (c_X8_canBeHad C.hL G 1 (C.hL.pv 1 rfl) p0 M e14) (by decide) li_X11_166 o19 (by decide) rfl rfl (Nat.le_of_ble_eq_true rfl) dX11_about_109 rfl ?_
      refine az_if_eq C 119 dX11_about_112 (by decide) (fun c15 => ?_) (fun c15 => ?_)
      · have h := az_t c15 h
        refine az_iconst (v := 0) C dX11_about_119 (by decide) ?_
        refine az_sub [] rfl ?_
        exact s_X11_about_120 C G 0 q13.2 r h hp
      · have h := az_f c15 h
        refine az_iconst (v := 1) C dX11_about_115 (by decide) ?_
        refine az_goto C 120 dX11_about_116 (by decide) ?_
        refine az_sub [] rfl ?_
        exact s_X11_about_120 C G 1 q13.2 r h hp
    have h := az_f c12 h
    have nc12 := lv_neT c12 (a := 4) (by decide)
    refine az_tabOut C 121 dX11_about_14 (by omega) (by decide) ?_
    refine az_iconst (v := (-1)) C dX11_about_121 (by decide) ?_
    obtain rfl := Option.some.inj h
    exact az_iret C dX11_about_122 hp
  · have h := az_t c3 h
    refine az_iconst (v := (-1)) C dX11_about_11 (by decide) ?_
    obtain rfl := Option.some.inj h
    exact az_iret C dX11_about_12 hp
theorem c_X11_about {l : Launch} {V : az_V} (hL : az_L V) (G : Nat) (p0 : Int32) (p1 : Int32) (M : az_M) {r : (Int32 × az_M)} (h : f_X11_about (az_z V) G p0 p1 M = some r) : az_Ct l V yX11_about cX11_about 3 (some .int) 5 [.ref (az_ad V 0), .int p0, .int p1] M (fun v M' => v = some (.int r.1) ∧ M' = r.2) :=
  az_Ct.of (by decide) (Nat.le_of_ble_eq_true rfl) (fun Y _ _ C => s_X11_about_e C G p0 p1 M r h ⟨rfl, rfl⟩)
set_option maxHeartbeats 4000000 in
set_option maxRecDepth 100000 in
theorem s_X11_terms_30 {Y : az_Y} {V : az_V} {post : Option Value → az_M → Prop} (C : az_C Y V cX11_terms 4 RX11 (some .int) 4)  (M : az_M) (r : (Int32 × az_M)) (h : f_X11_terms_30 M = some r) (hp : post (some (.int r.1)) r.2) : AW Y V (az_end Y V post) 4 M 30 [(0, .ref (az_ad V 0))] [] := by
  have o0 := C.hL.at 0 (ci := 11) rfl
  unfold f_X11_terms_30 at h
  refine az_aload_n C 0 dX11_terms_30 rfl ?_
  refine az_iconst (v := (-1)) C dX11_terms_31 (by decide) ?_
  obtain ⟨q11, e12, h⟩ := az_b h
  refine az_cV (rest := []) (st2 := [.int q11.1]) C [.int (-1)] (c_X11_refuse C.hL (-1) M e12) (by decide) li_X11_116 o0 (by decide) rfl rfl (Nat.le_of_ble_eq_true rfl) dX11_terms_32 rfl ?_
  obtain rfl := Option.some.inj h
  exact az_iret C dX11_terms_35 hp
set_option maxHeartbeats 4000000 in
set_option maxRecDepth 100000 in
theorem s_X11_terms_e {Y : az_Y} {V : az_V} {post : Option Value → az_M → Prop} (C : az_C Y V cX11_terms 4 RX11 (some .int) 4) (p0 : Int32) (p1 : Int32) (M : az_M) (r : (Int32 × az_M)) (h : f_X11_terms p0 p1 M = some r) (hp : post (some (.int r.1)) r.2) : AW Y V (az_end Y V post) 4 M 0 [(0, .ref (az_ad V 0)), (1, .int p0), (2, .int p1)] [] := by
  have o0 := C.hL.at 0 (ci := 11) rfl
  have o1 := C.hL.at 1 (ci := 4) rfl
  have a2 := C.hL.ar 2 (t := 0) (len := 145) rfl
  unfold f_X11_terms at h
  refine az_iload_n C 1 dX11_terms_0 rfl ?_
  refine az_if_lt C 30 dX11_terms_1 (by decide) (fun c1 => ?_) (fun c1 => ?_)
  · have h := az_t c1 h
    refine az_sub [0] rfl ?_
    exact s_X11_terms_30 C M r h hp
  · have h := az_f c1 h
    refine az_iload_n C 1 dX11_terms_4 rfl ?_
    refine az_gst (i := 2) C (by decide) gs_X11_170 dX11_terms_5 ?_
    refine az_gln (v := 5) C (by decide) (by decide) dX11_terms_8 ?_
    refine az_icmp_ge C 30 dX11_terms_9 (by decide) (fun c2 => ?_) (fun c2 => ?_)
    · have h := az_t c2 h
      refine az_sub [0] rfl ?_
      exact s_X11_terms_30 C M r h hp
    · have h := az_f c2 h
      refine az_iload_n C 2 dX11_terms_12 rfl ?_
      refine az_gst (i := 1) C (by decide) gs_X11_173 dX11_terms_13 ?_
      refine az_iload_n C 1 dX11_terms_16 rfl ?_
      obtain ⟨g3, h⟩ := az_g h
      refine az_gld (k := p0.toNatClampNeg) (len := 5) C (by decide) (by decide) g3 rfl dX11_terms_17 ?_
      refine az_icmp_lt C 30 dX11_terms_18 (by decide) (fun c4 => ?_) (fun c4 => ?_)
      · have h := az_t c4 h
        refine az_sub [0] rfl ?_
        exact s_X11_terms_30 C M r h hp
      · have h := az_f c4 h
        refine az_iload_n C 2 dX11_terms_21 rfl ?_
        refine az_gst (i := 2) C (by decide) gs_X11_170 dX11_terms_22 ?_
        refine az_iload_n C 1 dX11_terms_25 rfl ?_
        obtain ⟨g5, h⟩ := az_g h
        refine az_gld (k := p0.toNatClampNeg) (len := 5) C (by decide) (by decide) g5 rfl dX11_terms_26 ?_
        refine az_icmp_le C 36 dX11_terms_27 (by decide) (fun c6 => ?_) (fun c6 => ?_)
        · have h := az_t c6 h
          refine az_aload_n C 0 dX11_terms_36 rfl ?_
          refine az_getr (r := 1) C o0 fl_X11_14 rfl rfl dX11_terms_37 ?_
          refine az_getr (r := 2) C o1 fl_X11_120 rfl rfl dX11_terms_40 ?_
          refine az_bipush (v := 16) C dX11_terms_43 (by decide) ?_
          refine az_iload_n C 1 dX11_terms_45 rfl ?_
          refine az_iadd C dX11_terms_46 ?_
          obtain ⟨g7, h⟩ := az_g h
          refine az_ild (k := (16 + p0).toNatClampNeg) C a2 g7 rfl dX11_terms_47 ?_
          refine az_istore_n C dX11_terms_48 rfl (by decide) rfl ?_
          refine az_aload_n C 1 dX11_terms_49 rfl ?_
          refine az_getr (r := 1) C o0 fl_X11_14 rfl rfl dX11_terms_50 ?_
          refine az_getr (r := 2) C o1 fl_X11_120 rfl rfl dX11_terms_53 ?_
          refine az_bipush (v := 16) C dX11_terms_56 (by decide) ?_
          refine az_iload_n C 2 dX11_terms_58 rfl ?_
          refine az_iadd C dX11_terms_59 ?_
          refine az_iload_n C 3 dX11_terms_60 rfl ?_
          obtain ⟨g8, h⟩ := az_g h
          refine az_ist (k := (16 + p0).toNatClampNeg) C a2 g8 rfl dX11_terms_61 ?_
          refine az_aload_n C 1 dX11_terms_62 rfl ?_
          refine az_iload_n C 0 dX11_terms_63 rfl ?_
          obtain ⟨q9, e10, h⟩ := az_b h
          refine az_cV (rest := []) (st2 := [.int q9.1]) C [.int (M.1 2 ((16 + p0).toNatClampNeg))] (c_X11_settleAnew C.hL (M.1 2 ((16 + p0).toNatClampNeg)) (az_i M 2 ((16 + p0).toNatClampNeg) p1) e10) (by decide) li_X11_123 o0 (by decide) rfl rfl (Nat.le_of_ble_eq_true rfl) dX11_terms_64 rfl ?_
          obtain rfl := Option.some.inj h
          exact az_iret C dX11_terms_67 hp
        · have h := az_f c6 h
          refine az_sub [0] rfl ?_
          exact s_X11_terms_30 C M r h hp
theorem c_X11_terms {l : Launch} {V : az_V} (hL : az_L V) (p0 : Int32) (p1 : Int32) (M : az_M) {r : (Int32 × az_M)} (h : f_X11_terms p0 p1 M = some r) : az_Ct l V yX11_terms cX11_terms 4 (some .int) 4 [.ref (az_ad V 0), .int p0, .int p1] M (fun v M' => v = some (.int r.1) ∧ M' = r.2) :=
  az_Ct.of (by decide) (Nat.le_of_ble_eq_true rfl) (fun Y _ _ C => s_X11_terms_e C p0 p1 M r h ⟨rfl, rfl⟩)
set_option maxHeartbeats 4000000 in
set_option maxRecDepth 100000 in
theorem s_X11_feed_e {Y : az_Y} {V : az_V} {post : Option Value → az_M → Prop} (C : az_C Y V cX11_feed 6 RX11 (some .int) 2) (G : Nat) (p0 : Int32) (p1 : Int32) (p2 : Int32) (p3 : Int32) (p4 : Int32) (M : az_M) (r : (Int32 × az_M)) (h : f_X11_feed G p0 p1 p2 p3 p4 M = some r) (hp : post (some (.int r.1)) r.2) : AW Y V (az_end Y V post) 6 M 0 [(0, .ref (az_ad V 0)), (1, .int p0), (2, .int p1), (3, .int p2), (4, .int p3), (5, .int p4)] [] := by
  have o0 := C.hL.at 0 (ci := 11) rfl
  have o5 := C.hL.at 5 (ci := 9) rfl
  unfold f_X11_feed at h
  refine az_aload_n C 0 dX11_feed_0 rfl ?_
  refine az_getr (r := 5) C o0 fl_X11_28 rfl rfl dX11_feed_1 ?_
  refine az_bipush (v := 20) C dX11_feed_4 (by decide) ?_
  obtain ⟨q1, e2, h⟩ := az_b h
  refine az_cV (rest := []) (st2 := [.int q1]) C [.int 20] (c_X9_hasRoomFor C.hL 20 M e2) (by decide) li_X11_176 o5 (by decide) rfl rfl (Nat.le_of_ble_eq_true rfl) dX11_feed_6 rfl ?_
  refine az_if_ne C 14 dX11_feed_9 (by decide) (fun c3 => ?_) (fun c3 => ?_)
  · have h := az_f c3 h
    refine az_aload_n C 0 dX11_feed_14 rfl ?_
    refine az_getr (r := 5) C o0 fl_X11_28 rfl rfl dX11_feed_15 ?_
    refine az_iload_n C 1 dX11_feed_18 rfl ?_
    obtain ⟨q4, e5, h⟩ := az_b h
    refine az_cV (rest := []) (st2 := []) C [.int p0] (c_X9_take C.hL G p0 M e5) (by decide) li_X11_179 o5 (by decide) rfl rfl (Nat.le_of_ble_eq_true rfl) dX11_feed_19 rfl ?_
    refine az_aload_n C 0 dX11_feed_22 rfl ?_
    refine az_getr (r := 5) C o0 fl_X11_28 rfl rfl dX11_feed_23 ?_
    refine az_iload_n C 2 dX11_feed_26 rfl ?_
    obtain ⟨q6, e7, h⟩ := az_b h
    refine az_cV (rest := []) (st2 := []) C [.int p1] (c_X9_take C.hL G p1 q4 e7) (by decide) li_X11_179 o5 (by decide) rfl rfl (Nat.le_of_ble_eq_true rfl) dX11_feed_27 rfl ?_
    refine az_aload_n C 0 dX11_feed_30 rfl ?_
    refine az_getr (r := 5) C o0 fl_X11_28 rfl rfl dX11_feed_31 ?_
    refine az_iload_n C 3 dX11_feed_34 rfl ?_
    obtain ⟨q8, e9, h⟩ := az_b h
    refine az_cV (rest := []) (st2 := []) C [.int p2] (c_X9_take C.hL G p2 q6 e9) (by decide) li_X11_179 o5 (by decide) rfl rfl (Nat.le_of_ble_eq_true rfl) dX11_feed_35 rfl ?_
    refine az_aload_n C 0 dX11_feed_38 rfl ?_
    refine az_getr (r := 5) C o0 fl_X11_28 rfl rfl dX11_feed_39 ?_
    refine az_iload C 4 dX11_feed_42 rfl ?_
    obtain ⟨q10, e11, h⟩ := az_b h
    refine az_cV (rest := []) (st2 := []) C [.int p3] (c_X9_take C.hL G p3 q8 e11) (by decide) li_X11_179 o5 (by decide) rfl rfl (Nat.le_of_ble_eq_true rfl) dX11_feed_44 rfl ?_
    refine az_aload_n C 0 dX11_feed_47 rfl ?_
    refine az_getr (r := 5) C o0 fl_X11_28 rfl rfl dX11_feed_48 ?_
    refine az_iload C 5 dX11_feed_51 rfl ?_
    obtain ⟨q12, e13, h⟩ := az_b h
    refine az_cV (rest := []) (st2 := []) C [.int p4] (c_X9_take C.hL G p4 q10 e13) (by decide) li_X11_179 o5 (by decide) rfl rfl (Nat.le_of_ble_eq_true rfl) dX11_feed_53 rfl ?_
    refine az_aload_n C 0 dX11_feed_56 rfl ?_
    refine az_getr (r := 5) C o0 fl_X11_28 rfl rfl dX11_feed_57 ?_
    refine az_geti C o5 fl_X11_183 rfl dX11_feed_60 ?_
    obtain rfl := Option.some.inj h
    exact az_iret C dX11_feed_63 hp
  · have h := az_t c3 h
    refine az_iconst (v := (-1)) C dX11_feed_12 (by decide) ?_
    obtain rfl := Option.some.inj h
    exact az_iret C dX11_feed_13 hp
theorem c_X11_feed {l : Launch} {V : az_V} (hL : az_L V) (G : Nat) (p0 : Int32) (p1 : Int32) (p2 : Int32) (p3 : Int32) (p4 : Int32) (M : az_M) {r : (Int32 × az_M)} (h : f_X11_feed G p0 p1 p2 p3 p4 M = some r) : az_Ct l V yX11_feed cX11_feed 6 (some .int) 2 [.ref (az_ad V 0), .int p0, .int p1, .int p2, .int p3, .int p4] M (fun v M' => v = some (.int r.1) ∧ M' = r.2) :=
  az_Ct.of (by decide) (Nat.le_of_ble_eq_true rfl) (fun Y _ _ C => s_X11_feed_e C G p0 p1 p2 p3 p4 M r h ⟨rfl, rfl⟩)
set_option maxHeartbeats 4000000 in
set_option maxRecDepth 100000 in
theorem s_X11_end_15 {Y : az_Y} {V : az_V} {post : Option Value → az_M → Prop} (C : az_C Y V cX11_end 2 RX11 (some .int) 1)  (M : az_M) (r : (Int32 × az_M)) (h : f_X11_end_15 M = some r) (hp : post (some (.int r.1)) r.2) : AW Y V (az_end Y V post) 2 M 15 [] [] := by
  unfold f_X11_end_15 at h
  refine az_iconst (v := (-1)) C dX11_end_15 (by decide) ?_
  obtain rfl := Option.some.inj h
  exact az_iret C dX11_end_16 hp
set_option maxHeartbeats 4000000 in
set_option maxRecDepth 100000 in
theorem s_X11_end_e {Y : az_Y} {V : az_V} {post : Option Value → az_M → Prop} (C : az_C Y V cX11_end 2 RX11 (some .int) 1) (p0 : Int32) (M : az_M) (r : (Int32 × az_M)) (h : f_X11_end p0 M = some r) (hp : post (some (.int r.1)) r.2) : AW Y V (az_end Y V post) 2 M 0 [(0, .ref (az_ad V 0)), (1, .int p0)] [] := by
  have o0 := C.hL.at 0 (ci := 11) rfl
  have o5 := C.hL.at 5 (ci := 9) rfl
  unfold f_X11_end at h
  refine az_iload_n C 1 dX11_end_0 rfl ?_
  refine az_if_lt C 15 dX11_end_1 (by decide) (fun c1 => ?_) (fun c1 => ?_)
  · have h := az_t c1 h
    refine az_sub [] rfl ?_
    exact s_X11_end_15 C M r h hp
  · have h := az_f c1 h
    refine az_iload_n C 1 dX11_end_4 rfl ?_
    refine az_aload_n C 0 dX11_end_5 rfl ?_
    refine az_getr (r := 5) C o0 fl_X11_28 rfl rfl dX11_end_6 ?_
    refine az_geti C o5 fl_X11_183 rfl dX11_end_9 ?_
    refine az_icmp_le C 17 dX11_end_12 (by decide) (fun c2 => ?_) (fun c2 => ?_)
    · have h := az_t c2 h
      refine az_aload_n C 0 dX11_end_17 rfl ?_
      refine az_getr (r := 5) C o0 fl_X11_28 rfl rfl dX11_end_18 ?_
      refine az_iload_n C 1 dX11_end_21 rfl ?_
      refine az_puti C o5 fl_X11_183 rfl rfl rfl rfl dX11_end_22 ?_
      refine az_iload_n C 1 dX11_end_25 rfl ?_
      obtain rfl := Option.some.inj h
      exact az_iret C dX11_end_26 hp
    · have h := az_f c2 h
      refine az_sub [] rfl ?_
      exact s_X11_end_15 C M r h hp
theorem c_X11_end {l : Launch} {V : az_V} (hL : az_L V) (p0 : Int32) (M : az_M) {r : (Int32 × az_M)} (h : f_X11_end p0 M = some r) : az_Ct l V yX11_end cX11_end 2 (some .int) 1 [.ref (az_ad V 0), .int p0] M (fun v M' => v = some (.int r.1) ∧ M' = r.2) :=
  az_Ct.of (by decide) (Nat.le_of_ble_eq_true rfl) (fun Y _ _ C => s_X11_end_e C p0 M r h ⟨rfl, rfl⟩)
set_option maxHeartbeats 4000000 in
set_option maxRecDepth 100000 in
theorem s_X11_placeFromTape_28 {Y : az_Y} {V : az_V} {post : Option Value → az_M → Prop} (C : az_C Y V cX11_placeFromTape 5 RX11 (some .boolean) 2)  (M : az_M) (r : (Int32 × az_M)) (h : f_X11_placeFromTape_28 M = some r) (hp : post (some (.int r.1)) r.2) : AW Y V (az_end Y V post) 5 M 28 [] [] := by
  unfold f_X11_placeFromTape_28 at h
  refine az_iconst (v := 0) C dX11_placeFromTape_28 (by decide) ?_
  obtain rfl := Option.some.inj h
  exact az_zret C dX11_placeFromTape_29 rfl hp
set_option maxHeartbeats 4000000 in
set_option maxRecDepth 100000 in
theorem s_X11_placeFromTape_e {Y : az_Y} {V : az_V} {post : Option Value → az_M → Prop} (C : az_C Y V cX11_placeFromTape 5 RX11 (some .boolean) 2) (p0 : Int32) (M : az_M) (r : (Int32 × az_M)) (h : f_X11_placeFromTape p0 M = some r) (hp : post (some (.int r.1)) r.2) : AW Y V (az_end Y V post) 5 M 0 [(0, .ref (az_ad V 0)), (1, .int p0)] [] := by
  have o0 := C.hL.at 0 (ci := 11) rfl
  have o1 := C.hL.at 1 (ci := 4) rfl
  have o5 := C.hL.at 5 (ci := 9) rfl
  have a2 := C.hL.ar 2 (t := 0) (len := 145) rfl
  have a6 := C.hL.ar 6 (t := 0) (len := 400) rfl
  unfold f_X11_placeFromTape at h
  refine az_iload_n C 1 dX11_placeFromTape_0 rfl ?_
  refine az_iconst (v := 3) C dX11_placeFromTape_1 (by decide) ?_
  refine az_iadd C dX11_placeFromTape_2 ?_
  refine az_aload_n C 0 dX11_placeFromTape_3 rfl ?_
  refine az_getr (r := 5) C o0 fl_X11_28 rfl rfl dX11_placeFromTape_4 ?_
  refine az_geti C o5 fl_X11_183 rfl dX11_placeFromTape_7 ?_
  refine az_icmp_gt C 28 dX11_placeFromTape_10 (by decide) (fun c1 => ?_) (fun c1 => ?_)
  · have h := az_t c1 h
    refine az_sub [] rfl ?_
    exact s_X11_placeFromTape_28 C M r h hp
  · have h := az_f c1 h
    refine az_aload_n C 0 dX11_placeFromTape_13 rfl ?_
    refine az_getr (r := 1) C o0 fl_X11_14 rfl rfl dX11_placeFromTape_14 ?_
    refine az_getr (r := 2) C o1 fl_X11_120 rfl rfl dX11_placeFromTape_17 ?_
    refine az_bipush (v := 23) C dX11_placeFromTape_20 (by decide) ?_
    refine az_ild (k := 23) C a2 (az_vin (by decide)) (by decide) dX11_placeFromTape_22 ?_
    refine az_bipush (v := 12) C dX11_placeFromTape_23 (by decide) ?_
    refine az_icmp_lt C 30 dX11_placeFromTape_25 (by decide) (fun c2 => ?_) (fun c2 => ?_)
    · have h := az_t c2 h
      refine az_aload_n C 0 dX11_placeFromTape_30 rfl ?_
      refine az_getr (r := 5) C o0 fl_X11_28 rfl rfl dX11_placeFromTape_31 ?_
      refine az_getr (r := 6) C o5 fl_X11_322 rfl rfl dX11_placeFromTape_34 ?_
      refine az_iload_n C 1 dX11_placeFromTape_37 rfl ?_
      obtain ⟨g3, h⟩ := az_g h
      refine az_ild (k := p0.toNatClampNeg) C a6 g3 rfl dX11_placeFromTape_38 ?_
      refine az_istore_n C dX11_placeFromTape_39 rfl (by decide) rfl ?_
      refine az_aload_n C 1 dX11_placeFromTape_40 rfl ?_
      refine az_getr (r := 5) C o0 fl_X11_28 rfl rfl dX11_placeFromTape_41 ?_
      refine az_getr (r := 6) C o5 fl_X11_322 rfl rfl dX11_placeFromTape_44 ?_
      refine az_iload_n C 2 dX11_placeFromTape_47 rfl ?_
      refine az_iconst (v := 1) C dX11_placeFromTape_48 (by decide) ?_
      refine az_iadd C dX11_placeFromTape_49 ?_
      obtain ⟨g4, h⟩ := az_g h
      refine az_ild (k := (p0 + 1).toNatClampNeg) C a6 g4 rfl dX11_placeFromTape_50 ?_
      refine az_istore_n C dX11_placeFromTape_51 rfl (by decide) rfl ?_
      refine az_aload_n C 2 dX11_placeFromTape_52 rfl ?_
      refine az_getr (r := 5) C o0 fl_X11_28 rfl rfl dX11_placeFromTape_53 ?_
      refine az_getr (r := 6) C o5 fl_X11_322 rfl rfl dX11_placeFromTape_56 ?_
      refine az_iload_n C 3 dX11_placeFromTape_59 rfl ?_
      refine az_iconst (v := 2) C dX11_placeFromTape_60 (by decide) ?_
      refine az_iadd C dX11_placeFromTape_61 ?_
      obtain ⟨g5, h⟩ := az_g h
      refine az_ild (k := (p0 + 2).toNatClampNeg) C a6 g5 rfl dX11_placeFromTape_62 ?_
      refine az_istore C dX11_placeFromTape_63 (by decide) rfl ?_
      refine az_iload_n C 2 dX11_placeFromTape_65 rfl ?_
      refine az_iload_n C 1 dX11_placeFromTape_66 rfl ?_
      refine az_iload C 0 dX11_placeFromTape_67 rfl ?_
      obtain ⟨q6, e7, h⟩ := az_b h
      refine az_cS (rest := []) (st2 := [.int q6]) C [.int (M.1 6 p0.toNatClampNeg), .int (M.1 6 ((p0 + 1).toNatClampNeg)), .int (M.1 6 ((p0 + 2).toNatClampNeg))] (c_X11_isPlace C.hL (M.1 6 p0.toNatClampNeg) (M.1 6 ((p0 + 1).toNatClampNeg)) (M.1 6 ((p0 + 2).toNatClampNeg)) M e7) (by decide) li_X11_133 rfl rfl (Nat.le_of_ble_eq_true rfl) dX11_placeFromTape_69 rfl ?_
      refine az_if_ne C 77 dX11_placeFromTape_72 (by decide) (fun c8 => ?_) (fun c8 => ?_)
      · have h := az_f c8 h
        refine az_aload_n C 3 dX11_placeFromTape_77 rfl ?_
        refine az_getr (r := 1) C o0 fl_X11_14 rfl rfl dX11_placeFromTape_78 ?_
        refine az_iload_n C 2 dX11_placeFromTape_81 rfl ?_
        refine az_iload_n C 1 dX11_placeFromTape_82 rfl ?_
        refine az_iload C 0 dX11_placeFromTape_83 rfl ?_
        obtain ⟨q9, e10, h⟩ := az_b h
        refine az_cV (rest := []) (st2 := [.int q9.1]) C [.int (M.1 6 p0.toNatClampNeg), .int (M.1 6 ((p0 + 1).toNatClampNeg)), .int (M.1 6 ((p0 + 2).toNatClampNeg))] (c_X4_addPlace C.hL 1 (C.hL.pv 1 rfl) (M.1 6 p0.toNatClampNeg) (M.1 6 ((p0 + 1).toNatClampNeg)) (M.1 6 ((p0 + 2).toNatClampNeg)) M e10) (by decide) li_X11_137 o1 (by decide) rfl rfl (Nat.le_of_ble_eq_true rfl) dX11_placeFromTape_85 rfl ?_
        refine az_pop C dX11_placeFromTape_88 rfl ?_
        refine az_iconst (v := 1) C dX11_placeFromTape_89 (by decide) ?_
        obtain rfl := Option.some.inj h
        exact az_zret C dX11_placeFromTape_90 rfl hp
      · have h := az_t c8 h
        refine az_iconst (v := 0) C dX11_placeFromTape_75 (by decide) ?_
        obtain rfl := Option.some.inj h
        exact az_zret C dX11_placeFromTape_76 rfl hp
    · have h := az_f c2 h
      refine az_sub [] rfl ?_
      exact s_X11_placeFromTape_28 C M r h hp
theorem c_X11_placeFromTape {l : Launch} {V : az_V} (hL : az_L V) (p0 : Int32) (M : az_M) {r : (Int32 × az_M)} (h : f_X11_placeFromTape p0 M = some r) : az_Ct l V yX11_placeFromTape cX11_placeFromTape 5 (some .boolean) 2 [.ref (az_ad V 0), .int p0] M (fun v M' => v = some (.int r.1) ∧ M' = r.2) :=
  az_Ct.of (by decide) (Nat.le_of_ble_eq_true rfl) (fun Y _ _ C => s_X11_placeFromTape_e C p0 M r h ⟨rfl, rfl⟩)
set_option maxHeartbeats 4000000 in
set_option maxRecDepth 100000 in
theorem s_X11_row_61 {Y : az_Y} {V : az_V} {post : Option Value → az_M → Prop} (C : az_C Y V cX11_row 3 RX11 (some .int) 4) (G : Nat) (K26 : (Int32 → Int32 → az_M → Option (Int32 × az_M))) (hK26 : ∀ (x1 : Int32) (x2 : Int32) (M : az_M) (r : (Int32 × az_M)), K26 x1 x2 M = some r → post (some (.int r.1)) r.2 → AW Y V (az_end Y V post) 3 M 26 [(0, .ref (az_ad V 0)), (1, .int x1), (2, .int x2)] []) (x1 : Int32) (x2 : Int32) (M : az_M) (r : (Int32 × az_M)) (h : f_X11_row_61 G K26 x1 x2 M = some r) (hp : post (some (.int r.1)) r.2) : AW Y V (az_end Y V post) 3 M 61 [(0, .ref (az_ad V 0)), (1, .int x1), (2, .int x2)] [] := by
  unfold f_X11_row_61 at h
  refine az_iinc (v := (x2 + 3)) C 2 dX11_row_61 rfl rfl (by decide) rfl ?_
  refine az_goto C 26 dX11_row_64 (by decide) ?_
  refine az_sub [1, 2, 0] rfl ?_
  exact hK26 x1 (x2 + 3) M r h hp
set_option maxHeartbeats 4000000 in
set_option maxRecDepth 100000 in
theorem s_X11_row_26 {Y : az_Y} {V : az_V} {post : Option Value → az_M → Prop} (C : az_C Y V cX11_row 3 RX11 (some .int) 4) (G : Nat) : ∀ (F : Nat) (x1 : Int32) (x2 : Int32) (M : az_M) (r : (Int32 × az_M)), f_X11_row_26 G F x1 x2 M = some r → post (some (.int r.1)) r.2 → AW Y V (az_end Y V post) 3 M 26 [(0, .ref (az_ad V 0)), (1, .int x1), (2, .int x2)] [] := by
  have o0 := C.hL.at 0 (ci := 11) rfl
  have o5 := C.hL.at 5 (ci := 9) rfl
  intro F
  induction F with
  | zero =>
    intro x1 x2 M r h
    exact absurd (show (none : Option (Int32 × az_M)) = some r from h) (fun q => by cases q)
  | succ F ih =>
    intro x1 x2 M r h hp
    rw [f_X11_row_26] at h
    refine az_iload_n C 2 dX11_row_26 rfl ?_
    refine az_aload_n C 0 dX11_row_27 rfl ?_
    refine az_getr (r := 5) C o0 fl_X11_28 rfl rfl dX11_row_28 ?_
    refine az_geti C o5 fl_X11_183 rfl dX11_row_31 ?_
    refine az_icmp_ge C 67 dX11_row_34 (by decide) (fun c4 => ?_) (fun c4 => ?_)
    · have h := az_t c4 h
      refine az_aload_n C 0 dX11_row_67 rfl ?_
      refine az_getr (r := 5) C o0 fl_X11_28 rfl rfl dX11_row_68 ?_
      refine az_iconst (v := 0) C dX11_row_71 (by decide) ?_
      refine az_puti C o5 fl_X11_183 rfl rfl rfl rfl dX11_row_72 ?_
      refine az_aload_n C 0 dX11_row_75 rfl ?_
      refine az_iload_n C 1 dX11_row_76 rfl ?_
      obtain ⟨q5, e6, h⟩ := az_b h
      refine az_cV (rest := []) (st2 := [.int q5.1]) C [.int x1] (c_X11_settleAnew C.hL x1 (az_i M 5 1 0) e6) (by decide) li_X11_123 o0 (by decide) rfl rfl (Nat.le_of_ble_eq_true rfl) dX11_row_77 rfl ?_
      obtain rfl := Option.some.inj h
      exact az_iret C dX11_row_80 hp
    · have h := az_f c4 h
      refine az_aload_n C 0 dX11_row_37 rfl ?_
      refine az_iload_n C 2 dX11_row_38 rfl ?_
      obtain ⟨q7, e8, h⟩ := az_b h
      refine az_cV (rest := []) (st2 := [.int q7.1]) C [.int x2] (c_X11_placeFromTape C.hL x2 M e8) (by decide) li_X11_186 o0 (by decide) rfl rfl (Nat.le_of_ble_eq_true rfl) dX11_row_39 rfl ?_
      refine az_if_eq C 51 dX11_row_42 (by decide) (fun c9 => ?_) (fun c9 => ?_)
      · have h := az_t c9 h
        refine az_aload_n C 0 dX11_row_51 rfl ?_
        refine az_dup C dX11_row_52 rfl ?_
        refine az_geti C o0 fl_X11_58 rfl dX11_row_53 ?_
        refine az_iconst (v := 1) C dX11_row_56 (by decide) ?_
        refine az_iadd C dX11_row_57 ?_
        refine az_puti C o0 fl_X11_58 rfl rfl rfl rfl dX11_row_58 ?_
        exact s_X11_row_61 C G (f_X11_row_26 G F) ih x1 x2 (az_i q7.2 0 14 ((q7.2.1 0 14) + 1)) r h hp
      · have h := az_f c9 h
        refine az_iinc (v := (x1 + 1)) C 1 dX11_row_45 rfl rfl (by decide) rfl ?_
        refine az_goto C 61 dX11_row_48 (by decide) ?_
        refine az_sub [1, 0, 2] rfl ?_
        exact s_X11_row_61 C G (f_X11_row_26 G F) ih (x1 + 1) x2 q7.2 r h hp
set_option maxHeartbeats 4000000 in
set_option maxRecDepth 100000 in
theorem s_X11_row_e {Y : az_Y} {V : az_V} {post : Option Value → az_M → Prop} (C : az_C Y V cX11_row 3 RX11 (some .int) 4) (G : Nat)  (M : az_M) (r : (Int32 × az_M)) (h : f_X11_row G M = some r) (hp : post (some (.int r.1)) r.2) : AW Y V (az_end Y V post) 3 M 0 [(0, .ref (az_ad V 0))] [] := by
  have o0 := C.hL.at 0 (ci := 11) rfl
  have o5 := C.hL.at 5 (ci := 9) rfl
  unfold f_X11_row at h
  refine az_aload_n C 0 dX11_row_0 rfl ?_
  refine az_getr (r := 5) C o0 fl_X11_28 rfl rfl dX11_row_1 ?_
  refine az_geti C o5 fl_X11_183 rfl dX11_row_4 ?_
  refine az_if_ne C 17 dX11_row_7 (by decide) (fun c1 => ?_) (fun c1 => ?_)
  · have h := az_f c1 h
    refine az_iconst (v := 0) C dX11_row_17 (by decide) ?_
    refine az_istore_n C dX11_row_18 rfl (by decide) rfl ?_
    refine az_aload_n C 1 dX11_row_19 rfl ?_
    refine az_iconst (v := 0) C dX11_row_20 (by decide) ?_
    refine az_puti C o0 fl_X11_58 rfl rfl rfl rfl dX11_row_21 ?_
    refine az_iconst (v := 0) C dX11_row_24 (by decide) ?_
    refine az_istore_n C dX11_row_25 rfl (by decide) rfl ?_
    refine az_sub [2, 1, 0] rfl ?_
    exact s_X11_row_26 C G G 0 0 (az_i M 0 14 0) r h hp
  · have h := az_t c1 h
    refine az_aload_n C 0 dX11_row_10 rfl ?_
    refine az_bipush (v := (-6)) C dX11_row_11 (by decide) ?_
    obtain ⟨q2, e3, h⟩ := az_b h
    refine az_cV (rest := []) (st2 := [.int q2.1]) C [.int (-6)] (c_X11_refuse C.hL (-6) M e3) (by decide) li_X11_116 o0 (by decide) rfl rfl (Nat.le_of_ble_eq_true rfl) dX11_row_13 rfl ?_
    obtain rfl := Option.some.inj h
    exact az_iret C dX11_row_16 hp
theorem c_X11_row {l : Launch} {V : az_V} (hL : az_L V) (G : Nat)  (M : az_M) {r : (Int32 × az_M)} (h : f_X11_row G M = some r) : az_Ct l V yX11_row cX11_row 3 (some .int) 4 [.ref (az_ad V 0)] M (fun v M' => v = some (.int r.1) ∧ M' = r.2) :=
  az_Ct.of (by decide) (Nat.le_of_ble_eq_true rfl) (fun Y _ _ C => s_X11_row_e C G M r h ⟨rfl, rfl⟩)
set_option maxHeartbeats 4000000 in
set_option maxRecDepth 100000 in
theorem s_X11_chips_e {Y : az_Y} {V : az_V} {post : Option Value → az_M → Prop} (C : az_C Y V cX11_chips 1 RX11 (some .int) 1)  (M : az_M) (r : Int32) (h : f_X11_chips M = some r) (hp : post (some (.int r)) M) : AW Y V (az_end Y V post) 1 M 0 [(0, .ref (az_ad V 0))] [] := by
  have o0 := C.hL.at 0 (ci := 11) rfl
  unfold f_X11_chips at h
  refine az_aload_n C 0 dX11_chips_0 rfl ?_
  refine az_geti C o0 fl_X11_58 rfl dX11_chips_1 ?_
  obtain rfl := Option.some.inj h
  exact az_iret C dX11_chips_4 hp
theorem c_X11_chips {l : Launch} {V : az_V} (hL : az_L V)  (M : az_M) {r : Int32} (h : f_X11_chips M = some r) : az_Ct l V yX11_chips cX11_chips 1 (some .int) 1 [.ref (az_ad V 0)] M (fun v M' => v = some (.int r) ∧ M' = M) :=
  az_Ct.of (by decide) (Nat.le_of_ble_eq_true rfl) (fun Y _ _ C => s_X11_chips_e C M r h ⟨rfl, rfl⟩)
set_option maxHeartbeats 4000000 in
set_option maxRecDepth 100000 in
theorem s_X11_orders_49 {Y : az_Y} {V : az_V} {post : Option Value → az_M → Prop} (C : az_C Y V cX11_orders 2 RX11 (some .int) 94) (G : Nat) : ∀ (F : Nat) (x1 : Int32) (M : az_M) (r : (Int32 × az_M)), f_X11_orders_49 (az_z V) G F x1 M = some r → post (some (.int r.1)) r.2 → AW Y V (az_end Y V post) 2 M 49 [(0, .ref (az_ad V 0)), (1, .int x1)] [] := by
  have o0 := C.hL.at 0 (ci := 11) rfl
  have o15 := C.hL.at 15 (ci := 5) rfl
  have o16 := C.hL.at 16 (ci := 10) rfl
  have o21 := C.hL.at 21 (ci := 1) rfl
  intro F
  induction F with
  | zero =>
    intro x1 M r h
    exact absurd (show (none : Option (Int32 × az_M)) = some r from h) (fun q => by cases q)
  | succ F ih =>
    intro x1 M r h hp
    rw [f_X11_orders_49] at h
    refine az_iload_n C 1 dX11_orders_49 rfl ?_
    refine az_aload_n C 0 dX11_orders_50 rfl ?_
    refine az_getr (r := 15) C o0 fl_X11_75 rfl rfl dX11_orders_51 ?_
    refine az_getr (r := 16) C o15 fl_X11_198 rfl rfl dX11_orders_54 ?_
    refine az_geti C o16 fl_X11_215 rfl dX11_orders_57 ?_
    refine az_icmp_ge C 106 dX11_orders_60 (by decide) (fun c8 => ?_) (fun c8 => ?_)
    · have h := az_t c8 h
      refine az_aload_n C 0 dX11_orders_106 rfl ?_
      refine az_aload_n C 0 dX11_orders_107 rfl ?_
      refine az_getr (r := 21) C o0 fl_X11_93 rfl rfl dX11_orders_108 ?_
      refine az_geti C o21 fl_X11_225 rfl dX11_orders_111 ?_
      obtain ⟨q9, e10, h⟩ := az_b h
      refine az_cV (rest := []) (st2 := [.int q9.1]) C [.int (M.1 21 0)] (c_X11_settle C.hL (M.1 21 0) M e10) (by decide) li_X11_209 o0 (by decide) rfl rfl (Nat.le_of_ble_eq_true rfl) dX11_orders_114 rfl ?_
      obtain rfl := Option.some.inj h
      exact az_iret C dX11_orders_117 hp
    · have h := az_f c8 h
      refine az_aload_n C 0 dX11_orders_63 rfl ?_
      refine az_getr (r := 21) C o0 fl_X11_93 rfl rfl dX11_orders_64 ?_
      refine az_aload_n C 0 dX11_orders_67 rfl ?_
      refine az_getr (r := 15) C o0 fl_X11_75 rfl rfl dX11_orders_68 ?_
      refine az_getr (r := 16) C o15 fl_X11_198 rfl rfl dX11_orders_71 ?_
      refine az_iload_n C 1 dX11_orders_74 rfl ?_
      obtain ⟨q11, e12, h⟩ := az_b h
      refine az_cV (rest := []) (st2 := [.int q11.1]) C [.ref (az_ad V 16), .int x1] (c_X1_runClause C.hL G 16 (C.hL.tx 16 rfl) x1 M e12) (by decide) li_X11_218 o21 (by decide) rfl rfl (Nat.le_of_ble_eq_true rfl) dX11_orders_75 rfl ?_
      refine az_if_ne C 100 dX11_orders_78 (by decide) (fun c13 => ?_) (fun c13 => ?_)
      · have h := az_f c13 h
        refine az_iinc (v := (x1 + 1)) C 1 dX11_orders_100 rfl rfl (by decide) rfl ?_
        refine az_goto C 49 dX11_orders_103 (by decide) ?_
        refine az_sub [1, 0] rfl ?_
        exact ih (x1 + 1) q11.2 r h hp
      · have h := az_t c13 h
        refine az_aload_n C 0 dX11_orders_81 rfl ?_
        refine az_iload_n C 1 dX11_orders_82 rfl ?_
        refine az_puti C o0 fl_X11_61 rfl rfl rfl rfl dX11_orders_83 ?_
        refine az_aload_n C 0 dX11_orders_86 rfl ?_
        refine az_getr (r := 21) C o0 fl_X11_93 rfl rfl dX11_orders_87 ?_
        obtain ⟨q14, e15, h⟩ := az_b h
        refine az_cV (rest := []) (st2 := []) C [] (c_X1_giveUp C.hL (az_i q11.2 0 15 x1) e15) (by decide) li_X11_222 o21 (by decide) rfl rfl (Nat.le_of_ble_eq_true rfl) dX11_orders_90 rfl ?_
        refine az_aload_n C 0 dX11_orders_93 rfl ?_
        refine az_bipush (v := (-3)) C dX11_orders_94 (by decide) ?_
        obtain ⟨q16, e17, h⟩ := az_b h
        refine az_cV (rest := []) (st2 := [.int q16.1]) C [.int (-3)] (c_X11_refuse C.hL (-3) q14 e17) (by decide) li_X11_116 o0 (by decide) rfl rfl (Nat.le_of_ble_eq_true rfl) dX11_orders_96 rfl ?_
        obtain rfl := Option.some.inj h
        exact az_iret C dX11_orders_99 hp
set_option maxHeartbeats 4000000 in
set_option maxRecDepth 100000 in
theorem s_X11_orders_e {Y : az_Y} {V : az_V} {post : Option Value → az_M → Prop} (C : az_C Y V cX11_orders 2 RX11 (some .int) 94) (G : Nat)  (M : az_M) (r : (Int32 × az_M)) (h : f_X11_orders (az_z V) G M = some r) (hp : post (some (.int r.1)) r.2) : AW Y V (az_end Y V post) 2 M 0 [(0, .ref (az_ad V 0))] [] := by
  have o0 := C.hL.at 0 (ci := 11) rfl
  have o5 := C.hL.at 5 (ci := 9) rfl
  have o15 := C.hL.at 15 (ci := 5) rfl
  have o21 := C.hL.at 21 (ci := 1) rfl
  unfold f_X11_orders at h
  refine az_aload_n C 0 dX11_orders_0 rfl ?_
  refine az_iconst (v := (-1)) C dX11_orders_1 (by decide) ?_
  refine az_puti C o0 fl_X11_61 rfl rfl rfl rfl dX11_orders_2 ?_
  refine az_aload_n C 0 dX11_orders_5 rfl ?_
  refine az_aload_n C 0 dX11_orders_6 rfl ?_
  refine az_getr (r := 15) C o0 fl_X11_75 rfl rfl dX11_orders_7 ?_
  refine az_iconst (v := 1) C dX11_orders_10 (by decide) ?_
  obtain ⟨q1, e2, h⟩ := az_b h
  refine az_cV (rest := [.ref (az_ad V 0)]) (st2 := [.int q1.1, .ref (az_ad V 0)]) C [.int 1] (c_X5_read C.hL G 1 (az_i M 0 15 (-1)) e2) (by decide) li_X11_192 o15 (by decide) rfl rfl (Nat.le_of_ble_eq_true rfl) dX11_orders_11 rfl ?_
  refine az_puti C o0 fl_X11_55 rfl rfl rfl rfl dX11_orders_14 ?_
  refine az_aload_n C 0 dX11_orders_17 rfl ?_
  refine az_getr (r := 5) C o0 fl_X11_28 rfl rfl dX11_orders_18 ?_
  refine az_iconst (v := 0) C dX11_orders_21 (by decide) ?_
  refine az_puti C o5 fl_X11_183 rfl rfl rfl rfl dX11_orders_22 ?_
  refine az_aload_n C 0 dX11_orders_25 rfl ?_
  refine az_geti C o0 fl_X11_55 rfl dX11_orders_26 ?_
  refine az_iconst (v := (-1)) C dX11_orders_29 (by decide) ?_
  refine az_icmp_eq C 40 dX11_orders_30 (by decide) (fun c3 => ?_) (fun c3 => ?_)
  · have h := az_t c3 h
    refine az_aload_n C 0 dX11_orders_40 rfl ?_
    refine az_getr (r := 21) C o0 fl_X11_93 rfl rfl dX11_orders_41 ?_
    obtain ⟨q4, e5, h⟩ := az_b h
    refine az_cV (rest := []) (st2 := []) C [] (c_X1_begin C.hL (az_i (az_i q1.2 0 13 q1.1) 5 1 0) e5) (by decide) li_X11_212 o21 (by decide) rfl rfl (Nat.le_of_ble_eq_true rfl) dX11_orders_44 rfl ?_
    refine az_iconst (v := 0) C dX11_orders_47 (by decide) ?_
    refine az_istore_n C dX11_orders_48 rfl (by decide) rfl ?_
    refine az_sub [1, 0] rfl ?_
    exact s_X11_orders_49 C G G 0 q4 r h hp
  · have h := az_f c3 h
    refine az_aload_n C 0 dX11_orders_33 rfl ?_
    refine az_bipush (v := (-6)) C dX11_orders_34 (by decide) ?_
    obtain ⟨q6, e7, h⟩ := az_b h
    refine az_cV (rest := []) (st2 := [.int q6.1]) C [.int (-6)] (c_X11_refuse C.hL (-6) (az_i (az_i q1.2 0 13 q1.1) 5 1 0) e7) (by decide) li_X11_116 o0 (by decide) rfl rfl (Nat.le_of_ble_eq_true rfl) dX11_orders_36 rfl ?_
    obtain rfl := Option.some.inj h
    exact az_iret C dX11_orders_39 hp
theorem c_X11_orders {l : Launch} {V : az_V} (hL : az_L V) (G : Nat)  (M : az_M) {r : (Int32 × az_M)} (h : f_X11_orders (az_z V) G M = some r) : az_Ct l V yX11_orders cX11_orders 2 (some .int) 94 [.ref (az_ad V 0)] M (fun v M' => v = some (.int r.1) ∧ M' = r.2) :=
  az_Ct.of (by decide) (Nat.le_of_ble_eq_true rfl) (fun Y _ _ C => s_X11_orders_e C G M r h ⟨rfl, rfl⟩)
set_option maxHeartbeats 4000000 in
set_option maxRecDepth 100000 in
theorem s_X11_fault_e {Y : az_Y} {V : az_V} {post : Option Value → az_M → Prop} (C : az_C Y V cX11_fault 1 RX11 (some .int) 1)  (M : az_M) (r : Int32) (h : f_X11_fault M = some r) (hp : post (some (.int r)) M) : AW Y V (az_end Y V post) 1 M 0 [(0, .ref (az_ad V 0))] [] := by
  have o0 := C.hL.at 0 (ci := 11) rfl
  unfold f_X11_fault at h
  refine az_aload_n C 0 dX11_fault_0 rfl ?_
  refine az_geti C o0 fl_X11_55 rfl dX11_fault_1 ?_
  obtain rfl := Option.some.inj h
  exact az_iret C dX11_fault_4 hp
theorem c_X11_fault {l : Launch} {V : az_V} (hL : az_L V)  (M : az_M) {r : Int32} (h : f_X11_fault M = some r) : az_Ct l V yX11_fault cX11_fault 1 (some .int) 1 [.ref (az_ad V 0)] M (fun v M' => v = some (.int r) ∧ M' = M) :=
  az_Ct.of (by decide) (Nat.le_of_ble_eq_true rfl) (fun Y _ _ C => s_X11_fault_e C M r h ⟨rfl, rfl⟩)
set_option maxHeartbeats 4000000 in
set_option maxRecDepth 100000 in
theorem s_X11_stopped_e {Y : az_Y} {V : az_V} {post : Option Value → az_M → Prop} (C : az_C Y V cX11_stopped 1 RX11 (some .int) 1)  (M : az_M) (r : Int32) (h : f_X11_stopped M = some r) (hp : post (some (.int r)) M) : AW Y V (az_end Y V post) 1 M 0 [(0, .ref (az_ad V 0))] [] := by
  have o0 := C.hL.at 0 (ci := 11) rfl
  unfold f_X11_stopped at h
  refine az_aload_n C 0 dX11_stopped_0 rfl ?_
  refine az_geti C o0 fl_X11_61 rfl dX11_stopped_1 ?_
  obtain rfl := Option.some.inj h
  exact az_iret C dX11_stopped_4 hp
theorem c_X11_stopped {l : Launch} {V : az_V} (hL : az_L V)  (M : az_M) {r : Int32} (h : f_X11_stopped M = some r) : az_Ct l V yX11_stopped cX11_stopped 1 (some .int) 1 [.ref (az_ad V 0)] M (fun v M' => v = some (.int r) ∧ M' = M) :=
  az_Ct.of (by decide) (Nat.le_of_ble_eq_true rfl) (fun Y _ _ C => s_X11_stopped_e C M r h ⟨rfl, rfl⟩)
