set_option maxHeartbeats 4000000 in
set_option maxRecDepth 100000 in
theorem s_X11_force_16 {Y : az_Y} {V : az_V} {post : Option Value → az_M → Prop} (C : az_C Y V cX11_force 3 RX11 (some .int) 3)  (M : az_M) (r : (Int32 × az_M)) (h : f_X11_force_16 M = some r) (hp : post (some (.int r.1)) r.2) : AW Y V (az_end Y V post) 3 M 16 [(0, .ref (az_ad V 0))] [] := by
  have o0 := C.hL.at 0 (ci := 11) rfl
  unfold f_X11_force_16 at h
  refine az_aload_n C 0 dX11_force_16 rfl ?_
  refine az_bipush (v := (-2)) C dX11_force_17 (by decide) ?_
  obtain ⟨q5, e6, h⟩ := az_b h
  refine az_cV (rest := []) (st2 := [.int q5.1]) C [.int (-2)] (c_X11_refuse C.hL (-2) M e6) (by decide) li_X11_116 o0 (by decide) rfl rfl (Nat.le_of_ble_eq_true rfl) dX11_force_19 rfl ?_
  obtain rfl := Option.some.inj h
  exact az_iret C dX11_force_22 hp
set_option maxHeartbeats 4000000 in
set_option maxRecDepth 100000 in
theorem s_X11_force_e {Y : az_Y} {V : az_V} {post : Option Value → az_M → Prop} (C : az_C Y V cX11_force 3 RX11 (some .int) 3) (p0 : Int32) (M : az_M) (r : (Int32 × az_M)) (h : f_X11_force p0 M = some r) (hp : post (some (.int r.1)) r.2) : AW Y V (az_end Y V post) 3 M 0 [(0, .ref (az_ad V 0)), (1, .int p0)] [] := by
  have o0 := C.hL.at 0 (ci := 11) rfl
  have o3 := C.hL.at 3 (ci := 0) rfl
  unfold f_X11_force at h
  refine az_iload_n C 1 dX11_force_0 rfl ?_
  refine az_iconst (v := (-1)) C dX11_force_1 (by decide) ?_
  refine az_icmp_lt C 16 dX11_force_2 (by decide) (fun c1 => ?_) (fun c1 => ?_)
  · have h := az_t c1 h
    refine az_sub [0] rfl ?_
    exact s_X11_force_16 C M r h hp
  · have h := az_f c1 h
    refine az_iload_n C 1 dX11_force_5 rfl ?_
    refine az_aload_n C 0 dX11_force_6 rfl ?_
    refine az_getr (r := 3) C o0 fl_X11_21 rfl rfl dX11_force_7 ?_
    refine az_geti C o3 fl_X11_189 rfl dX11_force_10 ?_
    refine az_icmp_lt C 23 dX11_force_13 (by decide) (fun c2 => ?_) (fun c2 => ?_)
    · have h := az_t c2 h
      refine az_aload_n C 0 dX11_force_23 rfl ?_
      refine az_getr (r := 3) C o0 fl_X11_21 rfl rfl dX11_force_24 ?_
      refine az_geti C o3 fl_X11_228 rfl dX11_force_27 ?_
      refine az_istore_n C dX11_force_30 rfl (by decide) rfl ?_
      refine az_aload_n C 1 dX11_force_31 rfl ?_
      refine az_getr (r := 3) C o0 fl_X11_21 rfl rfl dX11_force_32 ?_
      refine az_iload_n C 2 dX11_force_35 rfl ?_
      refine az_puti C o3 fl_X11_228 rfl rfl rfl rfl dX11_force_36 ?_
      refine az_aload_n C 1 dX11_force_39 rfl ?_
      refine az_iload_n C 0 dX11_force_40 rfl ?_
      obtain ⟨q3, e4, h⟩ := az_b h
      refine az_cV (rest := []) (st2 := [.int q3.1]) C [.int (M.1 3 2)] (c_X11_settle C.hL (M.1 3 2) (az_i M 3 2 p0) e4) (by decide) li_X11_209 o0 (by decide) rfl rfl (Nat.le_of_ble_eq_true rfl) dX11_force_41 rfl ?_
      obtain rfl := Option.some.inj h
      exact az_iret C dX11_force_44 hp
    · have h := az_f c2 h
      refine az_sub [0] rfl ?_
      exact s_X11_force_16 C M r h hp
theorem c_X11_force {l : Launch} {V : az_V} (hL : az_L V) (p0 : Int32) (M : az_M) {r : (Int32 × az_M)} (h : f_X11_force p0 M = some r) : az_Ct l V yX11_force cX11_force 3 (some .int) 3 [.ref (az_ad V 0), .int p0] M (fun v M' => v = some (.int r.1) ∧ M' = r.2) :=
  az_Ct.of (by decide) (Nat.le_of_ble_eq_true rfl) (fun Y _ _ C => s_X11_force_e C p0 M r h ⟨rfl, rfl⟩)
set_option maxHeartbeats 4000000 in
set_option maxRecDepth 100000 in
theorem s_X11_barred_22 {Y : az_Y} {V : az_V} {post : Option Value → az_M → Prop} (C : az_C Y V cX11_barred 3 RX11 (some .int) 4) (G : Nat)  (M : az_M) (r : (Int32 × az_M)) (h : f_X11_barred_22 (az_z V) G M = some r) (hp : post (some (.int r.1)) r.2) : AW Y V (az_end Y V post) 3 M 22 [] [] := by
  unfold f_X11_barred_22 at h
  refine az_iconst (v := (-1)) C dX11_barred_22 (by decide) ?_
  obtain rfl := Option.some.inj h
  exact az_iret C dX11_barred_23 hp
set_option maxHeartbeats 4000000 in
set_option maxRecDepth 100000 in
theorem s_X11_barred_e {Y : az_Y} {V : az_V} {post : Option Value → az_M → Prop} (C : az_C Y V cX11_barred 3 RX11 (some .int) 4) (G : Nat) (p0 : Int32) (p1 : Int32) (M : az_M) (r : (Int32 × az_M)) (h : f_X11_barred (az_z V) G p0 p1 M = some r) (hp : post (some (.int r.1)) r.2) : AW Y V (az_end Y V post) 3 M 0 [(0, .ref (az_ad V 0)), (1, .int p0), (2, .int p1)] [] := by
  have o0 := C.hL.at 0 (ci := 11) rfl
  have o1 := C.hL.at 1 (ci := 4) rfl
  have o19 := C.hL.at 19 (ci := 8) rfl
  unfold f_X11_barred at h
  refine az_aload_n C 0 dX11_barred_0 rfl ?_
  refine az_getr (r := 1) C o0 fl_X11_14 rfl rfl dX11_barred_1 ?_
  refine az_iload_n C 1 dX11_barred_4 rfl ?_
  obtain ⟨q1, e2, h⟩ := az_b h
  refine az_cV (rest := []) (st2 := [.int q1]) C [.int p0] (c_X4_hasPerson C.hL 1 (C.hL.pv 1 rfl) p0 M e2) (by decide) li_X11_153 o1 (by decide) rfl rfl (Nat.le_of_ble_eq_true rfl) dX11_barred_5 rfl ?_
  refine az_if_eq C 22 dX11_barred_8 (by decide) (fun c3 => ?_) (fun c3 => ?_)
  · have h := az_t c3 h
    refine az_sub [] rfl ?_
    exact s_X11_barred_22 C G M r h hp
  · have h := az_f c3 h
    refine az_aload_n C 0 dX11_barred_11 rfl ?_
    refine az_getr (r := 1) C o0 fl_X11_14 rfl rfl dX11_barred_12 ?_
    refine az_iload_n C 2 dX11_barred_15 rfl ?_
    obtain ⟨q4, e5, h⟩ := az_b h
    refine az_cV (rest := []) (st2 := [.int q4]) C [.int p1] (c_X4_hasPlace C.hL 1 (C.hL.pv 1 rfl) p1 M e5) (by decide) li_X11_141 o1 (by decide) rfl rfl (Nat.le_of_ble_eq_true rfl) dX11_barred_16 rfl ?_
    refine az_if_ne C 24 dX11_barred_19 (by decide) (fun c6 => ?_) (fun c6 => ?_)
    · have h := az_f c6 h
      refine az_aload_n C 0 dX11_barred_24 rfl ?_
      refine az_getr (r := 19) C o0 fl_X11_84 rfl rfl dX11_barred_25 ?_
      refine az_aload_n C 0 dX11_barred_28 rfl ?_
      refine az_getr (r := 1) C o0 fl_X11_14 rfl rfl dX11_barred_29 ?_
      refine az_iconst (v := 4) C dX11_barred_32 (by decide) ?_
      refine az_iload_n C 1 dX11_barred_33 rfl ?_
      refine az_iload_n C 2 dX11_barred_34 rfl ?_
      obtain ⟨q7, e8, h⟩ := az_b h
      refine az_cV (rest := []) (st2 := [.int q7.1]) C [.ref (az_ad V 1), .int 4, .int p0, .int p1] (c_X8_ask C.hL G 1 (C.hL.pv 1 rfl) 4 p0 p1 M e8) (by decide) li_X11_145 o19 (by decide) rfl rfl (Nat.le_of_ble_eq_true rfl) dX11_barred_35 rfl ?_
      obtain rfl := Option.some.inj h
      exact az_iret C dX11_barred_38 hp
    · have h := az_t c6 h
      refine az_sub [] rfl ?_
      exact s_X11_barred_22 C G M r h hp
theorem c_X11_barred {l : Launch} {V : az_V} (hL : az_L V) (G : Nat) (p0 : Int32) (p1 : Int32) (M : az_M) {r : (Int32 × az_M)} (h : f_X11_barred (az_z V) G p0 p1 M = some r) : az_Ct l V yX11_barred cX11_barred 3 (some .int) 4 [.ref (az_ad V 0), .int p0, .int p1] M (fun v M' => v = some (.int r.1) ∧ M' = r.2) :=
  az_Ct.of (by decide) (Nat.le_of_ble_eq_true rfl) (fun Y _ _ C => s_X11_barred_e C G p0 p1 M r h ⟨rfl, rfl⟩)
set_option maxHeartbeats 4000000 in
set_option maxRecDepth 100000 in
theorem s_X11_settleDeed_17 {Y : az_Y} {V : az_V} {post : Option Value → az_M → Prop} (C : az_C Y V cX11_settleDeed 2 RX11 (some .int) 3) (s0 : Int32) (M : az_M) (r : (Int32 × az_M)) (h : f_X11_settleDeed_17 s0 M = some r) (hp : post (some (.int r.1)) r.2) : AW Y V (az_end Y V post) 2 M 17 [] [.int s0] := by
  unfold f_X11_settleDeed_17 at h
  obtain rfl := Option.some.inj h
  exact az_iret C dX11_settleDeed_17 hp
set_option maxHeartbeats 4000000 in
set_option maxRecDepth 100000 in
theorem s_X11_settleDeed_e {Y : az_Y} {V : az_V} {post : Option Value → az_M → Prop} (C : az_C Y V cX11_settleDeed 2 RX11 (some .int) 3) (p0 : Int32) (M : az_M) (r : (Int32 × az_M)) (h : f_X11_settleDeed p0 M = some r) (hp : post (some (.int r.1)) r.2) : AW Y V (az_end Y V post) 2 M 0 [(0, .ref (az_ad V 0)), (1, .int p0)] [] := by
  have o0 := C.hL.at 0 (ci := 11) rfl
  unfold f_X11_settleDeed at h
  refine az_iload_n C 1 dX11_settleDeed_0 rfl ?_
  refine az_if_ge C 12 dX11_settleDeed_1 (by decide) (fun c1 => ?_) (fun c1 => ?_)
  · have h := az_t c1 h
    refine az_aload_n C 0 dX11_settleDeed_12 rfl ?_
    refine az_iload_n C 1 dX11_settleDeed_13 rfl ?_
    obtain ⟨q2, e3, h⟩ := az_b h
    refine az_cV (rest := []) (st2 := [.int q2.1]) C [.int p0] (c_X11_settle C.hL p0 M e3) (by decide) li_X11_209 o0 (by decide) rfl rfl (Nat.le_of_ble_eq_true rfl) dX11_settleDeed_14 rfl ?_
    refine az_sub [] rfl ?_
    exact s_X11_settleDeed_17 C q2.1 q2.2 r h hp
  · have h := az_f c1 h
    refine az_aload_n C 0 dX11_settleDeed_4 rfl ?_
    refine az_iload_n C 1 dX11_settleDeed_5 rfl ?_
    obtain ⟨q4, e5, h⟩ := az_b h
    refine az_cV (rest := []) (st2 := [.int q4.1]) C [.int p0] (c_X11_refuse C.hL p0 M e5) (by decide) li_X11_116 o0 (by decide) rfl rfl (Nat.le_of_ble_eq_true rfl) dX11_settleDeed_6 rfl ?_
    refine az_goto C 17 dX11_settleDeed_9 (by decide) ?_
    refine az_sub [] rfl ?_
    exact s_X11_settleDeed_17 C q4.1 q4.2 r h hp
theorem c_X11_settleDeed {l : Launch} {V : az_V} (hL : az_L V) (p0 : Int32) (M : az_M) {r : (Int32 × az_M)} (h : f_X11_settleDeed p0 M = some r) : az_Ct l V yX11_settleDeed cX11_settleDeed 2 (some .int) 3 [.ref (az_ad V 0), .int p0] M (fun v M' => v = some (.int r.1) ∧ M' = r.2) :=
  az_Ct.of (by decide) (Nat.le_of_ble_eq_true rfl) (fun Y _ _ C => s_X11_settleDeed_e C p0 M r h ⟨rfl, rfl⟩)
set_option maxHeartbeats 4000000 in
set_option maxRecDepth 100000 in
theorem s_X11_fire_e {Y : az_Y} {V : az_V} {post : Option Value → az_M → Prop} (C : az_C Y V cX11_fire 3 RX11 (some .int) 6) (G : Nat) (p0 : Int32) (p1 : Int32) (M : az_M) (r : (Int32 × az_M)) (h : f_X11_fire (az_z V) G p0 p1 M = some r) (hp : post (some (.int r.1)) r.2) : AW Y V (az_end Y V post) 3 M 0 [(0, .ref (az_ad V 0)), (1, .int p0), (2, .int p1)] [] := by
  have o0 := C.hL.at 0 (ci := 11) rfl
  have o21 := C.hL.at 21 (ci := 1) rfl
  unfold f_X11_fire at h
  refine az_aload_n C 0 dX11_fire_0 rfl ?_
  refine az_aload_n C 0 dX11_fire_1 rfl ?_
  refine az_getr (r := 21) C o0 fl_X11_93 rfl rfl dX11_fire_2 ?_
  refine az_iload_n C 1 dX11_fire_5 rfl ?_
  refine az_iload_n C 2 dX11_fire_6 rfl ?_
  obtain ⟨q1, e2, h⟩ := az_b h
  refine az_cV (rest := [.ref (az_ad V 0)]) (st2 := [.int q1.1, .ref (az_ad V 0)]) C [.int p0, .int p1] (c_X1_tryFire C.hL G p0 p1 M e2) (by decide) li_X11_231 o21 (by decide) rfl rfl (Nat.le_of_ble_eq_true rfl) dX11_fire_7 rfl ?_
  obtain ⟨q3, e4, h⟩ := az_b h
  refine az_cV (rest := []) (st2 := [.int q3.1]) C [.int q1.1] (c_X11_settleDeed C.hL q1.1 q1.2 e4) (by decide) li_X11_234 o0 (by decide) rfl rfl (Nat.le_of_ble_eq_true rfl) dX11_fire_10 rfl ?_
  obtain rfl := Option.some.inj h
  exact az_iret C dX11_fire_13 hp
theorem c_X11_fire {l : Launch} {V : az_V} (hL : az_L V) (G : Nat) (p0 : Int32) (p1 : Int32) (M : az_M) {r : (Int32 × az_M)} (h : f_X11_fire (az_z V) G p0 p1 M = some r) : az_Ct l V yX11_fire cX11_fire 3 (some .int) 6 [.ref (az_ad V 0), .int p0, .int p1] M (fun v M' => v = some (.int r.1) ∧ M' = r.2) :=
  az_Ct.of (by decide) (Nat.le_of_ble_eq_true rfl) (fun Y _ _ C => s_X11_fire_e C G p0 p1 M r h ⟨rfl, rfl⟩)
set_option maxHeartbeats 4000000 in
set_option maxRecDepth 100000 in
theorem s_X11_duel_e {Y : az_Y} {V : az_V} {post : Option Value → az_M → Prop} (C : az_C Y V cX11_duel 3 RX11 (some .int) 7) (G : Nat) (p0 : Int32) (p1 : Int32) (M : az_M) (r : (Int32 × az_M)) (h : f_X11_duel (az_z V) G p0 p1 M = some r) (hp : post (some (.int r.1)) r.2) : AW Y V (az_end Y V post) 3 M 0 [(0, .ref (az_ad V 0)), (1, .int p0), (2, .int p1)] [] := by
  have o0 := C.hL.at 0 (ci := 11) rfl
  have o21 := C.hL.at 21 (ci := 1) rfl
  unfold f_X11_duel at h
  refine az_aload_n C 0 dX11_duel_0 rfl ?_
  refine az_aload_n C 0 dX11_duel_1 rfl ?_
  refine az_getr (r := 21) C o0 fl_X11_93 rfl rfl dX11_duel_2 ?_
  refine az_iload_n C 1 dX11_duel_5 rfl ?_
  refine az_iload_n C 2 dX11_duel_6 rfl ?_
  obtain ⟨q1, e2, h⟩ := az_b h
  refine az_cV (rest := [.ref (az_ad V 0)]) (st2 := [.int q1.1, .ref (az_ad V 0)]) C [.int p0, .int p1] (c_X1_tryDuel C.hL G p0 p1 M e2) (by decide) li_X11_237 o21 (by decide) rfl rfl (Nat.le_of_ble_eq_true rfl) dX11_duel_7 rfl ?_
  obtain ⟨q3, e4, h⟩ := az_b h
  refine az_cV (rest := []) (st2 := [.int q3.1]) C [.int q1.1] (c_X11_settleDeed C.hL q1.1 q1.2 e4) (by decide) li_X11_234 o0 (by decide) rfl rfl (Nat.le_of_ble_eq_true rfl) dX11_duel_10 rfl ?_
  obtain rfl := Option.some.inj h
  exact az_iret C dX11_duel_13 hp
theorem c_X11_duel {l : Launch} {V : az_V} (hL : az_L V) (G : Nat) (p0 : Int32) (p1 : Int32) (M : az_M) {r : (Int32 × az_M)} (h : f_X11_duel (az_z V) G p0 p1 M = some r) : az_Ct l V yX11_duel cX11_duel 3 (some .int) 7 [.ref (az_ad V 0), .int p0, .int p1] M (fun v M' => v = some (.int r.1) ∧ M' = r.2) :=
  az_Ct.of (by decide) (Nat.le_of_ble_eq_true rfl) (fun Y _ _ C => s_X11_duel_e C G p0 p1 M r h ⟨rfl, rfl⟩)
set_option maxHeartbeats 4000000 in
set_option maxRecDepth 100000 in
theorem s_X11_rest_e {Y : az_Y} {V : az_V} {post : Option Value → az_M → Prop} (C : az_C Y V cX11_rest 2 RX11 (some .int) 4) (p0 : Int32) (M : az_M) (r : (Int32 × az_M)) (h : f_X11_rest p0 M = some r) (hp : post (some (.int r.1)) r.2) : AW Y V (az_end Y V post) 2 M 0 [(0, .ref (az_ad V 0)), (1, .int p0)] [] := by
  have o0 := C.hL.at 0 (ci := 11) rfl
  have o21 := C.hL.at 21 (ci := 1) rfl
  unfold f_X11_rest at h
  refine az_aload_n C 0 dX11_rest_0 rfl ?_
  refine az_aload_n C 0 dX11_rest_1 rfl ?_
  refine az_getr (r := 21) C o0 fl_X11_93 rfl rfl dX11_rest_2 ?_
  refine az_iload_n C 1 dX11_rest_5 rfl ?_
  obtain ⟨q1, e2, h⟩ := az_b h
  refine az_cV (rest := [.ref (az_ad V 0)]) (st2 := [.int q1.1, .ref (az_ad V 0)]) C [.int p0] (c_X1_tryRest C.hL p0 M e2) (by decide) li_X11_240 o21 (by decide) rfl rfl (Nat.le_of_ble_eq_true rfl) dX11_rest_6 rfl ?_
  obtain ⟨q3, e4, h⟩ := az_b h
  refine az_cV (rest := []) (st2 := [.int q3.1]) C [.int q1.1] (c_X11_settleDeed C.hL q1.1 q1.2 e4) (by decide) li_X11_234 o0 (by decide) rfl rfl (Nat.le_of_ble_eq_true rfl) dX11_rest_9 rfl ?_
  obtain rfl := Option.some.inj h
  exact az_iret C dX11_rest_12 hp
theorem c_X11_rest {l : Launch} {V : az_V} (hL : az_L V) (p0 : Int32) (M : az_M) {r : (Int32 × az_M)} (h : f_X11_rest p0 M = some r) : az_Ct l V yX11_rest cX11_rest 2 (some .int) 4 [.ref (az_ad V 0), .int p0] M (fun v M' => v = some (.int r.1) ∧ M' = r.2) :=
  az_Ct.of (by decide) (Nat.le_of_ble_eq_true rfl) (fun Y _ _ C => s_X11_rest_e C p0 M r h ⟨rfl, rfl⟩)
set_option maxHeartbeats 4000000 in
set_option maxRecDepth 100000 in
theorem s_X11_undo_e {Y : az_Y} {V : az_V} {post : Option Value → az_M → Prop} (C : az_C Y V cX11_undo 1 RX11 (some .int) 3)  (M : az_M) (r : (Int32 × az_M)) (h : f_X11_undo M = some r) (hp : post (some (.int r.1)) r.2) : AW Y V (az_end Y V post) 1 M 0 [(0, .ref (az_ad V 0))] [] := by
  have o0 := C.hL.at 0 (ci := 11) rfl
  have o7 := C.hL.at 7 (ci := 3) rfl
  unfold f_X11_undo at h
  refine az_aload_n C 0 dX11_undo_0 rfl ?_
  refine az_getr (r := 7) C o0 fl_X11_35 rfl rfl dX11_undo_1 ?_
  refine az_geti C o7 fl_X11_243 rfl dX11_undo_4 ?_
  refine az_if_ne C 17 dX11_undo_7 (by decide) (fun c1 => ?_) (fun c1 => ?_)
  · have h := az_f c1 h
    refine az_aload_n C 0 dX11_undo_17 rfl ?_
    refine az_aload_n C 0 dX11_undo_18 rfl ?_
    refine az_getr (r := 7) C o0 fl_X11_35 rfl rfl dX11_undo_19 ?_
    refine az_aload_n C 0 dX11_undo_22 rfl ?_
    refine az_getr (r := 1) C o0 fl_X11_14 rfl rfl dX11_undo_23 ?_
    obtain ⟨q2, e3, h⟩ := az_b h
    refine az_cV (rest := [.ref (az_ad V 0)]) (st2 := [.int q2.1, .ref (az_ad V 0)]) C [.ref (az_ad V 1)] (c_X3_takeBack C.hL 7 (C.hL.pa 7 rfl) 1 (C.hL.pv 1 rfl) M e3) (by decide) li_X11_244 o7 (by decide) rfl rfl (Nat.le_of_ble_eq_true rfl) dX11_undo_26 rfl ?_
    obtain ⟨q4, e5, h⟩ := az_b h
    refine az_cV (rest := []) (st2 := [.int q4.1]) C [.int q2.1] (c_X11_settle C.hL q2.1 q2.2 e5) (by decide) li_X11_209 o0 (by decide) rfl rfl (Nat.le_of_ble_eq_true rfl) dX11_undo_29 rfl ?_
    obtain rfl := Option.some.inj h
    exact az_iret C dX11_undo_32 hp
  · have h := az_t c1 h
    refine az_aload_n C 0 dX11_undo_10 rfl ?_
    refine az_bipush (v := (-3)) C dX11_undo_11 (by decide) ?_
    obtain ⟨q6, e7, h⟩ := az_b h
    refine az_cV (rest := []) (st2 := [.int q6.1]) C [.int (-3)] (c_X11_refuse C.hL (-3) M e7) (by decide) li_X11_116 o0 (by decide) rfl rfl (Nat.le_of_ble_eq_true rfl) dX11_undo_13 rfl ?_
    obtain rfl := Option.some.inj h
    exact az_iret C dX11_undo_16 hp
theorem c_X11_undo {l : Launch} {V : az_V} (hL : az_L V)  (M : az_M) {r : (Int32 × az_M)} (h : f_X11_undo M = some r) : az_Ct l V yX11_undo cX11_undo 1 (some .int) 3 [.ref (az_ad V 0)] M (fun v M' => v = some (.int r.1) ∧ M' = r.2) :=
  az_Ct.of (by decide) (Nat.le_of_ble_eq_true rfl) (fun Y _ _ C => s_X11_undo_e C M r h ⟨rfl, rfl⟩)
set_option maxHeartbeats 4000000 in
set_option maxRecDepth 100000 in
theorem s_X11_log_e {Y : az_Y} {V : az_V} {post : Option Value → az_M → Prop} (C : az_C Y V cX11_log 2 RX11 (some .int) 2) (p0 : Int32) (M : az_M) (r : Int32) (h : f_X11_log p0 M = some r) (hp : post (some (.int r)) M) : AW Y V (az_end Y V post) 2 M 0 [(0, .ref (az_ad V 0)), (1, .int p0)] [] := by
  have o0 := C.hL.at 0 (ci := 11) rfl
  have o1 := C.hL.at 1 (ci := 4) rfl
  unfold f_X11_log at h
  refine az_aload_n C 0 dX11_log_0 rfl ?_
  refine az_getr (r := 1) C o0 fl_X11_14 rfl rfl dX11_log_1 ?_
  refine az_iload_n C 1 dX11_log_4 rfl ?_
  obtain ⟨q1, e2, h⟩ := az_b h
  refine az_cV (rest := []) (st2 := [.int q1]) C [.int p0] (c_X4_shotAt C.hL 1 (C.hL.pv 1 rfl) p0 M e2) (by decide) li_X11_130 o1 (by decide) rfl rfl (Nat.le_of_ble_eq_true rfl) dX11_log_5 rfl ?_
  obtain rfl := Option.some.inj h
  exact az_iret C dX11_log_8 hp
theorem c_X11_log {l : Launch} {V : az_V} (hL : az_L V) (p0 : Int32) (M : az_M) {r : Int32} (h : f_X11_log p0 M = some r) : az_Ct l V yX11_log cX11_log 2 (some .int) 2 [.ref (az_ad V 0), .int p0] M (fun v M' => v = some (.int r) ∧ M' = M) :=
  az_Ct.of (by decide) (Nat.le_of_ble_eq_true rfl) (fun Y _ _ C => s_X11_log_e C p0 M r h ⟨rfl, rfl⟩)
set_option maxHeartbeats 4000000 in
set_option maxRecDepth 100000 in
theorem s_X11_odds_20 {Y : az_Y} {V : az_V} {post : Option Value → az_M → Prop} (C : az_C Y V cX11_odds 3 RX11 (some .int) 6) (G : Nat)  (M : az_M) (r : (Int32 × az_M)) (h : f_X11_odds_20 (az_z V) G M = some r) (hp : post (some (.int r.1)) r.2) : AW Y V (az_end Y V post) 3 M 20 [] [] := by
  unfold f_X11_odds_20 at h
  refine az_iconst (v := (-1)) C dX11_odds_20 (by decide) ?_
  obtain rfl := Option.some.inj h
  exact az_iret C dX11_odds_21 hp
set_option maxHeartbeats 4000000 in
set_option maxRecDepth 100000 in
theorem s_X11_odds_e {Y : az_Y} {V : az_V} {post : Option Value → az_M → Prop} (C : az_C Y V cX11_odds 3 RX11 (some .int) 6) (G : Nat) (p0 : Int32) (p1 : Int32) (M : az_M) (r : (Int32 × az_M)) (h : f_X11_odds (az_z V) G p0 p1 M = some r) (hp : post (some (.int r.1)) r.2) : AW Y V (az_end Y V post) 3 M 0 [(0, .ref (az_ad V 0)), (1, .int p0), (2, .int p1)] [] := by
  have o0 := C.hL.at 0 (ci := 11) rfl
  have o1 := C.hL.at 1 (ci := 4) rfl
  have o28 := C.hL.at 28 (ci := 2) rfl
  unfold f_X11_odds at h
  refine az_aload_n C 0 dX11_odds_0 rfl ?_
  refine az_getr (r := 1) C o0 fl_X11_14 rfl rfl dX11_odds_1 ?_
  refine az_iload_n C 1 dX11_odds_4 rfl ?_
  obtain ⟨q1, e2, h⟩ := az_b h
  refine az_cV (rest := []) (st2 := [.int q1]) C [.int p0] (c_X4_hasQuarrel C.hL 1 (C.hL.pv 1 rfl) p0 M e2) (by decide) li_X11_163 o1 (by decide) rfl rfl (Nat.le_of_ble_eq_true rfl) dX11_odds_5 rfl ?_
  refine az_if_eq C 20 dX11_odds_8 (by decide) (fun c3 => ?_) (fun c3 => ?_)
  · have h := az_t c3 h
    refine az_sub [] rfl ?_
    exact s_X11_odds_20 C G M r h hp
  · have h := az_f c3 h
    refine az_iload_n C 2 dX11_odds_11 rfl ?_
    refine az_if_lt C 20 dX11_odds_12 (by decide) (fun c4 => ?_) (fun c4 => ?_)
    · have h := az_t c4 h
      refine az_sub [] rfl ?_
      exact s_X11_odds_20 C G M r h hp
    · have h := az_f c4 h
      refine az_iload_n C 2 dX11_odds_15 rfl ?_
      refine az_iconst (v := 3) C dX11_odds_16 (by decide) ?_
      refine az_icmp_le C 22 dX11_odds_17 (by decide) (fun c5 => ?_) (fun c5 => ?_)
      · have h := az_t c5 h
        refine az_aload_n C 0 dX11_odds_22 rfl ?_
        refine az_getr (r := 28) C o0 fl_X11_102 rfl rfl dX11_odds_23 ?_
        refine az_iload_n C 1 dX11_odds_26 rfl ?_
        refine az_iload_n C 2 dX11_odds_27 rfl ?_
        obtain ⟨q6, e7, h⟩ := az_b h
        refine az_cV (rest := []) (st2 := [.int q6.1]) C [.int p0, .int p1] (c_X2_oddsOf C.hL G p0 p1 M e7) (by decide) li_X11_248 o28 (by decide) rfl rfl (Nat.le_of_ble_eq_true rfl) dX11_odds_28 rfl ?_
        obtain rfl := Option.some.inj h
        exact az_iret C dX11_odds_31 hp
      · have h := az_f c5 h
        refine az_sub [] rfl ?_
        exact s_X11_odds_20 C G M r h hp
theorem c_X11_odds {l : Launch} {V : az_V} (hL : az_L V) (G : Nat) (p0 : Int32) (p1 : Int32) (M : az_M) {r : (Int32 × az_M)} (h : f_X11_odds (az_z V) G p0 p1 M = some r) : az_Ct l V yX11_odds cX11_odds 3 (some .int) 6 [.ref (az_ad V 0), .int p0, .int p1] M (fun v M' => v = some (.int r.1) ∧ M' = r.2) :=
  az_Ct.of (by decide) (Nat.le_of_ble_eq_true rfl) (fun Y _ _ C => s_X11_odds_e C G p0 p1 M r h ⟨rfl, rfl⟩)
set_option maxHeartbeats 4000000 in
set_option maxRecDepth 100000 in
theorem s_X11_queue_113 {Y : az_Y} {V : az_V} {post : Option Value → az_M → Prop} (C : az_C Y V cX11_queue 3 RX11 (some .int) 18) (G : Nat)  (M : az_M) (r : (Int32 × az_M)) (h : f_X11_queue_113 (az_z V) G M = some r) (hp : post (some (.int r.1)) r.2) : AW Y V (az_end Y V post) 3 M 113 [] [] := by
  unfold f_X11_queue_113 at h
  refine az_iconst (v := (-1)) C dX11_queue_113 (by decide) ?_
  obtain rfl := Option.some.inj h
  exact az_iret C dX11_queue_114 hp
set_option maxHeartbeats 4000000 in
set_option maxRecDepth 100000 in
theorem s_X11_queue_83 {Y : az_Y} {V : az_V} {post : Option Value → az_M → Prop} (C : az_C Y V cX11_queue 3 RX11 (some .int) 18) (G : Nat) (x1 : Int32) (x2 : Int32) (M : az_M) (r : (Int32 × az_M)) (h : f_X11_queue_83 (az_z V) G x1 x2 M = some r) (hp : post (some (.int r.1)) r.2) : AW Y V (az_end Y V post) 3 M 83 [(0, .ref (az_ad V 0)), (1, .int x1), (2, .int x2)] [] := by
  have o0 := C.hL.at 0 (ci := 11) rfl
  have o34 := C.hL.at 34 (ci := 7) rfl
  unfold f_X11_queue_83 at h
  refine az_iload_n C 1 dX11_queue_83 rfl ?_
  refine az_bipush (v := 11) C dX11_queue_84 (by decide) ?_
  refine az_icmp_lt C 113 dX11_queue_86 (by decide) (fun c10 => ?_) (fun c10 => ?_)
  · have h := az_t c10 h
    refine az_sub [] rfl ?_
    exact s_X11_queue_113 C G M r h hp
  · have h := az_f c10 h
    refine az_iload_n C 1 dX11_queue_89 rfl ?_
    refine az_bipush (v := 11) C dX11_queue_90 (by decide) ?_
    refine az_iload_n C 2 dX11_queue_92 rfl ?_
    refine az_iadd C dX11_queue_93 ?_
    refine az_icmp_ge C 113 dX11_queue_94 (by decide) (fun c11 => ?_) (fun c11 => ?_)
    · have h := az_t c11 h
      refine az_sub [] rfl ?_
      exact s_X11_queue_113 C G M r h hp
    · have h := az_f c11 h
      refine az_aload_n C 0 dX11_queue_97 rfl ?_
      refine az_getr (r := 34) C o0 fl_X11_109 rfl rfl dX11_queue_98 ?_
      refine az_geti C o34 fl_X11_265 rfl dX11_queue_101 ?_
      refine az_iload_n C 2 dX11_queue_104 rfl ?_
      refine az_iload_n C 1 dX11_queue_105 rfl ?_
      refine az_bipush (v := 11) C dX11_queue_106 (by decide) ?_
      refine az_isub C dX11_queue_108 ?_
      obtain ⟨q12, e13, h⟩ := az_b h
      refine az_cS (rest := []) (st2 := [.int q12]) C [.int (M.1 34 2), .int x2, .int (x1 - 11)] (c_X7_inRow C.hL (M.1 34 2) x2 (x1 - 11) M e13) (by decide) li_X11_262 rfl rfl (Nat.le_of_ble_eq_true rfl) dX11_queue_109 rfl ?_
      obtain rfl := Option.some.inj h
      exact az_iret C dX11_queue_112 hp
set_option maxHeartbeats 4000000 in
set_option maxRecDepth 100000 in
theorem s_X11_queue_e {Y : az_Y} {V : az_V} {post : Option Value → az_M → Prop} (C : az_C Y V cX11_queue 3 RX11 (some .int) 18) (G : Nat) (p0 : Int32) (M : az_M) (r : (Int32 × az_M)) (h : f_X11_queue (az_z V) G p0 M = some r) (hp : post (some (.int r.1)) r.2) : AW Y V (az_end Y V post) 3 M 0 [(0, .ref (az_ad V 0)), (1, .int p0)] [] := by
  have o0 := C.hL.at 0 (ci := 11) rfl
  have o1 := C.hL.at 1 (ci := 4) rfl
  have o34 := C.hL.at 34 (ci := 7) rfl
  have a2 := C.hL.ar 2 (t := 0) (len := 145) rfl
  unfold f_X11_queue at h
  refine az_aload_n C 0 dX11_queue_0 rfl ?_
  refine az_getr (r := 34) C o0 fl_X11_109 rfl rfl dX11_queue_1 ?_
  obtain ⟨q1, e2, h⟩ := az_b h
  refine az_cV (rest := []) (st2 := []) C [] (c_X7_lookForRows C.hL G M e2) (by decide) li_X11_251 o34 (by decide) rfl rfl (Nat.le_of_ble_eq_true rfl) dX11_queue_4 rfl ?_
  refine az_iload_n C 1 dX11_queue_7 rfl ?_
  refine az_if_ne C 19 dX11_queue_8 (by decide) (fun c3 => ?_) (fun c3 => ?_)
  · have h := az_f c3 h
    refine az_aload_n C 0 dX11_queue_19 rfl ?_
    refine az_getr (r := 34) C o0 fl_X11_109 rfl rfl dX11_queue_20 ?_
    refine az_geti C o34 fl_X11_254 rfl dX11_queue_23 ?_
    refine az_if_ne C 31 dX11_queue_26 (by decide) (fun c4 => ?_) (fun c4 => ?_)
    · have h := az_f c4 h
      refine az_iload_n C 1 dX11_queue_31 rfl ?_
      refine az_bipush (v := 21) C dX11_queue_32 (by decide) ?_
      refine az_icmp_ne C 45 dX11_queue_34 (by decide) (fun c5 => ?_) (fun c5 => ?_)
      · have h := az_f c5 h
        refine az_aload_n C 0 dX11_queue_45 rfl ?_
        refine az_getr (r := 1) C o0 fl_X11_14 rfl rfl dX11_queue_46 ?_
        refine az_getr (r := 2) C o1 fl_X11_120 rfl rfl dX11_queue_49 ?_
        refine az_bipush (v := 25) C dX11_queue_52 (by decide) ?_
        refine az_ild (k := 25) C a2 (az_vin (by decide)) (by decide) dX11_queue_54 ?_
        refine az_istore_n C dX11_queue_55 rfl (by decide) rfl ?_
        refine az_iload_n C 2 dX11_queue_56 rfl ?_
        refine az_iconst (v := 1) C dX11_queue_57 (by decide) ?_
        refine az_icmp_lt C 83 dX11_queue_58 (by decide) (fun c6 => ?_) (fun c6 => ?_)
        · have h := az_t c6 h
          refine az_sub [1, 2, 0] rfl ?_
          exact s_X11_queue_83 C G p0 (q1.1 2 25) q1 r h hp
        · have h := az_f c6 h
          refine az_iload_n C 2 dX11_queue_61 rfl ?_
          refine az_iconst (v := 1) C dX11_queue_62 (by decide) ?_
          refine az_iload_n C 0 dX11_queue_63 rfl ?_
          refine az_iadd C dX11_queue_64 ?_
          refine az_icmp_ge C 83 dX11_queue_65 (by decide) (fun c7 => ?_) (fun c7 => ?_)
          · have h := az_t c7 h
            refine az_sub [1, 2, 0] rfl ?_
            exact s_X11_queue_83 C G p0 (q1.1 2 25) q1 r h hp
          · have h := az_f c7 h
            refine az_aload_n C 1 dX11_queue_68 rfl ?_
            refine az_getr (r := 34) C o0 fl_X11_109 rfl rfl dX11_queue_69 ?_
            refine az_geti C o34 fl_X11_259 rfl dX11_queue_72 ?_
            refine az_iload_n C 0 dX11_queue_75 rfl ?_
            refine az_iload_n C 2 dX11_queue_76 rfl ?_
            refine az_iconst (v := 1) C dX11_queue_77 (by decide) ?_
            refine az_isub C dX11_queue_78 ?_
            obtain ⟨q8, e9, h⟩ := az_b h
            refine az_cS (rest := []) (st2 := [.int q8]) C [.int (q1.1 34 1), .int (q1.1 2 25), .int (p0 - 1)] (c_X7_inRow C.hL (q1.1 34 1) (q1.1 2 25) (p0 - 1) q1 e9) (by decide) li_X11_262 rfl rfl (Nat.le_of_ble_eq_true rfl) dX11_queue_79 rfl ?_
            obtain rfl := Option.some.inj h
            exact az_iret C dX11_queue_82 hp
      · have h := az_t c5 h
        refine az_aload_n C 0 dX11_queue_37 rfl ?_
        refine az_getr (r := 34) C o0 fl_X11_109 rfl rfl dX11_queue_38 ?_
        refine az_geti C o34 fl_X11_256 rfl dX11_queue_41 ?_
        obtain rfl := Option.some.inj h
        exact az_iret C dX11_queue_44 hp
    · have h := az_t c4 h
      refine az_iconst (v := (-1)) C dX11_queue_29 (by decide) ?_
      obtain rfl := Option.some.inj h
      exact az_iret C dX11_queue_30 hp
  · have h := az_t c3 h
    refine az_aload_n C 0 dX11_queue_11 rfl ?_
    refine az_getr (r := 34) C o0 fl_X11_109 rfl rfl dX11_queue_12 ?_
    refine az_geti C o34 fl_X11_254 rfl dX11_queue_15 ?_
    obtain rfl := Option.some.inj h
    exact az_iret C dX11_queue_18 hp
theorem c_X11_queue {l : Launch} {V : az_V} (hL : az_L V) (G : Nat) (p0 : Int32) (M : az_M) {r : (Int32 × az_M)} (h : f_X11_queue (az_z V) G p0 M = some r) : az_Ct l V yX11_queue cX11_queue 3 (some .int) 18 [.ref (az_ad V 0), .int p0] M (fun v M' => v = some (.int r.1) ∧ M' = r.2) :=
  az_Ct.of (by decide) (Nat.le_of_ble_eq_true rfl) (fun Y _ _ C => s_X11_queue_e C G p0 M r h ⟨rfl, rfl⟩)
set_option maxHeartbeats 4000000 in
set_option maxRecDepth 100000 in
theorem s_X11_spades_e {Y : az_Y} {V : az_V} {post : Option Value → az_M → Prop} (C : az_C Y V cX11_spades 1 RX11 (some .int) 18) (G : Nat)  (M : az_M) (r : (Int32 × az_M)) (h : f_X11_spades (az_z V) G M = some r) (hp : post (some (.int r.1)) r.2) : AW Y V (az_end Y V post) 1 M 0 [(0, .ref (az_ad V 0))] [] := by
  have o0 := C.hL.at 0 (ci := 11) rfl
  have o34 := C.hL.at 34 (ci := 7) rfl
  unfold f_X11_spades at h
  refine az_aload_n C 0 dX11_spades_0 rfl ?_
  refine az_getr (r := 34) C o0 fl_X11_109 rfl rfl dX11_spades_1 ?_
  obtain ⟨q1, e2, h⟩ := az_b h
  refine az_cV (rest := []) (st2 := [.int q1.1]) C [] (c_X7_fewestSpades C.hL G M e2) (by decide) li_X11_268 o34 (by decide) rfl rfl (Nat.le_of_ble_eq_true rfl) dX11_spades_4 rfl ?_
  obtain rfl := Option.some.inj h
  exact az_iret C dX11_spades_7 hp
theorem c_X11_spades {l : Launch} {V : az_V} (hL : az_L V) (G : Nat)  (M : az_M) {r : (Int32 × az_M)} (h : f_X11_spades (az_z V) G M = some r) : az_Ct l V yX11_spades cX11_spades 1 (some .int) 18 [.ref (az_ad V 0)] M (fun v M' => v = some (.int r.1) ∧ M' = r.2) :=
  az_Ct.of (by decide) (Nat.le_of_ble_eq_true rfl) (fun Y _ _ C => s_X11_spades_e C G M r h ⟨rfl, rfl⟩)
set_option maxHeartbeats 4000000 in
set_option maxRecDepth 100000 in
theorem s_X11_free_9 {Y : az_Y} {V : az_V} {post : Option Value → az_M → Prop} (C : az_C Y V cX11_free 3 RX11 (some .int) 3) (G : Nat)  (M : az_M) (r : Int32) (h : f_X11_free_9 G M = some r) (hp : post (some (.int r)) M) : AW Y V (az_end Y V post) 3 M 9 [] [] := by
  unfold f_X11_free_9 at h
  refine az_iconst (v := (-1)) C dX11_free_9 (by decide) ?_
  obtain rfl := Option.some.inj h
  exact az_iret C dX11_free_10 hp
set_option maxHeartbeats 4000000 in
set_option maxRecDepth 100000 in
theorem s_X11_free_31 {Y : az_Y} {V : az_V} {post : Option Value → az_M → Prop} (C : az_C Y V cX11_free 3 RX11 (some .int) 3) (G : Nat) (s0 : Int32) (M : az_M) (r : Int32) (h : f_X11_free_31 G s0 M = some r) (hp : post (some (.int r)) M) : AW Y V (az_end Y V post) 3 M 31 [] [.int s0] := by
  unfold f_X11_free_31 at h
  obtain rfl := Option.some.inj h
  exact az_iret C dX11_free_31 hp
set_option maxHeartbeats 4000000 in
set_option maxRecDepth 100000 in
theorem s_X11_free_e {Y : az_Y} {V : az_V} {post : Option Value → az_M → Prop} (C : az_C Y V cX11_free 3 RX11 (some .int) 3) (G : Nat) (p0 : Int32) (M : az_M) (r : Int32) (h : f_X11_free G p0 M = some r) (hp : post (some (.int r)) M) : AW Y V (az_end Y V post) 3 M 0 [(0, .ref (az_ad V 0)), (1, .int p0)] [] := by
  have o0 := C.hL.at 0 (ci := 11) rfl
  have o28 := C.hL.at 28 (ci := 2) rfl
  unfold f_X11_free at h
  refine az_iload_n C 1 dX11_free_0 rfl ?_
  refine az_if_lt C 9 dX11_free_1 (by decide) (fun c1 => ?_) (fun c1 => ?_)
  · have h := az_t c1 h
    refine az_sub [] rfl ?_
    exact s_X11_free_9 C G M r h hp
  · have h := az_f c1 h
    refine az_iload_n C 1 dX11_free_4 rfl ?_
    refine az_iconst (v := 1) C dX11_free_5 (by decide) ?_
    refine az_icmp_le C 11 dX11_free_6 (by decide) (fun c2 => ?_) (fun c2 => ?_)
    · have h := az_t c2 h
      refine az_aload_n C 0 dX11_free_11 rfl ?_
      refine az_getr (r := 28) C o0 fl_X11_102 rfl rfl dX11_free_12 ?_
      obtain ⟨q3, e4, h⟩ := az_b h
      refine az_cV (rest := []) (st2 := [.int q3]) C [] (c_X2_freeQuarrels C.hL G M e4) (by decide) li_X11_272 o28 (by decide) rfl rfl (Nat.le_of_ble_eq_true rfl) dX11_free_15 rfl ?_
      refine az_istore_n C dX11_free_18 rfl (by decide) rfl ?_
      refine az_iload_n C 2 dX11_free_19 rfl ?_
      refine az_if_ne C 30 dX11_free_20 (by decide) (fun c5 => ?_) (fun c5 => ?_)
      · have h := az_f c5 h
        refine az_iload_n C 0 dX11_free_30 rfl ?_
        refine az_sub [] rfl ?_
        exact s_X11_free_31 C G q3 M r h hp
      · have h := az_t c5 h
        refine az_iload_n C 0 dX11_free_23 rfl ?_
        obtain ⟨q6, e7, h⟩ := az_b h
        refine az_cS (rest := []) (st2 := [.int q6]) C [.int q3] (c_J6_bitCount_0f7a4 C.hL q3 M e7) (by decide) li_X11_275 rfl rfl (Nat.le_of_ble_eq_true rfl) dX11_free_24 rfl ?_
        refine az_goto C 31 dX11_free_27 (by decide) ?_
        refine az_sub [] rfl ?_
        exact s_X11_free_31 C G q6 M r h hp
    · have h := az_f c2 h
      refine az_sub [] rfl ?_
      exact s_X11_free_9 C G M r h hp
theorem c_X11_free {l : Launch} {V : az_V} (hL : az_L V) (G : Nat) (p0 : Int32) (M : az_M) {r : Int32} (h : f_X11_free G p0 M = some r) : az_Ct l V yX11_free cX11_free 3 (some .int) 3 [.ref (az_ad V 0), .int p0] M (fun v M' => v = some (.int r) ∧ M' = M) :=
  az_Ct.of (by decide) (Nat.le_of_ble_eq_true rfl) (fun Y _ _ C => s_X11_free_e C G p0 M r h ⟨rfl, rfl⟩)
set_option maxHeartbeats 4000000 in
set_option maxRecDepth 100000 in
theorem s_X11_canBeWeighed_26 {Y : az_Y} {V : az_V} {post : Option Value → az_M → Prop} (C : az_C Y V cX11_canBeWeighed 2 RX11 (some .boolean) 1) (s0 : Int32) (M : az_M) (r : Int32) (h : f_X11_canBeWeighed_26 s0 M = some r) (hp : post (some (.int r)) M) : AW Y V (az_end Y V post) 2 M 26 [] [.int s0] := by
  unfold f_X11_canBeWeighed_26 at h
  obtain ⟨g5, h⟩ := az_g2 h
  obtain rfl := Option.some.inj h
  exact az_zret C dX11_canBeWeighed_26 (az_nz g5) hp
set_option maxHeartbeats 4000000 in
set_option maxRecDepth 100000 in
theorem s_X11_canBeWeighed_25 {Y : az_Y} {V : az_V} {post : Option Value → az_M → Prop} (C : az_C Y V cX11_canBeWeighed 2 RX11 (some .boolean) 1)  (M : az_M) (r : Int32) (h : f_X11_canBeWeighed_25 M = some r) (hp : post (some (.int r)) M) : AW Y V (az_end Y V post) 2 M 25 [] [] := by
  unfold f_X11_canBeWeighed_25 at h
  refine az_iconst (v := 0) C dX11_canBeWeighed_25 (by decide) ?_
  exact s_X11_canBeWeighed_26 C 0 M r h hp
set_option maxHeartbeats 4000000 in
set_option maxRecDepth 100000 in
theorem s_X11_canBeWeighed_e {Y : az_Y} {V : az_V} {post : Option Value → az_M → Prop} (C : az_C Y V cX11_canBeWeighed 2 RX11 (some .boolean) 1) (p0 : Int32) (p1 : Int32) (M : az_M) (r : Int32) (h : f_X11_canBeWeighed p0 p1 M = some r) (hp : post (some (.int r)) M) : AW Y V (az_end Y V post) 2 M 0 [(0, .int p0), (1, .int p1)] [] := by
  unfold f_X11_canBeWeighed at h
  refine az_iload_n C 0 dX11_canBeWeighed_0 rfl ?_
  refine az_if_lt C 25 dX11_canBeWeighed_1 (by decide) (fun c1 => ?_) (fun c1 => ?_)
  · have h := az_t c1 h
    refine az_sub [] rfl ?_
    exact s_X11_canBeWeighed_25 C M r h hp
  · have h := az_f c1 h
    refine az_iload_n C 0 dX11_canBeWeighed_4 rfl ?_
    refine az_sipush (v := 999) C dX11_canBeWeighed_5 (by decide) ?_
    refine az_icmp_gt C 25 dX11_canBeWeighed_8 (by decide) (fun c2 => ?_) (fun c2 => ?_)
    · have h := az_t c2 h
      refine az_sub [] rfl ?_
      exact s_X11_canBeWeighed_25 C M r h hp
    · have h := az_f c2 h
      refine az_iload_n C 1 dX11_canBeWeighed_11 rfl ?_
      refine az_if_lt C 25 dX11_canBeWeighed_12 (by decide) (fun c3 => ?_) (fun c3 => ?_)
      · have h := az_t c3 h
        refine az_sub [] rfl ?_
        exact s_X11_canBeWeighed_25 C M r h hp
      · have h := az_f c3 h
        refine az_iload_n C 1 dX11_canBeWeighed_15 rfl ?_
        refine az_bipush (v := 99) C dX11_canBeWeighed_16 (by decide) ?_
        refine az_icmp_gt C 25 dX11_canBeWeighed_18 (by decide) (fun c4 => ?_) (fun c4 => ?_)
        · have h := az_t c4 h
          refine az_sub [] rfl ?_
          exact s_X11_canBeWeighed_25 C M r h hp
        · have h := az_f c4 h
          refine az_iconst (v := 1) C dX11_canBeWeighed_21 (by decide) ?_
          refine az_goto C 26 dX11_canBeWeighed_22 (by decide) ?_
          refine az_sub [] rfl ?_
          exact s_X11_canBeWeighed_26 C 1 M r h hp
theorem c_X11_canBeWeighed {l : Launch} {V : az_V} (hL : az_L V) (p0 : Int32) (p1 : Int32) (M : az_M) {r : Int32} (h : f_X11_canBeWeighed p0 p1 M = some r) : az_Ct l V yX11_canBeWeighed cX11_canBeWeighed 2 (some .boolean) 1 [.int p0, .int p1] M (fun v M' => v = some (.int r) ∧ M' = M) :=
  az_Ct.of (by decide) (Nat.le_of_ble_eq_true rfl) (fun Y _ _ C => s_X11_canBeWeighed_e C p0 p1 M r h ⟨rfl, rfl⟩)
set_option maxHeartbeats 4000000 in
set_option maxRecDepth 100000 in
theorem s_X11_marks_30 {Y : az_Y} {V : az_V} {post : Option Value → az_M → Prop} (C : az_C Y V cX11_marks 5 RX11 (some .int) 17) (G : Nat)  (M : az_M) (r : (Int32 × az_M)) (h : f_X11_marks_30 (az_z V) G M = some r) (hp : post (some (.int r.1)) r.2) : AW Y V (az_end Y V post) 5 M 30 [] [] := by
  unfold f_X11_marks_30 at h
  refine az_iconst (v := (-1)) C dX11_marks_30 (by decide) ?_
  obtain rfl := Option.some.inj h
  exact az_iret C dX11_marks_31 hp
set_option maxHeartbeats 4000000 in
set_option maxRecDepth 100000 in
theorem s_X11_marks_83 {Y : az_Y} {V : az_V} {post : Option Value → az_M → Prop} (C : az_C Y V cX11_marks 5 RX11 (some .int) 17) (G : Nat) (s0 : Int32) (M : az_M) (r : (Int32 × az_M)) (h : f_X11_marks_83 (az_z V) G s0 M = some r) (hp : post (some (.int r.1)) r.2) : AW Y V (az_end Y V post) 5 M 83 [] [.int s0] := by
  unfold f_X11_marks_83 at h
  obtain rfl := Option.some.inj h
  exact az_iret C dX11_marks_83 hp
set_option maxHeartbeats 4000000 in
set_option maxRecDepth 100000 in
theorem s_X11_marks_e {Y : az_Y} {V : az_V} {post : Option Value → az_M → Prop} (C : az_C Y V cX11_marks 5 RX11 (some .int) 17) (G : Nat) (p0 : Int32) (p1 : Int32) (p2 : Int32) (p3 : Int32) (M : az_M) (r : (Int32 × az_M)) (h : f_X11_marks (az_z V) G p0 p1 p2 p3 M = some r) (hp : post (some (.int r.1)) r.2) : AW Y V (az_end Y V post) 5 M 0 [(0, .ref (az_ad V 0)), (1, .int p0), (2, .int p1), (3, .int p2), (4, .int p3)] [] := by
  have o0 := C.hL.at 0 (ci := 11) rfl
  have o34 := C.hL.at 34 (ci := 7) rfl
  unfold f_X11_marks at h
  refine az_iload_n C 1 dX11_marks_0 rfl ?_
  refine az_iconst (v := 1) C dX11_marks_1 (by decide) ?_
  refine az_icmp_lt C 30 dX11_marks_2 (by decide) (fun c1 => ?_) (fun c1 => ?_)
  · have h := az_t c1 h
    refine az_sub [] rfl ?_
    exact s_X11_marks_30 C G M r h hp
  · have h := az_f c1 h
    refine az_iload_n C 1 dX11_marks_5 rfl ?_
    refine az_iconst (v := 3) C dX11_marks_6 (by decide) ?_
    refine az_icmp_gt C 30 dX11_marks_7 (by decide) (fun c2 => ?_) (fun c2 => ?_)
    · have h := az_t c2 h
      refine az_sub [] rfl ?_
      exact s_X11_marks_30 C G M r h hp
    · have h := az_f c2 h
      refine az_iload C 4 dX11_marks_10 rfl ?_
      refine az_iconst (v := (-1)) C dX11_marks_12 (by decide) ?_
      refine az_icmp_lt C 30 dX11_marks_13 (by decide) (fun c3 => ?_) (fun c3 => ?_)
      · have h := az_t c3 h
        refine az_sub [] rfl ?_
        exact s_X11_marks_30 C G M r h hp
      · have h := az_f c3 h
        refine az_iload C 4 dX11_marks_16 rfl ?_
        refine az_iload_n C 1 dX11_marks_18 rfl ?_
        refine az_icmp_ge C 30 dX11_marks_19 (by decide) (fun c4 => ?_) (fun c4 => ?_)
        · have h := az_t c4 h
          refine az_sub [] rfl ?_
          exact s_X11_marks_30 C G M r h hp
        · have h := az_f c4 h
          refine az_iload_n C 2 dX11_marks_22 rfl ?_
          refine az_iload_n C 3 dX11_marks_23 rfl ?_
          obtain ⟨q5, e6, h⟩ := az_b h
          refine az_cS (rest := []) (st2 := [.int q5]) C [.int p1, .int p2] (c_X11_canBeWeighed C.hL p1 p2 M e6) (by decide) li_X11_278 rfl rfl (Nat.le_of_ble_eq_true rfl) dX11_marks_24 rfl ?_
          refine az_if_ne C 32 dX11_marks_27 (by decide) (fun c7 => ?_) (fun c7 => ?_)
          · have h := az_f c7 h
            refine az_aload_n C 0 dX11_marks_32 rfl ?_
            refine az_getr (r := 34) C o0 fl_X11_109 rfl rfl dX11_marks_33 ?_
            refine az_iload_n C 1 dX11_marks_36 rfl ?_
            refine az_iload_n C 2 dX11_marks_37 rfl ?_
            refine az_iload_n C 3 dX11_marks_38 rfl ?_
            obtain ⟨q8, e9, h⟩ := az_b h
            refine az_cV (rest := []) (st2 := []) C [.int p0, .int p1, .int p2] (c_X7_lookForMarks C.hL G p0 p1 p2 M e9) (by decide) li_X11_282 o34 (by decide) rfl rfl (Nat.le_of_ble_eq_true rfl) dX11_marks_39 rfl ?_
            refine az_iload C 4 dX11_marks_42 rfl ?_
            refine az_iconst (v := (-1)) C dX11_marks_44 (by decide) ?_
            refine az_icmp_ne C 56 dX11_marks_45 (by decide) (fun c10 => ?_) (fun c10 => ?_)
            · have h := az_f c10 h
              refine az_aload_n C 0 dX11_marks_56 rfl ?_
              refine az_getr (r := 34) C o0 fl_X11_109 rfl rfl dX11_marks_57 ?_
              refine az_geti C o34 fl_X11_254 rfl dX11_marks_60 ?_
              refine az_if_ne C 70 dX11_marks_63 (by decide) (fun c11 => ?_) (fun c11 => ?_)
              · have h := az_f c11 h
                refine az_aload_n C 0 dX11_marks_70 rfl ?_
                refine az_getr (r := 34) C o0 fl_X11_109 rfl rfl dX11_marks_71 ?_
                refine az_geti C o34 fl_X11_259 rfl dX11_marks_74 ?_
                refine az_iload_n C 1 dX11_marks_77 rfl ?_
                refine az_iload C 4 dX11_marks_78 rfl ?_
                obtain ⟨q12, e13, h⟩ := az_b h
                refine az_cS (rest := []) (st2 := [.int q12]) C [.int (q8.1 34 1), .int p0, .int p3] (c_X7_inRow C.hL (q8.1 34 1) p0 p3 q8 e13) (by decide) li_X11_262 rfl rfl (Nat.le_of_ble_eq_true rfl) dX11_marks_80 rfl ?_
                refine az_sub [] rfl ?_
                exact s_X11_marks_83 C G q12 q8 r h hp
              · have h := az_t c11 h
                refine az_iconst (v := (-1)) C dX11_marks_66 (by decide) ?_
                refine az_goto C 83 dX11_marks_67 (by decide) ?_
                refine az_sub [] rfl ?_
                exact s_X11_marks_83 C G (-1) q8 r h hp
            · have h := az_t c10 h
              refine az_aload_n C 0 dX11_marks_48 rfl ?_
              refine az_getr (r := 34) C o0 fl_X11_109 rfl rfl dX11_marks_49 ?_
              refine az_geti C o34 fl_X11_254 rfl dX11_marks_52 ?_
              obtain rfl := Option.some.inj h
              exact az_iret C dX11_marks_55 hp
          · have h := az_t c7 h
            refine az_sub [] rfl ?_
            exact s_X11_marks_30 C G M r h hp
theorem c_X11_marks {l : Launch} {V : az_V} (hL : az_L V) (G : Nat) (p0 : Int32) (p1 : Int32) (p2 : Int32) (p3 : Int32) (M : az_M) {r : (Int32 × az_M)} (h : f_X11_marks (az_z V) G p0 p1 p2 p3 M = some r) : az_Ct l V yX11_marks cX11_marks 5 (some .int) 17 [.ref (az_ad V 0), .int p0, .int p1, .int p2, .int p3] M (fun v M' => v = some (.int r.1) ∧ M' = r.2) :=
  az_Ct.of (by decide) (Nat.le_of_ble_eq_true rfl) (fun Y _ _ C => s_X11_marks_e C G p0 p1 p2 p3 M r h ⟨rfl, rfl⟩)
set_option maxHeartbeats 4000000 in
set_option maxRecDepth 100000 in
theorem s_X11_game_19 {Y : az_Y} {V : az_V} {post : Option Value → az_M → Prop} (C : az_C Y V cX11_game 2 RX11 (some .int) 6) (G : Nat)  (M : az_M) (r : (Int32 × az_M)) (h : f_X11_game_19 (az_z V) G M = some r) (hp : post (some (.int r.1)) r.2) : AW Y V (az_end Y V post) 2 M 19 [] [] := by
  unfold f_X11_game_19 at h
  refine az_iconst (v := (-1)) C dX11_game_19 (by decide) ?_
  obtain rfl := Option.some.inj h
  exact az_iret C dX11_game_20 hp
set_option maxHeartbeats 4000000 in
set_option maxRecDepth 100000 in
theorem s_X11_game_47 {Y : az_Y} {V : az_V} {post : Option Value → az_M → Prop} (C : az_C Y V cX11_game 2 RX11 (some .int) 6) (G : Nat) (s0 : Int32) (M : az_M) (r : (Int32 × az_M)) (h : f_X11_game_47 (az_z V) G s0 M = some r) (hp : post (some (.int r.1)) r.2) : AW Y V (az_end Y V post) 2 M 47 [] [.int s0] := by
  unfold f_X11_game_47 at h
  obtain rfl := Option.some.inj h
  exact az_iret C dX11_game_47 hp
set_option maxHeartbeats 4000000 in
set_option maxRecDepth 100000 in
theorem s_X11_game_70 {Y : az_Y} {V : az_V} {post : Option Value → az_M → Prop} (C : az_C Y V cX11_game 2 RX11 (some .int) 6) (G : Nat) (s0 : Int32) (M : az_M) (r : (Int32 × az_M)) (h : f_X11_game_70 (az_z V) G s0 M = some r) (hp : post (some (.int r.1)) r.2) : AW Y V (az_end Y V post) 2 M 70 [] [.int s0] := by
  unfold f_X11_game_70 at h
  obtain rfl := Option.some.inj h
  exact az_iret C dX11_game_70 hp
set_option maxHeartbeats 4000000 in
set_option maxRecDepth 100000 in
theorem s_X11_game_e {Y : az_Y} {V : az_V} {post : Option Value → az_M → Prop} (C : az_C Y V cX11_game 2 RX11 (some .int) 6) (G : Nat) (p0 : Int32) (M : az_M) (r : (Int32 × az_M)) (h : f_X11_game (az_z V) G p0 M = some r) (hp : post (some (.int r.1)) r.2) : AW Y V (az_end Y V post) 2 M 0 [(0, .ref (az_ad V 0)), (1, .int p0)] [] := by
  have o0 := C.hL.at 0 (ci := 11) rfl
  have o1 := C.hL.at 1 (ci := 4) rfl
  have o28 := C.hL.at 28 (ci := 2) rfl
  unfold f_X11_game at h
  refine az_aload_n C 0 dX11_game_0 rfl ?_
  refine az_getr (r := 1) C o0 fl_X11_14 rfl rfl dX11_game_1 ?_
  obtain ⟨q1, e2, h⟩ := az_b h
  refine az_cV (rest := []) (st2 := [.int q1]) C [] (c_X4_canBeFired C.hL 1 (C.hL.pv 1 rfl) M e2) (by decide) li_X11_126 o1 (by decide) rfl rfl (Nat.le_of_ble_eq_true rfl) dX11_game_4 rfl ?_
  refine az_if_eq C 19 dX11_game_7 (by decide) (fun c3 => ?_) (fun c3 => ?_)
  · have h := az_t c3 h
    refine az_sub [] rfl ?_
    exact s_X11_game_19 C G M r h hp
  · have h := az_f c3 h
    refine az_iload_n C 1 dX11_game_10 rfl ?_
    refine az_if_lt C 19 dX11_game_11 (by decide) (fun c4 => ?_) (fun c4 => ?_)
    · have h := az_t c4 h
      refine az_sub [] rfl ?_
      exact s_X11_game_19 C G M r h hp
    · have h := az_f c4 h
      refine az_iload_n C 1 dX11_game_14 rfl ?_
      refine az_iconst (v := 2) C dX11_game_15 (by decide) ?_
      refine az_icmp_le C 21 dX11_game_16 (by decide) (fun c5 => ?_) (fun c5 => ?_)
      · have h := az_t c5 h
        refine az_aload_n C 0 dX11_game_21 rfl ?_
        refine az_getr (r := 28) C o0 fl_X11_102 rfl rfl dX11_game_22 ?_
        obtain ⟨q6, e7, h⟩ := az_b h
        refine az_cV (rest := []) (st2 := []) C [] (c_X2_play C.hL G M e7) (by decide) li_X11_286 o28 (by decide) rfl rfl (Nat.le_of_ble_eq_true rfl) dX11_game_25 rfl ?_
        refine az_iload_n C 1 dX11_game_28 rfl ?_
        refine az_if_ne C 48 dX11_game_29 (by decide) (fun c8 => ?_) (fun c8 => ?_)
        · have h := az_f c8 h
          refine az_iload_n C 1 dX11_game_48 rfl ?_
          refine az_iconst (v := 1) C dX11_game_49 (by decide) ?_
          refine az_icmp_ne C 63 dX11_game_50 (by decide) (fun c9 => ?_) (fun c9 => ?_)
          · have h := az_f c9 h
            refine az_aload_n C 0 dX11_game_63 rfl ?_
            refine az_getr (r := 28) C o0 fl_X11_102 rfl rfl dX11_game_64 ?_
            refine az_geti C o28 fl_X11_292 rfl dX11_game_67 ?_
            refine az_sub [] rfl ?_
            exact s_X11_game_70 C G (q6.1 28 3) q6 r h hp
          · have h := az_t c9 h
            refine az_aload_n C 0 dX11_game_53 rfl ?_
            refine az_getr (r := 28) C o0 fl_X11_102 rfl rfl dX11_game_54 ?_
            refine az_geti C o28 fl_X11_289 rfl dX11_game_57 ?_
            refine az_goto C 70 dX11_game_60 (by decide) ?_
            refine az_sub [] rfl ?_
            exact s_X11_game_70 C G (q6.1 28 2) q6 r h hp
        · have h := az_t c8 h
          refine az_aload_n C 0 dX11_game_32 rfl ?_
          refine az_getr (r := 28) C o0 fl_X11_102 rfl rfl dX11_game_33 ?_
          refine az_geti C o28 fl_X11_289 rfl dX11_game_36 ?_
          refine az_if_le C 46 dX11_game_39 (by decide) (fun c10 => ?_) (fun c10 => ?_)
          · have h := az_t c10 h
            refine az_iconst (v := 0) C dX11_game_46 (by decide) ?_
            refine az_sub [] rfl ?_
            exact s_X11_game_47 C G 0 q6 r h hp
          · have h := az_f c10 h
            refine az_iconst (v := 1) C dX11_game_42 (by decide) ?_
            refine az_goto C 47 dX11_game_43 (by decide) ?_
            refine az_sub [] rfl ?_
            exact s_X11_game_47 C G 1 q6 r h hp
      · have h := az_f c5 h
        refine az_sub [] rfl ?_
        exact s_X11_game_19 C G M r h hp
theorem c_X11_game {l : Launch} {V : az_V} (hL : az_L V) (G : Nat) (p0 : Int32) (M : az_M) {r : (Int32 × az_M)} (h : f_X11_game (az_z V) G p0 M = some r) : az_Ct l V yX11_game cX11_game 2 (some .int) 6 [.ref (az_ad V 0), .int p0] M (fun v M' => v = some (.int r.1) ∧ M' = r.2) :=
  az_Ct.of (by decide) (Nat.le_of_ble_eq_true rfl) (fun Y _ _ C => s_X11_game_e C G p0 M r h ⟨rfl, rfl⟩)
set_option maxHeartbeats 4000000 in
set_option maxRecDepth 100000 in
theorem s_X11_commonDivisor_34 {Y : az_Y} {V : az_V} {post : Option Value → az_M → Prop} (C : az_C Y V cX11_commonDivisor 6 RX11 (some .int) 1) (G : Nat) (x2 : Int32) (M : az_M) (r : Int32) (h : f_X11_commonDivisor_34 G x2 M = some r) (hp : post (some (.int r)) M) : AW Y V (az_end Y V post) 6 M 34 [(2, .int x2)] [] := by
  unfold f_X11_commonDivisor_34 at h
  refine az_iload_n C 0 dX11_commonDivisor_34 rfl ?_
  obtain rfl := Option.some.inj h
  exact az_iret C dX11_commonDivisor_35 hp
set_option maxHeartbeats 4000000 in
set_option maxRecDepth 100000 in
theorem s_X11_commonDivisor_7 {Y : az_Y} {V : az_V} {post : Option Value → az_M → Prop} (C : az_C Y V cX11_commonDivisor 6 RX11 (some .int) 1) (G : Nat) : ∀ (F : Nat) (x2 : Int32) (x3 : Int32) (x4 : Int32) (M : az_M) (r : Int32), f_X11_commonDivisor_7 G F x2 x3 x4 M = some r → post (some (.int r)) M → AW Y V (az_end Y V post) 6 M 7 [(2, .int x2), (3, .int x3), (4, .int x4)] [] := by
  intro F
  induction F with
  | zero =>
    intro x2 x3 x4 M r h
    exact absurd (show (none : Option Int32) = some r from h) (fun q => by cases q)
  | succ F ih =>
    intro x2 x3 x4 M r h hp
    rw [f_X11_commonDivisor_7] at h
    refine az_iload C 2 dX11_commonDivisor_7 rfl ?_
    refine az_bipush (v := 64) C dX11_commonDivisor_9 (by decide) ?_
    refine az_icmp_ge C 34 dX11_commonDivisor_11 (by decide) (fun c1 => ?_) (fun c1 => ?_)
    · have h := az_t c1 h
      refine az_sub [0] rfl ?_
      exact s_X11_commonDivisor_34 C G x2 M r h hp
    · have h := az_f c1 h
      refine az_iload_n C 1 dX11_commonDivisor_14 rfl ?_
      refine az_if_eq C 34 dX11_commonDivisor_15 (by decide) (fun c2 => ?_) (fun c2 => ?_)
      · have h := az_t c2 h
        refine az_sub [0] rfl ?_
        exact s_X11_commonDivisor_34 C G x2 M r h hp
      · have h := az_f c2 h
        refine az_iload_n C 0 dX11_commonDivisor_18 rfl ?_
        refine az_iload_n C 1 dX11_commonDivisor_19 rfl ?_
        obtain ⟨g3, h⟩ := az_g h
        refine az_irem2 C dX11_commonDivisor_20 g3 ?_
        refine az_istore C dX11_commonDivisor_21 (by decide) rfl ?_
        refine az_iload_n C 2 dX11_commonDivisor_23 rfl ?_
        refine az_istore_n C dX11_commonDivisor_24 rfl (by decide) rfl ?_
        refine az_iload C 1 dX11_commonDivisor_25 rfl ?_
        refine az_istore_n C dX11_commonDivisor_27 rfl (by decide) rfl ?_
        refine az_iinc (v := (x4 + 1)) C 3 dX11_commonDivisor_28 rfl rfl (by decide) rfl ?_
        refine az_goto C 7 dX11_commonDivisor_31 (by decide) ?_
        refine az_sub [2, 1, 0] rfl ?_
        exact ih x3 (az_rem x2 x3) (x4 + 1) M r h hp
set_option maxHeartbeats 4000000 in
set_option maxRecDepth 100000 in
theorem s_X11_commonDivisor_e {Y : az_Y} {V : az_V} {post : Option Value → az_M → Prop} (C : az_C Y V cX11_commonDivisor 6 RX11 (some .int) 1) (G : Nat) (p0 : Int32) (p1 : Int32) (M : az_M) (r : Int32) (h : f_X11_commonDivisor G p0 p1 M = some r) (hp : post (some (.int r)) M) : AW Y V (az_end Y V post) 6 M 0 [(0, .int p0), (1, .int p1)] [] := by
  unfold f_X11_commonDivisor at h
  refine az_iload_n C 1 dX11_commonDivisor_0 rfl ?_
  refine az_istore_n C dX11_commonDivisor_1 rfl (by decide) rfl ?_
  refine az_iload_n C 1 dX11_commonDivisor_2 rfl ?_
  refine az_istore_n C dX11_commonDivisor_3 rfl (by decide) rfl ?_
  refine az_iconst (v := 0) C dX11_commonDivisor_4 (by decide) ?_
  refine az_istore C dX11_commonDivisor_5 (by decide) rfl ?_
  refine az_sub [2, 1, 0] rfl ?_
  exact s_X11_commonDivisor_7 C G G p1 p0 0 M r h hp
theorem c_X11_commonDivisor {l : Launch} {V : az_V} (hL : az_L V) (G : Nat) (p0 : Int32) (p1 : Int32) (M : az_M) {r : Int32} (h : f_X11_commonDivisor G p0 p1 M = some r) : az_Ct l V yX11_commonDivisor cX11_commonDivisor 6 (some .int) 1 [.int p0, .int p1] M (fun v M' => v = some (.int r) ∧ M' = M) :=
  az_Ct.of (by decide) (Nat.le_of_ble_eq_true rfl) (fun Y _ _ C => s_X11_commonDivisor_e C G p0 p1 M r h ⟨rfl, rfl⟩)
set_option maxHeartbeats 4000000 in
set_option maxRecDepth 100000 in
theorem s_X11_share_44 {Y : az_Y} {V : az_V} {post : Option Value → az_M → Prop} (C : az_C Y V cX11_share 6 RX11 (some .int) 2) (G : Nat)  (M : az_M) (r : Int32) (h : f_X11_share_44 G M = some r) (hp : post (some (.int r)) M) : AW Y V (az_end Y V post) 6 M 44 [] [] := by
  unfold f_X11_share_44 at h
  refine az_iconst (v := (-1)) C dX11_share_44 (by decide) ?_
  obtain rfl := Option.some.inj h
  exact az_iret C dX11_share_45 hp
set_option maxHeartbeats 4000000 in
set_option maxRecDepth 100000 in
theorem s_X11_share_90 {Y : az_Y} {V : az_V} {post : Option Value → az_M → Prop} (C : az_C Y V cX11_share 6 RX11 (some .int) 2) (G : Nat) (s0 : Int32) (M : az_M) (r : Int32) (h : f_X11_share_90 G s0 M = some r) (hp : post (some (.int r)) M) : AW Y V (az_end Y V post) 6 M 90 [] [.int s0] := by
  unfold f_X11_share_90 at h
  obtain rfl := Option.some.inj h
  exact az_iret C dX11_share_90 hp
set_option maxHeartbeats 4000000 in
set_option maxRecDepth 100000 in
theorem s_X11_share_87 {Y : az_Y} {V : az_V} {post : Option Value → az_M → Prop} (C : az_C Y V cX11_share 6 RX11 (some .int) 2) (G : Nat) (x5 : Int32) (s0 : Int32) (M : az_M) (r : Int32) (h : f_X11_share_87 G x5 s0 M = some r) (hp : post (some (.int r)) M) : AW Y V (az_end Y V post) 6 M 87 [(5, .int x5)] [.int s0] := by
  unfold f_X11_share_87 at h
  refine az_iload C 0 dX11_share_87 rfl ?_
  obtain ⟨g11, h⟩ := az_g h
  refine az_idiv C dX11_share_89 g11 ?_
  refine az_sub [] rfl ?_
  exact s_X11_share_90 C G (s0 / x5) M r h hp
set_option maxHeartbeats 4000000 in
set_option maxRecDepth 100000 in
theorem s_X11_share_e {Y : az_Y} {V : az_V} {post : Option Value → az_M → Prop} (C : az_C Y V cX11_share 6 RX11 (some .int) 2) (G : Nat) (p0 : Int32) (p1 : Int32) (M : az_M) (r : Int32) (h : f_X11_share G p0 p1 M = some r) (hp : post (some (.int r)) M) : AW Y V (az_end Y V post) 6 M 0 [(0, .ref (az_ad V 0)), (1, .int p0), (2, .int p1)] [] := by
  have o0 := C.hL.at 0 (ci := 11) rfl
  have o1 := C.hL.at 1 (ci := 4) rfl
  have a2 := C.hL.ar 2 (t := 0) (len := 145) rfl
  unfold f_X11_share at h
  refine az_aload_n C 0 dX11_share_0 rfl ?_
  refine az_getr (r := 1) C o0 fl_X11_14 rfl rfl dX11_share_1 ?_
  refine az_getr (r := 2) C o1 fl_X11_120 rfl rfl dX11_share_4 ?_
  refine az_bipush (v := 21) C dX11_share_7 (by decide) ?_
  refine az_ild (k := 21) C a2 (az_vin (by decide)) (by decide) dX11_share_9 ?_
  refine az_aload_n C 0 dX11_share_10 rfl ?_
  refine az_getr (r := 1) C o0 fl_X11_14 rfl rfl dX11_share_11 ?_
  refine az_getr (r := 2) C o1 fl_X11_120 rfl rfl dX11_share_14 ?_
  refine az_bipush (v := 22) C dX11_share_17 (by decide) ?_
  refine az_ild (k := 22) C a2 (az_vin (by decide)) (by decide) dX11_share_19 ?_
  refine az_iadd C dX11_share_20 ?_
  refine az_istore_n C dX11_share_21 rfl (by decide) rfl ?_
  refine az_iload_n C 2 dX11_share_22 rfl ?_
  refine az_if_lt C 44 dX11_share_23 (by decide) (fun c1 => ?_) (fun c1 => ?_)
  · have h := az_t c1 h
    refine az_sub [] rfl ?_
    exact s_X11_share_44 C G M r h hp
  · have h := az_f c1 h
    refine az_iload_n C 2 dX11_share_26 rfl ?_
    refine az_iconst (v := 1) C dX11_share_27 (by decide) ?_
    refine az_icmp_gt C 44 dX11_share_28 (by decide) (fun c2 => ?_) (fun c2 => ?_)
    · have h := az_t c2 h
      refine az_sub [] rfl ?_
      exact s_X11_share_44 C G M r h hp
    · have h := az_f c2 h
      refine az_iload_n C 3 dX11_share_31 rfl ?_
      refine az_if_lt C 44 dX11_share_32 (by decide) (fun c3 => ?_) (fun c3 => ?_)
      · have h := az_t c3 h
        refine az_sub [] rfl ?_
        exact s_X11_share_44 C G M r h hp
      · have h := az_f c3 h
        refine az_iload_n C 3 dX11_share_35 rfl ?_
        refine az_iconst (v := 1) C dX11_share_36 (by decide) ?_
        refine az_icmp_gt C 44 dX11_share_37 (by decide) (fun c4 => ?_) (fun c4 => ?_)
        · have h := az_t c4 h
          refine az_sub [] rfl ?_
          exact s_X11_share_44 C G M r h hp
        · have h := az_f c4 h
          refine az_iload_n C 0 dX11_share_40 rfl ?_
          refine az_if_gt C 46 dX11_share_41 (by decide) (fun c5 => ?_) (fun c5 => ?_)
          · have h := az_t c5 h
            refine az_aload_n C 1 dX11_share_46 rfl ?_
            refine az_getr (r := 1) C o0 fl_X11_14 rfl rfl dX11_share_47 ?_
            refine az_getr (r := 2) C o1 fl_X11_120 rfl rfl dX11_share_50 ?_
            refine az_bipush (v := 21) C dX11_share_53 (by decide) ?_
            refine az_iload_n C 2 dX11_share_55 rfl ?_
            refine az_iadd C dX11_share_56 ?_
            obtain ⟨g6, h⟩ := az_g h
            refine az_ild (k := (21 + p0).toNatClampNeg) C a2 g6 rfl dX11_share_57 ?_
            refine az_istore C dX11_share_58 (by decide) rfl ?_
            refine az_iload C 0 dX11_share_60 rfl ?_
            refine az_iload_n C 1 dX11_share_62 rfl ?_
            obtain ⟨q7, e8, h⟩ := az_b h
            refine az_cS (rest := []) (st2 := [.int q7]) C [.int (M.1 2 ((21 + p0).toNatClampNeg)), .int ((M.1 2 21) + (M.1 2 22))] (c_X11_commonDivisor C.hL G (M.1 2 ((21 + p0).toNatClampNeg)) ((M.1 2 21) + (M.1 2 22)) M e8) (by decide) li_X11_295 rfl rfl (Nat.le_of_ble_eq_true rfl) dX11_share_63 rfl ?_
            refine az_istore C dX11_share_66 (by decide) rfl ?_
            refine az_iload C 0 dX11_share_68 rfl ?_
            refine az_if_ne C 77 dX11_share_70 (by decide) (fun c9 => ?_) (fun c9 => ?_)
            · have h := az_f c9 h
              refine az_iload_n C 5 dX11_share_77 rfl ?_
              refine az_if_ne C 86 dX11_share_78 (by decide) (fun c10 => ?_) (fun c10 => ?_)
              · have h := az_f c10 h
                refine az_iload_n C 2 dX11_share_86 rfl ?_
                refine az_sub [0] rfl ?_
                exact s_X11_share_87 C G q7 ((M.1 2 21) + (M.1 2 22)) M r h hp
              · have h := az_t c10 h
                refine az_iload C 1 dX11_share_81 rfl ?_
                refine az_goto C 87 dX11_share_83 (by decide) ?_
                refine az_sub [0] rfl ?_
                exact s_X11_share_87 C G q7 (M.1 2 ((21 + p0).toNatClampNeg)) M r h hp
            · have h := az_t c9 h
              refine az_iconst (v := (-1)) C dX11_share_73 (by decide) ?_
              refine az_goto C 90 dX11_share_74 (by decide) ?_
              refine az_sub [] rfl ?_
              exact s_X11_share_90 C G (-1) M r h hp
          · have h := az_f c5 h
            refine az_sub [] rfl ?_
            exact s_X11_share_44 C G M r h hp
theorem c_X11_share {l : Launch} {V : az_V} (hL : az_L V) (G : Nat) (p0 : Int32) (p1 : Int32) (M : az_M) {r : Int32} (h : f_X11_share G p0 p1 M = some r) : az_Ct l V yX11_share cX11_share 6 (some .int) 2 [.ref (az_ad V 0), .int p0, .int p1] M (fun v M' => v = some (.int r) ∧ M' = M) :=
  az_Ct.of (by decide) (Nat.le_of_ble_eq_true rfl) (fun Y _ _ C => s_X11_share_e C G p0 p1 M r h ⟨rfl, rfl⟩)
set_option maxHeartbeats 4000000 in
set_option maxRecDepth 100000 in
theorem s_X11_season_22 {Y : az_Y} {V : az_V} {post : Option Value → az_M → Prop} (C : az_C Y V cX11_season 3 RX11 (some .int) 7) (G : Nat)  (M : az_M) (r : (Int32 × az_M)) (h : f_X11_season_22 (az_z V) G M = some r) (hp : post (some (.int r.1)) r.2) : AW Y V (az_end Y V post) 3 M 22 [(0, .ref (az_ad V 0))] [] := by
  have o0 := C.hL.at 0 (ci := 11) rfl
  unfold f_X11_season_22 at h
  refine az_aload_n C 0 dX11_season_22 rfl ?_
  refine az_iconst (v := (-1)) C dX11_season_23 (by decide) ?_
  obtain ⟨q9, e10, h⟩ := az_b h
  refine az_cV (rest := []) (st2 := [.int q9.1]) C [.int (-1)] (c_X11_refuse C.hL (-1) M e10) (by decide) li_X11_116 o0 (by decide) rfl rfl (Nat.le_of_ble_eq_true rfl) dX11_season_24 rfl ?_
  obtain rfl := Option.some.inj h
  exact az_iret C dX11_season_27 hp
set_option maxHeartbeats 4000000 in
set_option maxRecDepth 100000 in
theorem s_X11_season_e {Y : az_Y} {V : az_V} {post : Option Value → az_M → Prop} (C : az_C Y V cX11_season 3 RX11 (some .int) 7) (G : Nat) (p0 : Int32) (p1 : Int32) (M : az_M) (r : (Int32 × az_M)) (h : f_X11_season (az_z V) G p0 p1 M = some r) (hp : post (some (.int r.1)) r.2) : AW Y V (az_end Y V post) 3 M 0 [(0, .ref (az_ad V 0)), (1, .int p0), (2, .int p1)] [] := by
  have o0 := C.hL.at 0 (ci := 11) rfl
  have o28 := C.hL.at 28 (ci := 2) rfl
  unfold f_X11_season at h
  refine az_iload_n C 1 dX11_season_0 rfl ?_
  refine az_if_lt C 22 dX11_season_1 (by decide) (fun c1 => ?_) (fun c1 => ?_)
  · have h := az_t c1 h
    refine az_sub [0] rfl ?_
    exact s_X11_season_22 C G M r h hp
  · have h := az_f c1 h
    refine az_iload_n C 1 dX11_season_4 rfl ?_
    refine az_ldcw C ck_X11_298 dX11_season_5 ?_
    refine az_icmp_gt C 22 dX11_season_8 (by decide) (fun c2 => ?_) (fun c2 => ?_)
    · have h := az_t c2 h
      refine az_sub [0] rfl ?_
      exact s_X11_season_22 C G M r h hp
    · have h := az_f c2 h
      refine az_iload_n C 2 dX11_season_11 rfl ?_
      refine az_iconst (v := 1) C dX11_season_12 (by decide) ?_
      refine az_icmp_lt C 22 dX11_season_13 (by decide) (fun c3 => ?_) (fun c3 => ?_)
      · have h := az_t c3 h
        refine az_sub [0] rfl ?_
        exact s_X11_season_22 C G M r h hp
      · have h := az_f c3 h
        refine az_iload_n C 2 dX11_season_16 rfl ?_
        refine az_bipush (v := 30) C dX11_season_17 (by decide) ?_
        refine az_icmp_le C 28 dX11_season_19 (by decide) (fun c4 => ?_) (fun c4 => ?_)
        · have h := az_t c4 h
          refine az_aload_n C 0 dX11_season_28 rfl ?_
          refine az_aload_n C 0 dX11_season_29 rfl ?_
          refine az_getr (r := 28) C o0 fl_X11_102 rfl rfl dX11_season_30 ?_
          refine az_iload_n C 1 dX11_season_33 rfl ?_
          refine az_iload_n C 2 dX11_season_34 rfl ?_
          obtain ⟨q5, e6, h⟩ := az_b h
          refine az_cV (rest := [.ref (az_ad V 0)]) (st2 := [.int q5.1, .ref (az_ad V 0)]) C [.int p0, .int p1] (c_X2_drawSeason C.hL G p0 p1 M e6) (by decide) li_X11_299 o28 (by decide) rfl rfl (Nat.le_of_ble_eq_true rfl) dX11_season_35 rfl ?_
          obtain ⟨q7, e8, h⟩ := az_b h
          refine az_cV (rest := []) (st2 := [.int q7.1]) C [.int q5.1] (c_X11_settle C.hL q5.1 q5.2 e8) (by decide) li_X11_209 o0 (by decide) rfl rfl (Nat.le_of_ble_eq_true rfl) dX11_season_38 rfl ?_
          obtain rfl := Option.some.inj h
          exact az_iret C dX11_season_41 hp
        · have h := az_f c4 h
          refine az_sub [0] rfl ?_
          exact s_X11_season_22 C G M r h hp
theorem c_X11_season {l : Launch} {V : az_V} (hL : az_L V) (G : Nat) (p0 : Int32) (p1 : Int32) (M : az_M) {r : (Int32 × az_M)} (h : f_X11_season (az_z V) G p0 p1 M = some r) : az_Ct l V yX11_season cX11_season 3 (some .int) 7 [.ref (az_ad V 0), .int p0, .int p1] M (fun v M' => v = some (.int r.1) ∧ M' = r.2) :=
  az_Ct.of (by decide) (Nat.le_of_ble_eq_true rfl) (fun Y _ _ C => s_X11_season_e C G p0 p1 M r h ⟨rfl, rfl⟩)
set_option maxHeartbeats 4000000 in
set_option maxRecDepth 100000 in
theorem s_X11_drawn_20 {Y : az_Y} {V : az_V} {post : Option Value → az_M → Prop} (C : az_C Y V cX11_drawn 2 RX11 (some .int) 1)  (M : az_M) (r : Int32) (h : f_X11_drawn_20 M = some r) (hp : post (some (.int r)) M) : AW Y V (az_end Y V post) 2 M 20 [] [] := by
  unfold f_X11_drawn_20 at h
  refine az_iconst (v := (-1)) C dX11_drawn_20 (by decide) ?_
  obtain rfl := Option.some.inj h
  exact az_iret C dX11_drawn_21 hp
set_option maxHeartbeats 4000000 in
set_option maxRecDepth 100000 in
theorem s_X11_drawn_e {Y : az_Y} {V : az_V} {post : Option Value → az_M → Prop} (C : az_C Y V cX11_drawn 2 RX11 (some .int) 1) (p0 : Int32) (M : az_M) (r : Int32) (h : f_X11_drawn p0 M = some r) (hp : post (some (.int r)) M) : AW Y V (az_end Y V post) 2 M 0 [(0, .ref (az_ad V 0)), (1, .int p0)] [] := by
  have o0 := C.hL.at 0 (ci := 11) rfl
  have o28 := C.hL.at 28 (ci := 2) rfl
  have a29 := C.hL.ar 29 (t := 0) (len := 6) rfl
  unfold f_X11_drawn at h
  refine az_aload_n C 0 dX11_drawn_0 rfl ?_
  refine az_getr (r := 28) C o0 fl_X11_102 rfl rfl dX11_drawn_1 ?_
  refine az_geti C o28 fl_X11_302 rfl dX11_drawn_4 ?_
  refine az_if_eq C 20 dX11_drawn_7 (by decide) (fun c1 => ?_) (fun c1 => ?_)
  · have h := az_t c1 h
    refine az_sub [] rfl ?_
    exact s_X11_drawn_20 C M r h hp
  · have h := az_f c1 h
    refine az_iload_n C 1 dX11_drawn_10 rfl ?_
    refine az_if_lt C 20 dX11_drawn_11 (by decide) (fun c2 => ?_) (fun c2 => ?_)
    · have h := az_t c2 h
      refine az_sub [] rfl ?_
      exact s_X11_drawn_20 C M r h hp
    · have h := az_f c2 h
      refine az_iload_n C 1 dX11_drawn_14 rfl ?_
      refine az_bipush (v := 6) C dX11_drawn_15 (by decide) ?_
      refine az_icmp_lt C 22 dX11_drawn_17 (by decide) (fun c3 => ?_) (fun c3 => ?_)
      · have h := az_t c3 h
        refine az_aload_n C 0 dX11_drawn_22 rfl ?_
        refine az_getr (r := 28) C o0 fl_X11_102 rfl rfl dX11_drawn_23 ?_
        refine az_getr (r := 29) C o28 fl_X11_306 rfl rfl dX11_drawn_26 ?_
        refine az_iload_n C 1 dX11_drawn_29 rfl ?_
        obtain ⟨g4, h⟩ := az_g h
        refine az_ild (k := p0.toNatClampNeg) C a29 g4 rfl dX11_drawn_30 ?_
        obtain rfl := Option.some.inj h
        exact az_iret C dX11_drawn_31 hp
      · have h := az_f c3 h
        refine az_sub [] rfl ?_
        exact s_X11_drawn_20 C M r h hp
theorem c_X11_drawn {l : Launch} {V : az_V} (hL : az_L V) (p0 : Int32) (M : az_M) {r : Int32} (h : f_X11_drawn p0 M = some r) : az_Ct l V yX11_drawn cX11_drawn 2 (some .int) 1 [.ref (az_ad V 0), .int p0] M (fun v M' => v = some (.int r) ∧ M' = M) :=
  az_Ct.of (by decide) (Nat.le_of_ble_eq_true rfl) (fun Y _ _ C => s_X11_drawn_e C p0 M r h ⟨rfl, rfl⟩)
set_option maxHeartbeats 4000000 in
set_option maxRecDepth 100000 in
theorem s_X11_back_9 {Y : az_Y} {V : az_V} {post : Option Value → az_M → Prop} (C : az_C Y V cX11_back 2 RX11 (some .int) 4) (G : Nat)  (M : az_M) (r : (Int32 × az_M)) (h : f_X11_back_9 (az_z V) G M = some r) (hp : post (some (.int r.1)) r.2) : AW Y V (az_end Y V post) 2 M 9 [(0, .ref (az_ad V 0))] [] := by
  have o0 := C.hL.at 0 (ci := 11) rfl
  unfold f_X11_back_9 at h
  refine az_aload_n C 0 dX11_back_9 rfl ?_
  refine az_iconst (v := (-1)) C dX11_back_10 (by decide) ?_
  obtain ⟨q23, e24, h⟩ := az_b h
  refine az_cV (rest := []) (st2 := [.int q23.1]) C [.int (-1)] (c_X11_refuse C.hL (-1) M e24) (by decide) li_X11_116 o0 (by decide) rfl rfl (Nat.le_of_ble_eq_true rfl) dX11_back_11 rfl ?_
  obtain rfl := Option.some.inj h
  exact az_iret C dX11_back_14 hp
set_option maxHeartbeats 4000000 in
set_option maxRecDepth 100000 in
theorem s_X11_back_33 {Y : az_Y} {V : az_V} {post : Option Value → az_M → Prop} (C : az_C Y V cX11_back 2 RX11 (some .int) 4) (G : Nat)  (M : az_M) (r : (Int32 × az_M)) (h : f_X11_back_33 (az_z V) G M = some r) (hp : post (some (.int r.1)) r.2) : AW Y V (az_end Y V post) 2 M 33 [(0, .ref (az_ad V 0))] [] := by
  have o0 := C.hL.at 0 (ci := 11) rfl
  unfold f_X11_back_33 at h
  refine az_aload_n C 0 dX11_back_33 rfl ?_
  refine az_bipush (v := (-2)) C dX11_back_34 (by decide) ?_
  obtain ⟨q21, e22, h⟩ := az_b h
  refine az_cV (rest := []) (st2 := [.int q21.1]) C [.int (-2)] (c_X11_refuse C.hL (-2) M e22) (by decide) li_X11_116 o0 (by decide) rfl rfl (Nat.le_of_ble_eq_true rfl) dX11_back_36 rfl ?_
  obtain rfl := Option.some.inj h
  exact az_iret C dX11_back_39 hp
set_option maxHeartbeats 4000000 in
set_option maxRecDepth 100000 in
theorem s_X11_back_e {Y : az_Y} {V : az_V} {post : Option Value → az_M → Prop} (C : az_C Y V cX11_back 2 RX11 (some .int) 4) (G : Nat) (p0 : Int32) (M : az_M) (r : (Int32 × az_M)) (h : f_X11_back (az_z V) G p0 M = some r) (hp : post (some (.int r.1)) r.2) : AW Y V (az_end Y V post) 2 M 0 [(0, .ref (az_ad V 0)), (1, .int p0)] [] := by
  have o0 := C.hL.at 0 (ci := 11) rfl
  have o1 := C.hL.at 1 (ci := 4) rfl
  have o3 := C.hL.at 3 (ci := 0) rfl
  have a10 := C.hL.ar 10 (t := 4) (len := 2) rfl
  have a11 := C.hL.ar 11 (t := 5) (len := 2) rfl
  unfold f_X11_back at h
  refine az_iload_n C 1 dX11_back_0 rfl ?_
  refine az_if_lt C 9 dX11_back_1 (by decide) (fun c1 => ?_) (fun c1 => ?_)
  · have h := az_t c1 h
    refine az_sub [0] rfl ?_
    exact s_X11_back_9 C G M r h hp
  · have h := az_f c1 h
    refine az_iload_n C 1 dX11_back_4 rfl ?_
    refine az_iconst (v := 2) C dX11_back_5 (by decide) ?_
    refine az_icmp_lt C 15 dX11_back_6 (by decide) (fun c2 => ?_) (fun c2 => ?_)
    · have h := az_t c2 h
      refine az_aload_n C 0 dX11_back_15 rfl ?_
      refine az_getr (r := 10) C o0 fl_X11_39 rfl rfl dX11_back_16 ?_
      refine az_iload_n C 1 dX11_back_19 rfl ?_
      obtain ⟨g3, h⟩ := az_g h
      refine az_ald (k := p0.toNatClampNeg) C a10 (by decide) g3 rfl dX11_back_20 ?_
      refine az_ifnull C 33 dX11_back_21 (by decide) (fun c4 => ?_) (fun c4 => ?_)
      · have h := az_t c4 h
        refine az_sub [0] rfl ?_
        exact s_X11_back_33 C G M r h hp
      · have h := az_f c4 h
        refine az_aload_n C 0 dX11_back_24 rfl ?_
        refine az_getr (r := 11) C o0 fl_X11_43 rfl rfl dX11_back_25 ?_
        refine az_iload_n C 1 dX11_back_28 rfl ?_
        obtain ⟨g5, h⟩ := az_g h
        refine az_ald (k := p0.toNatClampNeg) C a11 (by decide) g5 rfl dX11_back_29 ?_
        refine az_ifnonnull C 40 dX11_back_30 (by decide) (fun c6 => ?_) (fun c6 => ?_)
        · have h := az_f c6 h
          refine az_aload_n C 0 dX11_back_40 rfl ?_
          refine az_getr (r := 1) C o0 fl_X11_14 rfl rfl dX11_back_41 ?_
          refine az_aload_n C 0 dX11_back_44 rfl ?_
          refine az_getr (r := 10) C o0 fl_X11_39 rfl rfl dX11_back_45 ?_
          refine az_iload_n C 1 dX11_back_48 rfl ?_
          obtain ⟨g7, h⟩ := az_g h
          refine az_ald (k := p0.toNatClampNeg) C a10 (by decide) g7 rfl dX11_back_49 ?_
          obtain ⟨t8, e9, h⟩ := az_b h
          obtain ⟨g10, h⟩ := az_g2 h
          have htt8 := az_pok.pv g10
          refine az_eqst (st' := [.ref (az_ad V t8), .ref (az_ad V 1)]) (by rw [e9]; rfl) ?_
          obtain ⟨q11, e12, h⟩ := az_b h
          refine az_cV (rest := []) (st2 := []) C [.ref (az_ad V t8)] (c_X4_copy C.hL 1 (C.hL.pv 1 rfl) t8 htt8 M e12) (by decide) li_X11_309 o1 (by decide) rfl rfl (Nat.le_of_ble_eq_true rfl) dX11_back_50 rfl ?_
          refine az_aload_n C 0 dX11_back_53 rfl ?_
          refine az_getr (r := 3) C o0 fl_X11_21 rfl rfl dX11_back_54 ?_
          refine az_aload_n C 0 dX11_back_57 rfl ?_
          refine az_getr (r := 11) C o0 fl_X11_43 rfl rfl dX11_back_58 ?_
          refine az_iload_n C 1 dX11_back_61 rfl ?_
          obtain ⟨g13, h⟩ := az_g h
          refine az_ald (k := p0.toNatClampNeg) C a11 (by decide) g13 rfl dX11_back_62 ?_
          obtain ⟨t14, e15, h⟩ := az_b h
          obtain ⟨g16, h⟩ := az_g2 h
          have htt14 := az_bok.bk g16
          refine az_eqst (st' := [.ref (az_ad V t14), .ref (az_ad V 3)]) (by rw [e15]; rfl) ?_
          obtain ⟨q17, e18, h⟩ := az_b h
          refine az_cV (rest := []) (st2 := []) C [.ref (az_ad V t14)] (c_X0_copy C.hL G 3 (C.hL.bk 3 rfl) t14 htt14 q11 e18) (by decide) li_X11_313 o3 (by decide) rfl rfl (Nat.le_of_ble_eq_true rfl) dX11_back_63 rfl ?_
          refine az_aload_n C 0 dX11_back_66 rfl ?_
          refine az_iconst (v := 0) C dX11_back_67 (by decide) ?_
          obtain ⟨q19, e20, h⟩ := az_b h
          refine az_cV (rest := []) (st2 := [.int q19.1]) C [.int 0] (c_X11_settleAnew C.hL 0 q17 e20) (by decide) li_X11_123 o0 (by decide) rfl rfl (Nat.le_of_ble_eq_true rfl) dX11_back_68 rfl ?_
          obtain rfl := Option.some.inj h
          exact az_iret C dX11_back_71 hp
        · have h := az_t c6 h
          refine az_sub [0] rfl ?_
          exact s_X11_back_33 C G M r h hp
    · have h := az_f c2 h
      refine az_sub [0] rfl ?_
      exact s_X11_back_9 C G M r h hp
theorem c_X11_back {l : Launch} {V : az_V} (hL : az_L V) (G : Nat) (p0 : Int32) (M : az_M) {r : (Int32 × az_M)} (h : f_X11_back (az_z V) G p0 M = some r) : az_Ct l V yX11_back cX11_back 2 (some .int) 4 [.ref (az_ad V 0), .int p0] M (fun v M' => v = some (.int r.1) ∧ M' = r.2) :=
  az_Ct.of (by decide) (Nat.le_of_ble_eq_true rfl) (fun Y _ _ C => s_X11_back_e C G p0 M r h ⟨rfl, rfl⟩)
set_option maxHeartbeats 4000000 in
set_option maxRecDepth 100000 in
theorem s_X11_count_10 {Y : az_Y} {V : az_V} {post : Option Value → az_M → Prop} (C : az_C Y V cX11_count 2 RX11 (some .int) 1)  (M : az_M) (r : Int32) (h : f_X11_count_10 M = some r) (hp : post (some (.int r)) M) : AW Y V (az_end Y V post) 2 M 10 [] [] := by
  unfold f_X11_count_10 at h
  refine az_iconst (v := (-1)) C dX11_count_10 (by decide) ?_
  obtain rfl := Option.some.inj h
  exact az_iret C dX11_count_11 hp
set_option maxHeartbeats 4000000 in
set_option maxRecDepth 100000 in
theorem s_X11_count_96 {Y : az_Y} {V : az_V} {post : Option Value → az_M → Prop} (C : az_C Y V cX11_count 2 RX11 (some .int) 1) (x1 : Int32) (M : az_M) (r : Int32) (h : f_X11_count_96 x1 M = some r) (hp : post (some (.int r)) M) : AW Y V (az_end Y V post) 2 M 96 [(0, .ref (az_ad V 0)), (1, .int x1)] [] := by
  have o0 := C.hL.at 0 (ci := 11) rfl
  have o3 := C.hL.at 3 (ci := 0) rfl
  have o5 := C.hL.at 5 (ci := 9) rfl
  have o7 := C.hL.at 7 (ci := 3) rfl
  unfold f_X11_count_96 at h
  refine az_iload_n C 1 dX11_count_96 rfl ?_
  by_cases c12 : x1 = 4
  · have h := az_t c12 h
    refine az_tabIn (off := 27) C 124 dX11_count_97 (by rw [c12]; decide) (by rw [c12]; decide) (by rw [c12]; decide) (by decide) ?_
    refine az_aload_n C 0 dX11_count_124 rfl ?_
    refine az_getr (r := 3) C o0 fl_X11_21 rfl rfl dX11_count_125 ?_
    refine az_geti C o3 fl_X11_189 rfl dX11_count_128 ?_
    obtain rfl := Option.some.inj h
    exact az_iret C dX11_count_131 hp
  have h := az_f c12 h
  have nc12 := lv_neT c12 (a := 4) (by decide)
  by_cases c13 : x1 = 5
  · have h := az_t c13 h
    refine az_tabIn (off := 35) C 132 dX11_count_97 (by rw [c13]; decide) (by rw [c13]; decide) (by rw [c13]; decide) (by decide) ?_
    refine az_aload_n C 0 dX11_count_132 rfl ?_
    refine az_getr (r := 7) C o0 fl_X11_35 rfl rfl dX11_count_133 ?_
    refine az_geti C o7 fl_X11_243 rfl dX11_count_136 ?_
    obtain rfl := Option.some.inj h
    exact az_iret C dX11_count_139 hp
  have h := az_f c13 h
  have nc13 := lv_neT c13 (a := 5) (by decide)
  by_cases c14 : x1 = 6
  · have h := az_t c14 h
    refine az_tabIn (off := 43) C 140 dX11_count_97 (by rw [c14]; decide) (by rw [c14]; decide) (by rw [c14]; decide) (by decide) ?_
    refine az_aload_n C 0 dX11_count_140 rfl ?_
    refine az_getr (r := 5) C o0 fl_X11_28 rfl rfl dX11_count_141 ?_
    refine az_geti C o5 fl_X11_183 rfl dX11_count_144 ?_
    obtain rfl := Option.some.inj h
    exact az_iret C dX11_count_147 hp
  have h := az_f c14 h
  have nc14 := lv_neT c14 (a := 6) (by decide)
  refine az_tabOut C 148 dX11_count_97 (by omega) (by decide) ?_
  refine az_aload_n C 0 dX11_count_148 rfl ?_
  refine az_getr (r := 3) C o0 fl_X11_21 rfl rfl dX11_count_149 ?_
  refine az_geti C o3 fl_X11_228 rfl dX11_count_152 ?_
  obtain rfl := Option.some.inj h
  exact az_iret C dX11_count_155 hp
set_option maxHeartbeats 4000000 in
set_option maxRecDepth 100000 in
theorem s_X11_count_e {Y : az_Y} {V : az_V} {post : Option Value → az_M → Prop} (C : az_C Y V cX11_count 2 RX11 (some .int) 1) (p0 : Int32) (M : az_M) (r : Int32) (h : f_X11_count p0 M = some r) (hp : post (some (.int r)) M) : AW Y V (az_end Y V post) 2 M 0 [(0, .ref (az_ad V 0)), (1, .int p0)] [] := by
  have o0 := C.hL.at 0 (ci := 11) rfl
  have o1 := C.hL.at 1 (ci := 4) rfl
  have a2 := C.hL.ar 2 (t := 0) (len := 145) rfl
  have a12 := C.hL.ar 12 (t := 0) (len := 5) rfl
  unfold f_X11_count at h
  refine az_iload_n C 1 dX11_count_0 rfl ?_
  refine az_if_lt C 10 dX11_count_1 (by decide) (fun c1 => ?_) (fun c1 => ?_)
  · have h := az_t c1 h
    refine az_sub [] rfl ?_
    exact s_X11_count_10 C M r h hp
  · have h := az_f c1 h
    refine az_iload_n C 1 dX11_count_4 rfl ?_
    refine az_bipush (v := 19) C dX11_count_5 (by decide) ?_
    refine az_icmp_le C 12 dX11_count_7 (by decide) (fun c2 => ?_) (fun c2 => ?_)
    · have h := az_t c2 h
      refine az_iload_n C 1 dX11_count_12 rfl ?_
      refine az_iconst (v := 3) C dX11_count_13 (by decide) ?_
      refine az_icmp_gt C 30 dX11_count_14 (by decide) (fun c3 => ?_) (fun c3 => ?_)
      · have h := az_t c3 h
        refine az_iload_n C 1 dX11_count_30 rfl ?_
        refine az_bipush (v := 18) C dX11_count_31 (by decide) ?_
        refine az_icmp_lt C 52 dX11_count_33 (by decide) (fun c4 => ?_) (fun c4 => ?_)
        · have h := az_t c4 h
          refine az_iload_n C 1 dX11_count_52 rfl ?_
          refine az_bipush (v := 13) C dX11_count_53 (by decide) ?_
          refine az_icmp_lt C 74 dX11_count_55 (by decide) (fun c5 => ?_) (fun c5 => ?_)
          · have h := az_t c5 h
            refine az_iload_n C 1 dX11_count_74 rfl ?_
            refine az_bipush (v := 7) C dX11_count_75 (by decide) ?_
            refine az_icmp_lt C 96 dX11_count_77 (by decide) (fun c6 => ?_) (fun c6 => ?_)
            · have h := az_t c6 h
              exact s_X11_count_96 C p0 M r h hp
            · have h := az_f c6 h
              refine az_iload_n C 1 dX11_count_80 rfl ?_
              refine az_bipush (v := 11) C dX11_count_81 (by decide) ?_
              refine az_icmp_gt C 96 dX11_count_83 (by decide) (fun c7 => ?_) (fun c7 => ?_)
              · have h := az_t c7 h
                exact s_X11_count_96 C p0 M r h hp
              · have h := az_f c7 h
                refine az_aload_n C 0 dX11_count_86 rfl ?_
                refine az_getr (r := 12) C o0 fl_X11_47 rfl rfl dX11_count_87 ?_
                refine az_iload_n C 1 dX11_count_90 rfl ?_
                refine az_bipush (v := 7) C dX11_count_91 (by decide) ?_
                refine az_isub C dX11_count_93 ?_
                obtain ⟨g8, h⟩ := az_g h
                refine az_ild (k := (p0 - 7).toNatClampNeg) C a12 g8 rfl dX11_count_94 ?_
                obtain rfl := Option.some.inj h
                exact az_iret C dX11_count_95 hp
          · have h := az_f c5 h
            refine az_aload_n C 0 dX11_count_58 rfl ?_
            refine az_getr (r := 1) C o0 fl_X11_14 rfl rfl dX11_count_59 ?_
            refine az_getr (r := 2) C o1 fl_X11_120 rfl rfl dX11_count_62 ?_
            refine az_bipush (v := 16) C dX11_count_65 (by decide) ?_
            refine az_iload_n C 1 dX11_count_67 rfl ?_
            refine az_iadd C dX11_count_68 ?_
            refine az_bipush (v := 13) C dX11_count_69 (by decide) ?_
            refine az_isub C dX11_count_71 ?_
            obtain ⟨g9, h⟩ := az_g h
            refine az_ild (k := ((16 + p0) - 13).toNatClampNeg) C a2 g9 rfl dX11_count_72 ?_
            obtain rfl := Option.some.inj h
            exact az_iret C dX11_count_73 hp
        · have h := az_f c4 h
          refine az_aload_n C 0 dX11_count_36 rfl ?_
          refine az_getr (r := 1) C o0 fl_X11_14 rfl rfl dX11_count_37 ?_
          refine az_getr (r := 2) C o1 fl_X11_120 rfl rfl dX11_count_40 ?_
          refine az_bipush (v := 21) C dX11_count_43 (by decide) ?_
          refine az_iload_n C 1 dX11_count_45 rfl ?_
          refine az_iadd C dX11_count_46 ?_
          refine az_bipush (v := 18) C dX11_count_47 (by decide) ?_
          refine az_isub C dX11_count_49 ?_
          obtain ⟨g10, h⟩ := az_g h
          refine az_ild (k := ((21 + p0) - 18).toNatClampNeg) C a2 g10 rfl dX11_count_50 ?_
          obtain rfl := Option.some.inj h
          exact az_iret C dX11_count_51 hp
      · have h := az_f c3 h
        refine az_aload_n C 0 dX11_count_17 rfl ?_
        refine az_getr (r := 1) C o0 fl_X11_14 rfl rfl dX11_count_18 ?_
        refine az_getr (r := 2) C o1 fl_X11_120 rfl rfl dX11_count_21 ?_
        refine az_bipush (v := 23) C dX11_count_24 (by decide) ?_
        refine az_iload_n C 1 dX11_count_26 rfl ?_
        refine az_iadd C dX11_count_27 ?_
        obtain ⟨g11, h⟩ := az_g h
        refine az_ild (k := (23 + p0).toNatClampNeg) C a2 g11 rfl dX11_count_28 ?_
        obtain rfl := Option.some.inj h
        exact az_iret C dX11_count_29 hp
    · have h := az_f c2 h
      refine az_sub [] rfl ?_
      exact s_X11_count_10 C M r h hp
theorem c_X11_count {l : Launch} {V : az_V} (hL : az_L V) (p0 : Int32) (M : az_M) {r : Int32} (h : f_X11_count p0 M = some r) : az_Ct l V yX11_count cX11_count 2 (some .int) 1 [.ref (az_ad V 0), .int p0] M (fun v M' => v = some (.int r) ∧ M' = M) :=
  az_Ct.of (by decide) (Nat.le_of_ble_eq_true rfl) (fun Y _ _ C => s_X11_count_e C p0 M r h ⟨rfl, rfl⟩)
set_option maxHeartbeats 4000000 in
set_option maxRecDepth 100000 in
theorem s_X11_status_e {Y : az_Y} {V : az_V} {post : Option Value → az_M → Prop} (C : az_C Y V cX11_status 1 RX11 (some .int) 1)  (M : az_M) (r : Int32) (h : f_X11_status M = some r) (hp : post (some (.int r)) M) : AW Y V (az_end Y V post) 1 M 0 [(0, .ref (az_ad V 0))] [] := by
  have o0 := C.hL.at 0 (ci := 11) rfl
  unfold f_X11_status at h
  refine az_aload_n C 0 dX11_status_0 rfl ?_
  refine az_geti C o0 fl_X11_51 rfl dX11_status_1 ?_
  obtain rfl := Option.some.inj h
  exact az_iret C dX11_status_4 hp
theorem c_X11_status {l : Launch} {V : az_V} (hL : az_L V)  (M : az_M) {r : Int32} (h : f_X11_status M = some r) : az_Ct l V yX11_status cX11_status 1 (some .int) 1 [.ref (az_ad V 0)] M (fun v M' => v = some (.int r) ∧ M' = M) :=
  az_Ct.of (by decide) (Nat.le_of_ble_eq_true rfl) (fun Y _ _ C => s_X11_status_e C M r h ⟨rfl, rfl⟩)
