set_option maxHeartbeats 4000000 in
set_option maxRecDepth 100000 in
theorem s_X12_number_33 {Y : az_Y} {V : az_V} {post : Option Value → az_M → Prop} (C : az_C Y V cX12_number 6 RX12 (some .int) 4) (G : Nat) (x5 : Int32) (s0 : Int32) (M : az_M) (r : (Int32 × az_M)) (h : f_X12_number_33 G x5 s0 M = some r) (hp : post (some (.int r.1)) r.2) : AW Y V (az_end Y V post) 6 M 33 [(5, .int x5)] [.int s0, .ref (az_ad V 40)] := by
  have o40 := C.hL.at 40 (ci := 12) rfl
  unfold f_X12_number_33 at h
  obtain ⟨q5, e6, h⟩ := az_b h
  refine az_cV (rest := []) (st2 := []) C [.int s0] (c_X12_must C.hL G s0 M e6) (by decide) li_X12_303 o40 (by decide) rfl rfl (Nat.le_of_ble_eq_true rfl) dX12_number_33 rfl ?_
  refine az_iload C 0 dX12_number_36 rfl ?_
  obtain rfl := Option.some.inj h
  exact az_iret C dX12_number_38 hp
set_option maxHeartbeats 4000000 in
set_option maxRecDepth 100000 in
theorem s_X12_number_32 {Y : az_Y} {V : az_V} {post : Option Value → az_M → Prop} (C : az_C Y V cX12_number 6 RX12 (some .int) 4) (G : Nat) (x5 : Int32) (M : az_M) (r : (Int32 × az_M)) (h : f_X12_number_32 G x5 M = some r) (hp : post (some (.int r.1)) r.2) : AW Y V (az_end Y V post) 6 M 32 [(5, .int x5)] [.ref (az_ad V 40)] := by
  unfold f_X12_number_32 at h
  refine az_iconst (v := 0) C dX12_number_32 (by decide) ?_
  exact s_X12_number_33 C G x5 0 M r h hp
set_option maxHeartbeats 4000000 in
set_option maxRecDepth 100000 in
theorem s_X12_number_e {Y : az_Y} {V : az_V} {post : Option Value → az_M → Prop} (C : az_C Y V cX12_number 6 RX12 (some .int) 4) (G : Nat) (p0 : Int64) (p1 : Int64) (M : az_M) (r : (Int32 × az_M)) (h : f_X12_number G p0 p1 M = some r) (hp : post (some (.int r.1)) r.2) : AW Y V (az_end Y V post) 6 M 0 [(0, .ref (az_ad V 40)), (1, .long p0), (3, .long p1)] [] := by
  have o40 := C.hL.at 40 (ci := 12) rfl
  unfold f_X12_number at h
  refine az_aload_n C 0 dX12_number_0 rfl ?_
  refine az_getl C o40 fl_X12_280 rfl dX12_number_1 ?_
  refine az_l2i C dX12_number_4 ?_
  refine az_istore C dX12_number_5 (by decide) rfl ?_
  refine az_aload_n C 1 dX12_number_7 rfl ?_
  refine az_aload_n C 1 dX12_number_8 rfl ?_
  refine az_geti C o40 fl_X12_290 rfl dX12_number_9 ?_
  refine az_iconst (v := 2) C dX12_number_12 (by decide) ?_
  refine az_icmp_ne C 32 dX12_number_13 (by decide) (fun c1 => ?_) (fun c1 => ?_)
  · have h := az_f c1 h
    refine az_sub [0] rfl ?_
    exact s_X12_number_32 C G ((M.2.1 40 17).toInt32) M r h hp
  · have h := az_t c1 h
    refine az_aload_n C 1 dX12_number_16 rfl ?_
    refine az_getl C o40 fl_X12_280 rfl dX12_number_17 ?_
    refine az_lload_n C 2 dX12_number_20 rfl ?_
    refine az_lload_n C 3 dX12_number_21 rfl ?_
    obtain ⟨q2, e3, h⟩ := az_b h
    refine az_cS (rest := [.ref (az_ad V 40)]) (st2 := [.int q2, .ref (az_ad V 40)]) C [.long (M.2.1 40 17), .long p0, .long p1] (c_X12_in C.hL (M.2.1 40 17) p0 p1 M e3) (by decide) li_X12_169 rfl rfl (Nat.le_of_ble_eq_true rfl) dX12_number_22 rfl ?_
    refine az_if_eq C 32 dX12_number_25 (by decide) (fun c4 => ?_) (fun c4 => ?_)
    · have h := az_t c4 h
      refine az_sub [0] rfl ?_
      exact s_X12_number_32 C G ((M.2.1 40 17).toInt32) M r h hp
    · have h := az_f c4 h
      refine az_iconst (v := 1) C dX12_number_28 (by decide) ?_
      refine az_goto C 33 dX12_number_29 (by decide) ?_
      refine az_sub [0] rfl ?_
      exact s_X12_number_33 C G ((M.2.1 40 17).toInt32) 1 M r h hp
theorem c_X12_number {l : Launch} {V : az_V} (hL : az_L V) (G : Nat) (p0 : Int64) (p1 : Int64) (M : az_M) {r : (Int32 × az_M)} (h : f_X12_number G p0 p1 M = some r) : az_Ct l V yX12_number cX12_number 6 (some .int) 4 [.ref (az_ad V 40), .long p0, .long p1] M (fun v M' => v = some (.int r.1) ∧ M' = r.2) :=
  az_Ct.of (by decide) (Nat.le_of_ble_eq_true rfl) (fun Y _ _ C => s_X12_number_e C G p0 p1 M r h ⟨rfl, rfl⟩)
set_option maxHeartbeats 4000000 in
set_option maxRecDepth 100000 in
theorem s_X12_fault_e {Y : az_Y} {V : az_V} {post : Option Value → az_M → Prop} (C : az_C Y V cX12_fault 1 RX12 (some .int) 1)  (M : az_M) (r : (Int32 × az_M)) (h : f_X12_fault M = some r) (hp : post (some (.int r.1)) r.2) : AW Y V (az_end Y V post) 1 M 0 [(0, .ref (az_ad V 40))] [] := by
  have o40 := C.hL.at 40 (ci := 12) rfl
  unfold f_X12_fault at h
  refine az_aload_n C 0 dX12_fault_0 rfl ?_
  refine az_iconst (v := 0) C dX12_fault_1 (by decide) ?_
  refine az_puti C o40 fl_X12_149 rfl rfl rfl rfl dX12_fault_2 ?_
  refine az_aload_n C 0 dX12_fault_5 rfl ?_
  refine az_geti C o40 fl_X12_38 rfl dX12_fault_6 ?_
  obtain rfl := Option.some.inj h
  exact az_iret C dX12_fault_9 hp
theorem c_X12_fault {l : Launch} {V : az_V} (hL : az_L V)  (M : az_M) {r : (Int32 × az_M)} (h : f_X12_fault M = some r) : az_Ct l V yX12_fault cX12_fault 1 (some .int) 1 [.ref (az_ad V 40)] M (fun v M' => v = some (.int r.1) ∧ M' = r.2) :=
  az_Ct.of (by decide) (Nat.le_of_ble_eq_true rfl) (fun Y _ _ C => s_X12_fault_e C M r h ⟨rfl, rfl⟩)
set_option maxHeartbeats 4000000 in
set_option maxRecDepth 100000 in
theorem s_X12_emit_e {Y : az_Y} {V : az_V} {post : Option Value → az_M → Prop} (C : az_C Y V cX12_emit 3 RX12 none 1) (p0 : Int32) (p1 : Int32) (M : az_M) (r : az_M) (h : f_X12_emit p0 p1 M = some r) (hp : post none r) : AW Y V (az_end Y V post) 3 M 0 [(0, .ref (az_ad V 40)), (1, .int p0), (2, .int p1)] [] := by
  have o40 := C.hL.at 40 (ci := 12) rfl
  have a51 := C.hL.ar 51 (t := 0) (len := 400) rfl
  have a52 := C.hL.ar 52 (t := 0) (len := 400) rfl
  unfold f_X12_emit at h
  refine az_aload_n C 0 dX12_emit_0 rfl ?_
  refine az_getr (r := 51) C o40 fl_X12_45 rfl rfl dX12_emit_1 ?_
  refine az_aload_n C 0 dX12_emit_4 rfl ?_
  refine az_geti C o40 fl_X12_307 rfl dX12_emit_5 ?_
  refine az_iload_n C 1 dX12_emit_8 rfl ?_
  obtain ⟨g1, h⟩ := az_g h
  refine az_ist (k := (M.1 40 23).toNatClampNeg) C a51 g1 rfl dX12_emit_9 ?_
  refine az_aload_n C 0 dX12_emit_10 rfl ?_
  refine az_getr (r := 52) C o40 fl_X12_48 rfl rfl dX12_emit_11 ?_
  refine az_aload_n C 0 dX12_emit_14 rfl ?_
  refine az_geti C o40 fl_X12_307 rfl dX12_emit_15 ?_
  refine az_iload_n C 2 dX12_emit_18 rfl ?_
  obtain ⟨g2, h⟩ := az_g h
  refine az_ist (k := ((az_i M 51 ((M.1 40 23).toNatClampNeg) p0).1 40 23).toNatClampNeg) C a52 g2 rfl dX12_emit_19 ?_
  refine az_aload_n C 0 dX12_emit_20 rfl ?_
  refine az_dup C dX12_emit_21 rfl ?_
  refine az_geti C o40 fl_X12_307 rfl dX12_emit_22 ?_
  refine az_iconst (v := 1) C dX12_emit_25 (by decide) ?_
  refine az_iadd C dX12_emit_26 ?_
  refine az_puti C o40 fl_X12_307 rfl rfl rfl rfl dX12_emit_27 ?_
  obtain rfl := Option.some.inj h
  exact az_vret C rfl dX12_emit_30 hp
theorem c_X12_emit {l : Launch} {V : az_V} (hL : az_L V) (p0 : Int32) (p1 : Int32) (M : az_M) {r : az_M} (h : f_X12_emit p0 p1 M = some r) : az_Ct l V yX12_emit cX12_emit 3 none 1 [.ref (az_ad V 40), .int p0, .int p1] M (fun v M' => v = none ∧ M' = r) :=
  az_Ct.of (by decide) (Nat.le_of_ble_eq_true rfl) (fun Y _ _ C => s_X12_emit_e C p0 p1 M r h ⟨rfl, rfl⟩)
set_option maxHeartbeats 4000000 in
set_option maxRecDepth 100000 in
theorem s_X12_push_e {Y : az_Y} {V : az_V} {post : Option Value → az_M → Prop} (C : az_C Y V cX12_push 3 RX12 none 1) (p0 : Int32) (p1 : Int32) (M : az_M) (r : az_M) (h : f_X12_push p0 p1 M = some r) (hp : post none r) : AW Y V (az_end Y V post) 3 M 0 [(0, .ref (az_ad V 40)), (1, .int p0), (2, .int p1)] [] := by
  have o40 := C.hL.at 40 (ci := 12) rfl
  have a53 := C.hL.ar 53 (t := 0) (len := 400) rfl
  have a54 := C.hL.ar 54 (t := 0) (len := 400) rfl
  unfold f_X12_push at h
  refine az_aload_n C 0 dX12_push_0 rfl ?_
  refine az_getr (r := 53) C o40 fl_X12_51 rfl rfl dX12_push_1 ?_
  refine az_aload_n C 0 dX12_push_4 rfl ?_
  refine az_geti C o40 fl_X12_310 rfl dX12_push_5 ?_
  refine az_iload_n C 1 dX12_push_8 rfl ?_
  obtain ⟨g1, h⟩ := az_g h
  refine az_ist (k := (M.1 40 29).toNatClampNeg) C a53 g1 rfl dX12_push_9 ?_
  refine az_aload_n C 0 dX12_push_10 rfl ?_
  refine az_getr (r := 54) C o40 fl_X12_54 rfl rfl dX12_push_11 ?_
  refine az_aload_n C 0 dX12_push_14 rfl ?_
  refine az_geti C o40 fl_X12_310 rfl dX12_push_15 ?_
  refine az_iload_n C 2 dX12_push_18 rfl ?_
  obtain ⟨g2, h⟩ := az_g h
  refine az_ist (k := ((az_i M 53 ((M.1 40 29).toNatClampNeg) p0).1 40 29).toNatClampNeg) C a54 g2 rfl dX12_push_19 ?_
  refine az_aload_n C 0 dX12_push_20 rfl ?_
  refine az_dup C dX12_push_21 rfl ?_
  refine az_geti C o40 fl_X12_310 rfl dX12_push_22 ?_
  refine az_iconst (v := 1) C dX12_push_25 (by decide) ?_
  refine az_iadd C dX12_push_26 ?_
  refine az_puti C o40 fl_X12_310 rfl rfl rfl rfl dX12_push_27 ?_
  obtain rfl := Option.some.inj h
  exact az_vret C rfl dX12_push_30 hp
theorem c_X12_push {l : Launch} {V : az_V} (hL : az_L V) (p0 : Int32) (p1 : Int32) (M : az_M) {r : az_M} (h : f_X12_push p0 p1 M = some r) : az_Ct l V yX12_push cX12_push 3 none 1 [.ref (az_ad V 40), .int p0, .int p1] M (fun v M' => v = none ∧ M' = r) :=
  az_Ct.of (by decide) (Nat.le_of_ble_eq_true rfl) (fun Y _ _ C => s_X12_push_e C p0 p1 M r h ⟨rfl, rfl⟩)
set_option maxHeartbeats 4000000 in
set_option maxRecDepth 100000 in
theorem s_X12_binds_62 {Y : az_Y} {V : az_V} {post : Option Value → az_M → Prop} (C : az_C Y V cX12_binds 1 RX12 (some .int) 1) (s0 : Int32) (M : az_M) (r : Int32) (h : f_X12_binds_62 s0 M = some r) (hp : post (some (.int r)) M) : AW Y V (az_end Y V post) 1 M 62 [] [.int s0] := by
  unfold f_X12_binds_62 at h
  obtain rfl := Option.some.inj h
  exact az_iret C dX12_binds_62 hp
set_option maxHeartbeats 4000000 in
set_option maxRecDepth 100000 in
theorem s_X12_binds_e {Y : az_Y} {V : az_V} {post : Option Value → az_M → Prop} (C : az_C Y V cX12_binds 1 RX12 (some .int) 1) (p0 : Int32) (M : az_M) (r : Int32) (h : f_X12_binds p0 M = some r) (hp : post (some (.int r)) M) : AW Y V (az_end Y V post) 1 M 0 [(0, .int p0)] [] := by
  unfold f_X12_binds at h
  refine az_iload_n C 0 dX12_binds_0 rfl ?_
  refine az_bipush (v := 31) C dX12_binds_1 (by decide) ?_
  refine az_icmp_lt C 10 dX12_binds_3 (by decide) (fun c1 => ?_) (fun c1 => ?_)
  · have h := az_t c1 h
    refine az_iload_n C 0 dX12_binds_10 rfl ?_
    refine az_bipush (v := 30) C dX12_binds_11 (by decide) ?_
    refine az_icmp_ne C 20 dX12_binds_13 (by decide) (fun c2 => ?_) (fun c2 => ?_)
    · have h := az_f c2 h
      refine az_iload_n C 0 dX12_binds_20 rfl ?_
      refine az_bipush (v := 29) C dX12_binds_21 (by decide) ?_
      refine az_icmp_ne C 30 dX12_binds_23 (by decide) (fun c3 => ?_) (fun c3 => ?_)
      · have h := az_f c3 h
        refine az_iload_n C 0 dX12_binds_30 rfl ?_
        refine az_bipush (v := 28) C dX12_binds_31 (by decide) ?_
        refine az_icmp_ne C 40 dX12_binds_33 (by decide) (fun c4 => ?_) (fun c4 => ?_)
        · have h := az_f c4 h
          refine az_iload_n C 0 dX12_binds_40 rfl ?_
          refine az_bipush (v := 25) C dX12_binds_41 (by decide) ?_
          refine az_icmp_lt C 50 dX12_binds_43 (by decide) (fun c5 => ?_) (fun c5 => ?_)
          · have h := az_t c5 h
            refine az_iload_n C 0 dX12_binds_50 rfl ?_
            refine az_bipush (v := 22) C dX12_binds_51 (by decide) ?_
            refine az_icmp_lt C 61 dX12_binds_53 (by decide) (fun c6 => ?_) (fun c6 => ?_)
            · have h := az_t c6 h
              refine az_iconst (v := 5) C dX12_binds_61 (by decide) ?_
              refine az_sub [] rfl ?_
              exact s_X12_binds_62 C 5 M r h hp
            · have h := az_f c6 h
              refine az_bipush (v := 6) C dX12_binds_56 (by decide) ?_
              refine az_goto C 62 dX12_binds_58 (by decide) ?_
              refine az_sub [] rfl ?_
              exact s_X12_binds_62 C 6 M r h hp
          · have h := az_f c5 h
            refine az_iconst (v := 4) C dX12_binds_46 (by decide) ?_
            refine az_goto C 62 dX12_binds_47 (by decide) ?_
            refine az_sub [] rfl ?_
            exact s_X12_binds_62 C 4 M r h hp
        · have h := az_t c4 h
          refine az_iconst (v := 3) C dX12_binds_36 (by decide) ?_
          refine az_goto C 62 dX12_binds_37 (by decide) ?_
          refine az_sub [] rfl ?_
          exact s_X12_binds_62 C 3 M r h hp
      · have h := az_t c3 h
        refine az_iconst (v := 2) C dX12_binds_26 (by decide) ?_
        refine az_goto C 62 dX12_binds_27 (by decide) ?_
        refine az_sub [] rfl ?_
        exact s_X12_binds_62 C 2 M r h hp
    · have h := az_t c2 h
      refine az_iconst (v := 1) C dX12_binds_16 (by decide) ?_
      refine az_goto C 62 dX12_binds_17 (by decide) ?_
      refine az_sub [] rfl ?_
      exact s_X12_binds_62 C 1 M r h hp
  · have h := az_f c1 h
    refine az_iconst (v := 0) C dX12_binds_6 (by decide) ?_
    refine az_goto C 62 dX12_binds_7 (by decide) ?_
    refine az_sub [] rfl ?_
    exact s_X12_binds_62 C 0 M r h hp
theorem c_X12_binds {l : Launch} {V : az_V} (hL : az_L V) (p0 : Int32) (M : az_M) {r : Int32} (h : f_X12_binds p0 M = some r) : az_Ct l V yX12_binds cX12_binds 1 (some .int) 1 [.int p0] M (fun v M' => v = some (.int r) ∧ M' = M) :=
  az_Ct.of (by decide) (Nat.le_of_ble_eq_true rfl) (fun Y _ _ C => s_X12_binds_e C p0 M r h ⟨rfl, rfl⟩)
set_option maxHeartbeats 4000000 in
set_option maxRecDepth 100000 in
theorem s_X12_settle_63 {Y : az_Y} {V : az_V} {post : Option Value → az_M → Prop} (C : az_C Y V cX12_settle 2 RX12 none 2) (G : Nat) (K0 : (Int32 → az_M → Option az_M)) (hK0 : ∀ (x1 : Int32) (M : az_M) (r : az_M), K0 x1 M = some r → post none r → AW Y V (az_end Y V post) 2 M 0 [(0, .ref (az_ad V 40)), (1, .int x1)] []) (x1 : Int32) (M : az_M) (r : az_M) (h : f_X12_settle_63 G K0 x1 M = some r) (hp : post none r) : AW Y V (az_end Y V post) 2 M 63 [(0, .ref (az_ad V 40)), (1, .int x1)] [] := by
  have o40 := C.hL.at 40 (ci := 12) rfl
  have a52 := C.hL.ar 52 (t := 0) (len := 400) rfl
  have a54 := C.hL.ar 54 (t := 0) (len := 400) rfl
  unfold f_X12_settle_63 at h
  refine az_aload_n C 0 dX12_settle_63 rfl ?_
  refine az_getr (r := 52) C o40 fl_X12_48 rfl rfl dX12_settle_64 ?_
  refine az_aload_n C 0 dX12_settle_67 rfl ?_
  refine az_getr (r := 54) C o40 fl_X12_54 rfl rfl dX12_settle_68 ?_
  refine az_aload_n C 0 dX12_settle_71 rfl ?_
  refine az_geti C o40 fl_X12_310 rfl dX12_settle_72 ?_
  obtain ⟨g13, h⟩ := az_g h
  refine az_ild (k := (M.1 40 29).toNatClampNeg) C a54 g13 rfl dX12_settle_75 ?_
  refine az_aload_n C 0 dX12_settle_76 rfl ?_
  refine az_geti C o40 fl_X12_307 rfl dX12_settle_77 ?_
  obtain ⟨g14, h⟩ := az_g h
  refine az_ist (k := (M.1 54 ((M.1 40 29).toNatClampNeg)).toNatClampNeg) C a52 g14 rfl dX12_settle_80 ?_
  refine az_goto C 0 dX12_settle_81 (by decide) ?_
  exact hK0 x1 (az_i M 52 ((M.1 54 ((M.1 40 29).toNatClampNeg)).toNatClampNeg) (M.1 40 23)) r h hp
set_option maxHeartbeats 4000000 in
set_option maxRecDepth 100000 in
theorem s_X12_settle_101 {Y : az_Y} {V : az_V} {post : Option Value → az_M → Prop} (C : az_C Y V cX12_settle 2 RX12 none 2) (G : Nat)  (M : az_M) (r : az_M) (h : f_X12_settle_101 G M = some r) (hp : post none r) : AW Y V (az_end Y V post) 2 M 101 [] [] := by
  unfold f_X12_settle_101 at h
  obtain rfl := Option.some.inj h
  exact az_vret C rfl dX12_settle_101 hp
set_option maxHeartbeats 4000000 in
set_option maxRecDepth 100000 in
theorem s_X12_settle_0 {Y : az_Y} {V : az_V} {post : Option Value → az_M → Prop} (C : az_C Y V cX12_settle 2 RX12 none 2) (G : Nat) : ∀ (F : Nat) (x1 : Int32) (M : az_M) (r : az_M), f_X12_settle_0 G F x1 M = some r → post none r → AW Y V (az_end Y V post) 2 M 0 [(0, .ref (az_ad V 40)), (1, .int x1)] [] := by
  have o40 := C.hL.at 40 (ci := 12) rfl
  have a53 := C.hL.ar 53 (t := 0) (len := 400) rfl
  intro F
  induction F with
  | zero =>
    intro x1 M r h
    exact absurd (show (none : Option az_M) = some r from h) (fun q => by cases q)
  | succ F ih =>
    intro x1 M r h hp
    rw [f_X12_settle_0] at h
    refine az_aload_n C 0 dX12_settle_0 rfl ?_
    refine az_geti C o40 fl_X12_310 rfl dX12_settle_1 ?_
    refine az_if_le C 101 dX12_settle_4 (by decide) (fun c1 => ?_) (fun c1 => ?_)
    · have h := az_t c1 h
      refine az_sub [] rfl ?_
      exact s_X12_settle_101 C G M r h hp
    · have h := az_f c1 h
      refine az_aload_n C 0 dX12_settle_7 rfl ?_
      refine az_getr (r := 53) C o40 fl_X12_51 rfl rfl dX12_settle_8 ?_
      refine az_aload_n C 0 dX12_settle_11 rfl ?_
      refine az_geti C o40 fl_X12_310 rfl dX12_settle_12 ?_
      refine az_iconst (v := 1) C dX12_settle_15 (by decide) ?_
      refine az_isub C dX12_settle_16 ?_
      obtain ⟨g2, h⟩ := az_g h
      refine az_ild (k := ((M.1 40 29) - 1).toNatClampNeg) C a53 g2 rfl dX12_settle_17 ?_
      obtain ⟨q3, e4, h⟩ := az_b h
      refine az_cS (rest := []) (st2 := [.int q3]) C [.int (M.1 53 (((M.1 40 29) - 1).toNatClampNeg))] (c_X12_binds C.hL (M.1 53 (((M.1 40 29) - 1).toNatClampNeg)) M e4) (by decide) li_X12_313 rfl rfl (Nat.le_of_ble_eq_true rfl) dX12_settle_18 rfl ?_
      refine az_iload_n C 1 dX12_settle_21 rfl ?_
      refine az_icmp_lt C 101 dX12_settle_22 (by decide) (fun c5 => ?_) (fun c5 => ?_)
      · have h := az_t c5 h
        refine az_sub [] rfl ?_
        exact s_X12_settle_101 C G M r h hp
      · have h := az_f c5 h
        refine az_aload_n C 0 dX12_settle_25 rfl ?_
        refine az_dup C dX12_settle_26 rfl ?_
        refine az_geti C o40 fl_X12_310 rfl dX12_settle_27 ?_
        refine az_iconst (v := 1) C dX12_settle_30 (by decide) ?_
        refine az_isub C dX12_settle_31 ?_
        refine az_puti C o40 fl_X12_310 rfl rfl rfl rfl dX12_settle_32 ?_
        refine az_aload_n C 0 dX12_settle_35 rfl ?_
        refine az_getr (r := 53) C o40 fl_X12_51 rfl rfl dX12_settle_36 ?_
        refine az_aload_n C 0 dX12_settle_39 rfl ?_
        refine az_geti C o40 fl_X12_310 rfl dX12_settle_40 ?_
        obtain ⟨g6, h⟩ := az_g h
        refine az_ild (k := ((az_i M 40 29 ((M.1 40 29) - 1)).1 40 29).toNatClampNeg) C a53 g6 rfl dX12_settle_43 ?_
        refine az_bipush (v := 29) C dX12_settle_44 (by decide) ?_
        refine az_icmp_eq C 63 dX12_settle_46 (by decide) (fun c7 => ?_) (fun c7 => ?_)
        · have h := az_t c7 h
          exact s_X12_settle_63 C G (f_X12_settle_0 G F) ih x1 (az_i M 40 29 ((M.1 40 29) - 1)) r h hp
        · have h := az_f c7 h
          refine az_aload_n C 0 dX12_settle_49 rfl ?_
          refine az_getr (r := 53) C o40 fl_X12_51 rfl rfl dX12_settle_50 ?_
          refine az_aload_n C 0 dX12_settle_53 rfl ?_
          refine az_geti C o40 fl_X12_310 rfl dX12_settle_54 ?_
          obtain ⟨g8, h⟩ := az_g h
          refine az_ild (k := ((az_i M 40 29 ((M.1 40 29) - 1)).1 40 29).toNatClampNeg) C a53 g8 rfl dX12_settle_57 ?_
          refine az_bipush (v := 30) C dX12_settle_58 (by decide) ?_
          refine az_icmp_ne C 84 dX12_settle_60 (by decide) (fun c9 => ?_) (fun c9 => ?_)
          · have h := az_f c9 h
            refine az_aload_n C 0 dX12_settle_84 rfl ?_
            refine az_aload_n C 0 dX12_settle_85 rfl ?_
            refine az_getr (r := 53) C o40 fl_X12_51 rfl rfl dX12_settle_86 ?_
            refine az_aload_n C 0 dX12_settle_89 rfl ?_
            refine az_geti C o40 fl_X12_310 rfl dX12_settle_90 ?_
            obtain ⟨g10, h⟩ := az_g h
            refine az_ild (k := ((az_i M 40 29 ((M.1 40 29) - 1)).1 40 29).toNatClampNeg) C a53 g10 rfl dX12_settle_93 ?_
            refine az_iconst (v := 0) C dX12_settle_94 (by decide) ?_
            obtain ⟨q11, e12, h⟩ := az_b h
            refine az_cV (rest := []) (st2 := []) C [.int ((az_i M 40 29 ((M.1 40 29) - 1)).1 53 (((az_i M 40 29 ((M.1 40 29) - 1)).1 40 29).toNatClampNeg)), .int 0] (c_X12_emit C.hL ((az_i M 40 29 ((M.1 40 29) - 1)).1 53 (((az_i M 40 29 ((M.1 40 29) - 1)).1 40 29).toNatClampNeg)) 0 (az_i M 40 29 ((M.1 40 29) - 1)) e12) (by decide) li_X12_316 o40 (by decide) rfl rfl (Nat.le_of_ble_eq_true rfl) dX12_settle_95 rfl ?_
            refine az_goto C 0 dX12_settle_98 (by decide) ?_
            exact ih x1 q11 r h hp
          · have h := az_t c9 h
            exact s_X12_settle_63 C G (f_X12_settle_0 G F) ih x1 (az_i M 40 29 ((M.1 40 29) - 1)) r h hp
set_option maxHeartbeats 4000000 in
set_option maxRecDepth 100000 in
theorem s_X12_settle_e {Y : az_Y} {V : az_V} {post : Option Value → az_M → Prop} (C : az_C Y V cX12_settle 2 RX12 none 2) (G : Nat) (p0 : Int32) (M : az_M) (r : az_M) (h : f_X12_settle G p0 M = some r) (hp : post none r) : AW Y V (az_end Y V post) 2 M 0 [(0, .ref (az_ad V 40)), (1, .int p0)] [] := by
  unfold f_X12_settle at h
  exact s_X12_settle_0 C G G p0 M r h hp
theorem c_X12_settle {l : Launch} {V : az_V} (hL : az_L V) (G : Nat) (p0 : Int32) (M : az_M) {r : az_M} (h : f_X12_settle G p0 M = some r) : az_Ct l V yX12_settle cX12_settle 2 none 2 [.ref (az_ad V 40), .int p0] M (fun v M' => v = none ∧ M' = r) :=
  az_Ct.of (by decide) (Nat.le_of_ble_eq_true rfl) (fun Y _ _ C => s_X12_settle_e C G p0 M r h ⟨rfl, rfl⟩)
set_option maxHeartbeats 4000000 in
set_option maxRecDepth 100000 in
theorem s_X12_inner_33 {Y : az_Y} {V : az_V} {post : Option Value → az_M → Prop} (C : az_C Y V cX12_inner 3 RX12 (some .int) 1) (G : Nat) (K4 : (Int32 → Int32 → az_M → Option Int32)) (hK4 : ∀ (x1 : Int32) (x2 : Int32) (M : az_M) (r : Int32), K4 x1 x2 M = some r → post (some (.int r)) M → AW Y V (az_end Y V post) 3 M 4 [(0, .ref (az_ad V 40)), (1, .int x1), (2, .int x2)] []) (x2 : Int32) (s0 : Int32) (M : az_M) (r : Int32) (h : f_X12_inner_33 G K4 x2 s0 M = some r) (hp : post (some (.int r)) M) : AW Y V (az_end Y V post) 3 M 33 [(0, .ref (az_ad V 40)), (2, .int x2)] [.int s0] := by
  unfold f_X12_inner_33 at h
  refine az_istore_n C dX12_inner_33 rfl (by decide) rfl ?_
  refine az_iinc (v := (x2 + 1)) C 2 dX12_inner_34 rfl rfl (by decide) rfl ?_
  refine az_goto C 4 dX12_inner_37 (by decide) ?_
  refine az_sub [2, 1, 0] rfl ?_
  exact hK4 s0 (x2 + 1) M r h hp
set_option maxHeartbeats 4000000 in
set_option maxRecDepth 100000 in
theorem s_X12_inner_4 {Y : az_Y} {V : az_V} {post : Option Value → az_M → Prop} (C : az_C Y V cX12_inner 3 RX12 (some .int) 1) (G : Nat) : ∀ (F : Nat) (x1 : Int32) (x2 : Int32) (M : az_M) (r : Int32), f_X12_inner_4 G F x1 x2 M = some r → post (some (.int r)) M → AW Y V (az_end Y V post) 3 M 4 [(0, .ref (az_ad V 40)), (1, .int x1), (2, .int x2)] [] := by
  have o40 := C.hL.at 40 (ci := 12) rfl
  have a53 := C.hL.ar 53 (t := 0) (len := 400) rfl
  intro F
  induction F with
  | zero =>
    intro x1 x2 M r h
    exact absurd (show (none : Option Int32) = some r from h) (fun q => by cases q)
  | succ F ih =>
    intro x1 x2 M r h hp
    rw [f_X12_inner_4] at h
    refine az_iload_n C 2 dX12_inner_4 rfl ?_
    refine az_aload_n C 0 dX12_inner_5 rfl ?_
    refine az_geti C o40 fl_X12_310 rfl dX12_inner_6 ?_
    refine az_icmp_ge C 40 dX12_inner_9 (by decide) (fun c1 => ?_) (fun c1 => ?_)
    · have h := az_t c1 h
      refine az_iload_n C 1 dX12_inner_40 rfl ?_
      obtain rfl := Option.some.inj h
      exact az_iret C dX12_inner_41 hp
    · have h := az_f c1 h
      refine az_aload_n C 0 dX12_inner_12 rfl ?_
      refine az_getr (r := 53) C o40 fl_X12_51 rfl rfl dX12_inner_13 ?_
      refine az_iload_n C 2 dX12_inner_16 rfl ?_
      obtain ⟨g2, h⟩ := az_g h
      refine az_ild (k := x2.toNatClampNeg) C a53 g2 rfl dX12_inner_17 ?_
      refine az_bipush (v := 31) C dX12_inner_18 (by decide) ?_
      refine az_icmp_lt C 32 dX12_inner_20 (by decide) (fun c3 => ?_) (fun c3 => ?_)
      · have h := az_t c3 h
        refine az_iload_n C 1 dX12_inner_32 rfl ?_
        refine az_sub [0, 2] rfl ?_
        exact s_X12_inner_33 C G (f_X12_inner_4 G F) ih x2 x1 M r h hp
      · have h := az_f c3 h
        refine az_aload_n C 0 dX12_inner_23 rfl ?_
        refine az_getr (r := 53) C o40 fl_X12_51 rfl rfl dX12_inner_24 ?_
        refine az_iload_n C 2 dX12_inner_27 rfl ?_
        obtain ⟨g4, h⟩ := az_g h
        refine az_ild (k := x2.toNatClampNeg) C a53 g4 rfl dX12_inner_28 ?_
        refine az_goto C 33 dX12_inner_29 (by decide) ?_
        refine az_sub [0, 2] rfl ?_
        exact s_X12_inner_33 C G (f_X12_inner_4 G F) ih x2 (M.1 53 x2.toNatClampNeg) M r h hp
set_option maxHeartbeats 4000000 in
set_option maxRecDepth 100000 in
theorem s_X12_inner_e {Y : az_Y} {V : az_V} {post : Option Value → az_M → Prop} (C : az_C Y V cX12_inner 3 RX12 (some .int) 1) (G : Nat)  (M : az_M) (r : Int32) (h : f_X12_inner G M = some r) (hp : post (some (.int r)) M) : AW Y V (az_end Y V post) 3 M 0 [(0, .ref (az_ad V 40))] [] := by
  unfold f_X12_inner at h
  refine az_iconst (v := (-1)) C dX12_inner_0 (by decide) ?_
  refine az_istore_n C dX12_inner_1 rfl (by decide) rfl ?_
  refine az_iconst (v := 0) C dX12_inner_2 (by decide) ?_
  refine az_istore_n C dX12_inner_3 rfl (by decide) rfl ?_
  refine az_sub [2, 1, 0] rfl ?_
  exact s_X12_inner_4 C G G (-1) 0 M r h hp
theorem c_X12_inner {l : Launch} {V : az_V} (hL : az_L V) (G : Nat)  (M : az_M) {r : Int32} (h : f_X12_inner G M = some r) : az_Ct l V yX12_inner cX12_inner 3 (some .int) 1 [.ref (az_ad V 40)] M (fun v M' => v = some (.int r) ∧ M' = M) :=
  az_Ct.of (by decide) (Nat.le_of_ble_eq_true rfl) (fun Y _ _ C => s_X12_inner_e C G M r h ⟨rfl, rfl⟩)
set_option maxHeartbeats 4000000 in
set_option maxRecDepth 100000 in
theorem s_X12_isCompared_64 {Y : az_Y} {V : az_V} {post : Option Value → az_M → Prop} (C : az_C Y V cX12_isCompared 2 RX12 (some .boolean) 2) (G : Nat) (s0 : Int32) (M : az_M) (r : Int32) (h : f_X12_isCompared_64 G s0 M = some r) (hp : post (some (.int r)) M) : AW Y V (az_end Y V post) 2 M 64 [] [.int s0] := by
  unfold f_X12_isCompared_64 at h
  obtain ⟨g11, h⟩ := az_g2 h
  obtain rfl := Option.some.inj h
  exact az_zret C dX12_isCompared_64 (az_nz g11) hp
set_option maxHeartbeats 4000000 in
set_option maxRecDepth 100000 in
theorem s_X12_isCompared_63 {Y : az_Y} {V : az_V} {post : Option Value → az_M → Prop} (C : az_C Y V cX12_isCompared 2 RX12 (some .boolean) 2) (G : Nat)  (M : az_M) (r : Int32) (h : f_X12_isCompared_63 G M = some r) (hp : post (some (.int r)) M) : AW Y V (az_end Y V post) 2 M 63 [] [] := by
  unfold f_X12_isCompared_63 at h
  refine az_iconst (v := 0) C dX12_isCompared_63 (by decide) ?_
  exact s_X12_isCompared_64 C G 0 M r h hp
set_option maxHeartbeats 4000000 in
set_option maxRecDepth 100000 in
theorem s_X12_isCompared_36 {Y : az_Y} {V : az_V} {post : Option Value → az_M → Prop} (C : az_C Y V cX12_isCompared 2 RX12 (some .boolean) 2) (G : Nat) (x1 : Int32) (M : az_M) (r : Int32) (h : f_X12_isCompared_36 G x1 M = some r) (hp : post (some (.int r)) M) : AW Y V (az_end Y V post) 2 M 36 [(0, .ref (az_ad V 40)), (1, .int x1)] [] := by
  have o40 := C.hL.at 40 (ci := 12) rfl
  have a53 := C.hL.ar 53 (t := 0) (len := 400) rfl
  unfold f_X12_isCompared_36 at h
  refine az_iload_n C 1 dX12_isCompared_36 rfl ?_
  refine az_if_lt C 63 dX12_isCompared_37 (by decide) (fun c6 => ?_) (fun c6 => ?_)
  · have h := az_t c6 h
    refine az_sub [] rfl ?_
    exact s_X12_isCompared_63 C G M r h hp
  · have h := az_f c6 h
    refine az_aload_n C 0 dX12_isCompared_40 rfl ?_
    refine az_getr (r := 53) C o40 fl_X12_51 rfl rfl dX12_isCompared_41 ?_
    refine az_iload_n C 1 dX12_isCompared_44 rfl ?_
    obtain ⟨g7, h⟩ := az_g h
    refine az_ild (k := x1.toNatClampNeg) C a53 g7 rfl dX12_isCompared_45 ?_
    refine az_i2l C dX12_isCompared_46 ?_
    refine az_ldc2 C ck_X12_322 dX12_isCompared_47 ?_
    refine az_ldc2 C ck_X12_324 dX12_isCompared_50 ?_
    obtain ⟨q8, e9, h⟩ := az_b h
    refine az_cS (rest := []) (st2 := [.int q8]) C [.long ((M.1 53 x1.toNatClampNeg).toInt64), .long 25, .long 27] (c_X12_in C.hL ((M.1 53 x1.toNatClampNeg).toInt64) 25 27 M e9) (by decide) li_X12_169 rfl rfl (Nat.le_of_ble_eq_true rfl) dX12_isCompared_53 rfl ?_
    refine az_if_eq C 63 dX12_isCompared_56 (by decide) (fun c10 => ?_) (fun c10 => ?_)
    · have h := az_t c10 h
      refine az_sub [] rfl ?_
      exact s_X12_isCompared_63 C G M r h hp
    · have h := az_f c10 h
      refine az_iconst (v := 1) C dX12_isCompared_59 (by decide) ?_
      refine az_goto C 64 dX12_isCompared_60 (by decide) ?_
      refine az_sub [] rfl ?_
      exact s_X12_isCompared_64 C G 1 M r h hp
set_option maxHeartbeats 4000000 in
set_option maxRecDepth 100000 in
theorem s_X12_isCompared_7 {Y : az_Y} {V : az_V} {post : Option Value → az_M → Prop} (C : az_C Y V cX12_isCompared 2 RX12 (some .boolean) 2) (G : Nat) : ∀ (F : Nat) (x1 : Int32) (M : az_M) (r : Int32), f_X12_isCompared_7 G F x1 M = some r → post (some (.int r)) M → AW Y V (az_end Y V post) 2 M 7 [(0, .ref (az_ad V 40)), (1, .int x1)] [] := by
  have o40 := C.hL.at 40 (ci := 12) rfl
  have a53 := C.hL.ar 53 (t := 0) (len := 400) rfl
  intro F
  induction F with
  | zero =>
    intro x1 M r h
    exact absurd (show (none : Option Int32) = some r from h) (fun q => by cases q)
  | succ F ih =>
    intro x1 M r h hp
    rw [f_X12_isCompared_7] at h
    refine az_iload_n C 1 dX12_isCompared_7 rfl ?_
    refine az_if_lt C 36 dX12_isCompared_8 (by decide) (fun c1 => ?_) (fun c1 => ?_)
    · have h := az_t c1 h
      exact s_X12_isCompared_36 C G x1 M r h hp
    · have h := az_f c1 h
      refine az_aload_n C 0 dX12_isCompared_11 rfl ?_
      refine az_getr (r := 53) C o40 fl_X12_51 rfl rfl dX12_isCompared_12 ?_
      refine az_iload_n C 1 dX12_isCompared_15 rfl ?_
      obtain ⟨g2, h⟩ := az_g h
      refine az_ild (k := x1.toNatClampNeg) C a53 g2 rfl dX12_isCompared_16 ?_
      refine az_i2l C dX12_isCompared_17 ?_
      refine az_ldc2 C ck_X12_200 dX12_isCompared_18 ?_
      refine az_ldc2 C ck_X12_320 dX12_isCompared_21 ?_
      obtain ⟨q3, e4, h⟩ := az_b h
      refine az_cS (rest := []) (st2 := [.int q3]) C [.long ((M.1 53 x1.toNatClampNeg).toInt64), .long 20, .long 24] (c_X12_in C.hL ((M.1 53 x1.toNatClampNeg).toInt64) 20 24 M e4) (by decide) li_X12_169 rfl rfl (Nat.le_of_ble_eq_true rfl) dX12_isCompared_24 rfl ?_
      refine az_if_eq C 36 dX12_isCompared_27 (by decide) (fun c5 => ?_) (fun c5 => ?_)
      · have h := az_t c5 h
        exact s_X12_isCompared_36 C G x1 M r h hp
      · have h := az_f c5 h
        refine az_iinc (v := (x1 + (-1))) C 1 dX12_isCompared_30 rfl rfl (by decide) rfl ?_
        refine az_goto C 7 dX12_isCompared_33 (by decide) ?_
        refine az_sub [1, 0] rfl ?_
        exact ih (x1 + (-1)) M r h hp
set_option maxHeartbeats 4000000 in
set_option maxRecDepth 100000 in
theorem s_X12_isCompared_e {Y : az_Y} {V : az_V} {post : Option Value → az_M → Prop} (C : az_C Y V cX12_isCompared 2 RX12 (some .boolean) 2) (G : Nat)  (M : az_M) (r : Int32) (h : f_X12_isCompared G M = some r) (hp : post (some (.int r)) M) : AW Y V (az_end Y V post) 2 M 0 [(0, .ref (az_ad V 40))] [] := by
  have o40 := C.hL.at 40 (ci := 12) rfl
  unfold f_X12_isCompared at h
  refine az_aload_n C 0 dX12_isCompared_0 rfl ?_
  refine az_geti C o40 fl_X12_310 rfl dX12_isCompared_1 ?_
  refine az_iconst (v := 1) C dX12_isCompared_4 (by decide) ?_
  refine az_isub C dX12_isCompared_5 ?_
  refine az_istore_n C dX12_isCompared_6 rfl (by decide) rfl ?_
  refine az_sub [1, 0] rfl ?_
  exact s_X12_isCompared_7 C G G ((M.1 40 29) - 1) M r h hp
theorem c_X12_isCompared {l : Launch} {V : az_V} (hL : az_L V) (G : Nat)  (M : az_M) {r : Int32} (h : f_X12_isCompared G M = some r) : az_Ct l V yX12_isCompared cX12_isCompared 2 (some .boolean) 2 [.ref (az_ad V 40)] M (fun v M' => v = some (.int r) ∧ M' = M) :=
  az_Ct.of (by decide) (Nat.le_of_ble_eq_true rfl) (fun Y _ _ C => s_X12_isCompared_e C G M r h ⟨rfl, rfl⟩)
set_option maxHeartbeats 4000000 in
set_option maxRecDepth 100000 in
theorem s_X12_partAt_30 {Y : az_Y} {V : az_V} {post : Option Value → az_M → Prop} (C : az_C Y V cX12_partAt 3 RX12 (some .int) 2) (G : Nat) (K4 : (Int32 → Int32 → az_M → Option Int32)) (hK4 : ∀ (x1 : Int32) (x2 : Int32) (M : az_M) (r : Int32), K4 x1 x2 M = some r → post (some (.int r)) M → AW Y V (az_end Y V post) 3 M 4 [(0, .ref (az_ad V 40)), (1, .int x1), (2, .int x2)] []) (x2 : Int32) (s0 : Int32) (M : az_M) (r : Int32) (h : f_X12_partAt_30 G K4 x2 s0 M = some r) (hp : post (some (.int r)) M) : AW Y V (az_end Y V post) 3 M 30 [(0, .ref (az_ad V 40)), (2, .int x2)] [.int s0] := by
  unfold f_X12_partAt_30 at h
  refine az_istore_n C dX12_partAt_30 rfl (by decide) rfl ?_
  refine az_iinc (v := (x2 + 1)) C 2 dX12_partAt_31 rfl rfl (by decide) rfl ?_
  refine az_goto C 4 dX12_partAt_34 (by decide) ?_
  refine az_sub [2, 1, 0] rfl ?_
  exact hK4 s0 (x2 + 1) M r h hp
set_option maxHeartbeats 4000000 in
set_option maxRecDepth 100000 in
theorem s_X12_partAt_4 {Y : az_Y} {V : az_V} {post : Option Value → az_M → Prop} (C : az_C Y V cX12_partAt 3 RX12 (some .int) 2) (G : Nat) : ∀ (F : Nat) (x1 : Int32) (x2 : Int32) (M : az_M) (r : Int32), f_X12_partAt_4 G F x1 x2 M = some r → post (some (.int r)) M → AW Y V (az_end Y V post) 3 M 4 [(0, .ref (az_ad V 40)), (1, .int x1), (2, .int x2)] [] := by
  have o40 := C.hL.at 40 (ci := 12) rfl
  have a55 := C.hL.ar 55 (t := 1) (len := 11) rfl
  intro F
  induction F with
  | zero =>
    intro x1 x2 M r h
    exact absurd (show (none : Option Int32) = some r from h) (fun q => by cases q)
  | succ F ih =>
    intro x1 x2 M r h hp
    rw [f_X12_partAt_4] at h
    refine az_iload_n C 2 dX12_partAt_4 rfl ?_
    refine az_bipush (v := 11) C dX12_partAt_5 (by decide) ?_
    refine az_icmp_ge C 37 dX12_partAt_7 (by decide) (fun c1 => ?_) (fun c1 => ?_)
    · have h := az_t c1 h
      refine az_iload_n C 1 dX12_partAt_37 rfl ?_
      obtain rfl := Option.some.inj h
      exact az_iret C dX12_partAt_38 hp
    · have h := az_f c1 h
      refine az_aload_n C 0 dX12_partAt_10 rfl ?_
      refine az_aload_n C 0 dX12_partAt_11 rfl ?_
      refine az_getr (r := 55) C o40 fl_X12_79 rfl rfl dX12_partAt_12 ?_
      refine az_iload_n C 2 dX12_partAt_15 rfl ?_
      obtain ⟨g2, h⟩ := az_g h
      refine az_lld (k := x2.toNatClampNeg) C a55 g2 rfl dX12_partAt_16 ?_
      obtain ⟨q3, e4, h⟩ := az_b h
      refine az_cV (rest := []) (st2 := [.int q3]) C [.long (M.2.1 55 x2.toNatClampNeg)] (c_X12_isWord C.hL (M.2.1 55 x2.toNatClampNeg) M e4) (by decide) li_X12_326 o40 (by decide) rfl rfl (Nat.le_of_ble_eq_true rfl) dX12_partAt_17 rfl ?_
      refine az_if_eq C 29 dX12_partAt_20 (by decide) (fun c5 => ?_) (fun c5 => ?_)
      · have h := az_t c5 h
        refine az_iload_n C 1 dX12_partAt_29 rfl ?_
        refine az_sub [0, 2] rfl ?_
        exact s_X12_partAt_30 C G (f_X12_partAt_4 G F) ih x2 x1 M r h hp
      · have h := az_f c5 h
        refine az_iload_n C 2 dX12_partAt_23 rfl ?_
        refine az_iconst (v := 1) C dX12_partAt_24 (by decide) ?_
        refine az_iadd C dX12_partAt_25 ?_
        refine az_goto C 30 dX12_partAt_26 (by decide) ?_
        refine az_sub [0, 2] rfl ?_
        exact s_X12_partAt_30 C G (f_X12_partAt_4 G F) ih x2 (x2 + 1) M r h hp
set_option maxHeartbeats 4000000 in
set_option maxRecDepth 100000 in
theorem s_X12_partAt_e {Y : az_Y} {V : az_V} {post : Option Value → az_M → Prop} (C : az_C Y V cX12_partAt 3 RX12 (some .int) 2) (G : Nat)  (M : az_M) (r : Int32) (h : f_X12_partAt G M = some r) (hp : post (some (.int r)) M) : AW Y V (az_end Y V post) 3 M 0 [(0, .ref (az_ad V 40))] [] := by
  unfold f_X12_partAt at h
  refine az_iconst (v := (-1)) C dX12_partAt_0 (by decide) ?_
  refine az_istore_n C dX12_partAt_1 rfl (by decide) rfl ?_
  refine az_iconst (v := 0) C dX12_partAt_2 (by decide) ?_
  refine az_istore_n C dX12_partAt_3 rfl (by decide) rfl ?_
  refine az_sub [2, 1, 0] rfl ?_
  exact s_X12_partAt_4 C G G (-1) 0 M r h hp
theorem c_X12_partAt {l : Launch} {V : az_V} (hL : az_L V) (G : Nat)  (M : az_M) {r : Int32} (h : f_X12_partAt G M = some r) : az_Ct l V yX12_partAt cX12_partAt 3 (some .int) 2 [.ref (az_ad V 40)] M (fun v M' => v = some (.int r) ∧ M' = M) :=
  az_Ct.of (by decide) (Nat.le_of_ble_eq_true rfl) (fun Y _ _ C => s_X12_partAt_e C G M r h ⟨rfl, rfl⟩)
set_option maxHeartbeats 4000000 in
set_option maxRecDepth 100000 in
theorem s_X12_orderPartAt_30 {Y : az_Y} {V : az_V} {post : Option Value → az_M → Prop} (C : az_C Y V cX12_orderPartAt 3 RX12 (some .int) 2) (G : Nat) (K4 : (Int32 → Int32 → az_M → Option Int32)) (hK4 : ∀ (x1 : Int32) (x2 : Int32) (M : az_M) (r : Int32), K4 x1 x2 M = some r → post (some (.int r)) M → AW Y V (az_end Y V post) 3 M 4 [(0, .ref (az_ad V 40)), (1, .int x1), (2, .int x2)] []) (x2 : Int32) (s0 : Int32) (M : az_M) (r : Int32) (h : f_X12_orderPartAt_30 G K4 x2 s0 M = some r) (hp : post (some (.int r)) M) : AW Y V (az_end Y V post) 3 M 30 [(0, .ref (az_ad V 40)), (2, .int x2)] [.int s0] := by
  unfold f_X12_orderPartAt_30 at h
  refine az_istore_n C dX12_orderPartAt_30 rfl (by decide) rfl ?_
  refine az_iinc (v := (x2 + 1)) C 2 dX12_orderPartAt_31 rfl rfl (by decide) rfl ?_
  refine az_goto C 4 dX12_orderPartAt_34 (by decide) ?_
  refine az_sub [2, 1, 0] rfl ?_
  exact hK4 s0 (x2 + 1) M r h hp
set_option maxHeartbeats 4000000 in
set_option maxRecDepth 100000 in
theorem s_X12_orderPartAt_4 {Y : az_Y} {V : az_V} {post : Option Value → az_M → Prop} (C : az_C Y V cX12_orderPartAt 3 RX12 (some .int) 2) (G : Nat) : ∀ (F : Nat) (x1 : Int32) (x2 : Int32) (M : az_M) (r : Int32), f_X12_orderPartAt_4 G F x1 x2 M = some r → post (some (.int r)) M → AW Y V (az_end Y V post) 3 M 4 [(0, .ref (az_ad V 40)), (1, .int x1), (2, .int x2)] [] := by
  have o40 := C.hL.at 40 (ci := 12) rfl
  have a56 := C.hL.ar 56 (t := 1) (len := 8) rfl
  intro F
  induction F with
  | zero =>
    intro x1 x2 M r h
    exact absurd (show (none : Option Int32) = some r from h) (fun q => by cases q)
  | succ F ih =>
    intro x1 x2 M r h hp
    rw [f_X12_orderPartAt_4] at h
    refine az_iload_n C 2 dX12_orderPartAt_4 rfl ?_
    refine az_bipush (v := 8) C dX12_orderPartAt_5 (by decide) ?_
    refine az_icmp_ge C 37 dX12_orderPartAt_7 (by decide) (fun c1 => ?_) (fun c1 => ?_)
    · have h := az_t c1 h
      refine az_iload_n C 1 dX12_orderPartAt_37 rfl ?_
      obtain rfl := Option.some.inj h
      exact az_iret C dX12_orderPartAt_38 hp
    · have h := az_f c1 h
      refine az_aload_n C 0 dX12_orderPartAt_10 rfl ?_
      refine az_aload_n C 0 dX12_orderPartAt_11 rfl ?_
      refine az_getr (r := 56) C o40 fl_X12_91 rfl rfl dX12_orderPartAt_12 ?_
      refine az_iload_n C 2 dX12_orderPartAt_15 rfl ?_
      obtain ⟨g2, h⟩ := az_g h
      refine az_lld (k := x2.toNatClampNeg) C a56 g2 rfl dX12_orderPartAt_16 ?_
      obtain ⟨q3, e4, h⟩ := az_b h
      refine az_cV (rest := []) (st2 := [.int q3]) C [.long (M.2.1 56 x2.toNatClampNeg)] (c_X12_isWord C.hL (M.2.1 56 x2.toNatClampNeg) M e4) (by decide) li_X12_326 o40 (by decide) rfl rfl (Nat.le_of_ble_eq_true rfl) dX12_orderPartAt_17 rfl ?_
      refine az_if_eq C 29 dX12_orderPartAt_20 (by decide) (fun c5 => ?_) (fun c5 => ?_)
      · have h := az_t c5 h
        refine az_iload_n C 1 dX12_orderPartAt_29 rfl ?_
        refine az_sub [0, 2] rfl ?_
        exact s_X12_orderPartAt_30 C G (f_X12_orderPartAt_4 G F) ih x2 x1 M r h hp
      · have h := az_f c5 h
        refine az_iload_n C 2 dX12_orderPartAt_23 rfl ?_
        refine az_iconst (v := 1) C dX12_orderPartAt_24 (by decide) ?_
        refine az_iadd C dX12_orderPartAt_25 ?_
        refine az_goto C 30 dX12_orderPartAt_26 (by decide) ?_
        refine az_sub [0, 2] rfl ?_
        exact s_X12_orderPartAt_30 C G (f_X12_orderPartAt_4 G F) ih x2 (x2 + 1) M r h hp
set_option maxHeartbeats 4000000 in
set_option maxRecDepth 100000 in
theorem s_X12_orderPartAt_e {Y : az_Y} {V : az_V} {post : Option Value → az_M → Prop} (C : az_C Y V cX12_orderPartAt 3 RX12 (some .int) 2) (G : Nat)  (M : az_M) (r : Int32) (h : f_X12_orderPartAt G M = some r) (hp : post (some (.int r)) M) : AW Y V (az_end Y V post) 3 M 0 [(0, .ref (az_ad V 40))] [] := by
  unfold f_X12_orderPartAt at h
  refine az_iconst (v := (-1)) C dX12_orderPartAt_0 (by decide) ?_
  refine az_istore_n C dX12_orderPartAt_1 rfl (by decide) rfl ?_
  refine az_iconst (v := 0) C dX12_orderPartAt_2 (by decide) ?_
  refine az_istore_n C dX12_orderPartAt_3 rfl (by decide) rfl ?_
  refine az_sub [2, 1, 0] rfl ?_
  exact s_X12_orderPartAt_4 C G G (-1) 0 M r h hp
theorem c_X12_orderPartAt {l : Launch} {V : az_V} (hL : az_L V) (G : Nat)  (M : az_M) {r : Int32} (h : f_X12_orderPartAt G M = some r) : az_Ct l V yX12_orderPartAt cX12_orderPartAt 3 (some .int) 2 [.ref (az_ad V 40)] M (fun v M' => v = some (.int r) ∧ M' = M) :=
  az_Ct.of (by decide) (Nat.le_of_ble_eq_true rfl) (fun Y _ _ C => s_X12_orderPartAt_e C G M r h ⟨rfl, rfl⟩)
set_option maxHeartbeats 4000000 in
set_option maxRecDepth 100000 in
theorem s_X12_openBracket_41 {Y : az_Y} {V : az_V} {post : Option Value → az_M → Prop} (C : az_C Y V cX12_openBracket 2 RX12 none 4) (G : Nat)  (M : az_M) (r : az_M) (h : f_X12_openBracket_41 G M = some r) (hp : post none r) : AW Y V (az_end Y V post) 2 M 41 [] [] := by
  unfold f_X12_openBracket_41 at h
  obtain rfl := Option.some.inj h
  exact az_vret C rfl dX12_openBracket_41 hp
set_option maxHeartbeats 4000000 in
set_option maxRecDepth 100000 in
theorem s_X12_openBracket_15 {Y : az_Y} {V : az_V} {post : Option Value → az_M → Prop} (C : az_C Y V cX12_openBracket 2 RX12 none 4) (G : Nat) (x1 : Int32) (s0 : Int32) (M : az_M) (r : az_M) (h : f_X12_openBracket_15 G x1 s0 M = some r) (hp : post none r) : AW Y V (az_end Y V post) 2 M 15 [(0, .ref (az_ad V 40)), (1, .int x1)] [.int s0, .ref (az_ad V 40)] := by
  have o40 := C.hL.at 40 (ci := 12) rfl
  unfold f_X12_openBracket_15 at h
  obtain ⟨q2, e3, h⟩ := az_b h
  refine az_cV (rest := []) (st2 := []) C [.int s0] (c_X12_must C.hL G s0 M e3) (by decide) li_X12_303 o40 (by decide) rfl rfl (Nat.le_of_ble_eq_true rfl) dX12_openBracket_15 rfl ?_
  refine az_aload_n C 0 dX12_openBracket_18 rfl ?_
  refine az_geti C o40 fl_X12_270 rfl dX12_openBracket_19 ?_
  refine az_if_ne C 41 dX12_openBracket_22 (by decide) (fun c4 => ?_) (fun c4 => ?_)
  · have h := az_f c4 h
    refine az_sub [] rfl ?_
    exact s_X12_openBracket_41 C G q2 r h hp
  · have h := az_t c4 h
    refine az_aload_n C 0 dX12_openBracket_25 rfl ?_
    refine az_dup C dX12_openBracket_26 rfl ?_
    refine az_geti C o40 fl_X12_330 rfl dX12_openBracket_27 ?_
    refine az_iconst (v := 1) C dX12_openBracket_30 (by decide) ?_
    refine az_iadd C dX12_openBracket_31 ?_
    refine az_puti C o40 fl_X12_330 rfl rfl rfl rfl dX12_openBracket_32 ?_
    refine az_aload_n C 0 dX12_openBracket_35 rfl ?_
    refine az_iload_n C 1 dX12_openBracket_36 rfl ?_
    refine az_iconst (v := 0) C dX12_openBracket_37 (by decide) ?_
    obtain ⟨q5, e6, h⟩ := az_b h
    refine az_cV (rest := []) (st2 := []) C [.int x1, .int 0] (c_X12_push C.hL x1 0 (az_i q2 40 30 ((q2.1 40 30) + 1)) e6) (by decide) li_X12_333 o40 (by decide) rfl rfl (Nat.le_of_ble_eq_true rfl) dX12_openBracket_38 rfl ?_
    refine az_sub [] rfl ?_
    exact s_X12_openBracket_41 C G q5 r h hp
set_option maxHeartbeats 4000000 in
set_option maxRecDepth 100000 in
theorem s_X12_openBracket_e {Y : az_Y} {V : az_V} {post : Option Value → az_M → Prop} (C : az_C Y V cX12_openBracket 2 RX12 none 4) (G : Nat) (p0 : Int32) (M : az_M) (r : az_M) (h : f_X12_openBracket G p0 M = some r) (hp : post none r) : AW Y V (az_end Y V post) 2 M 0 [(0, .ref (az_ad V 40)), (1, .int p0)] [] := by
  have o40 := C.hL.at 40 (ci := 12) rfl
  unfold f_X12_openBracket at h
  refine az_aload_n C 0 dX12_openBracket_0 rfl ?_
  refine az_aload_n C 0 dX12_openBracket_1 rfl ?_
  refine az_geti C o40 fl_X12_330 rfl dX12_openBracket_2 ?_
  refine az_bipush (v := 8) C dX12_openBracket_5 (by decide) ?_
  refine az_icmp_ge C 14 dX12_openBracket_7 (by decide) (fun c1 => ?_) (fun c1 => ?_)
  · have h := az_t c1 h
    refine az_iconst (v := 0) C dX12_openBracket_14 (by decide) ?_
    exact s_X12_openBracket_15 C G p0 0 M r h hp
  · have h := az_f c1 h
    refine az_iconst (v := 1) C dX12_openBracket_10 (by decide) ?_
    refine az_goto C 15 dX12_openBracket_11 (by decide) ?_
    exact s_X12_openBracket_15 C G p0 1 M r h hp
theorem c_X12_openBracket {l : Launch} {V : az_V} (hL : az_L V) (G : Nat) (p0 : Int32) (M : az_M) {r : az_M} (h : f_X12_openBracket G p0 M = some r) : az_Ct l V yX12_openBracket cX12_openBracket 2 none 4 [.ref (az_ad V 40), .int p0] M (fun v M' => v = none ∧ M' = r) :=
  az_Ct.of (by decide) (Nat.le_of_ble_eq_true rfl) (fun Y _ _ C => s_X12_openBracket_e C G p0 M r h ⟨rfl, rfl⟩)
set_option maxHeartbeats 4000000 in
set_option maxRecDepth 100000 in
theorem s_X12_leaf_45 {Y : az_Y} {V : az_V} {post : Option Value → az_M → Prop} (C : az_C Y V cX12_leaf 4 RX12 none 4) (G : Nat)  (M : az_M) (r : az_M) (h : f_X12_leaf_45 G M = some r) (hp : post none r) : AW Y V (az_end Y V post) 4 M 45 [] [] := by
  unfold f_X12_leaf_45 at h
  obtain rfl := Option.some.inj h
  exact az_vret C rfl dX12_leaf_45 hp
set_option maxHeartbeats 4000000 in
set_option maxRecDepth 100000 in
theorem s_X12_leaf_19 {Y : az_Y} {V : az_V} {post : Option Value → az_M → Prop} (C : az_C Y V cX12_leaf 4 RX12 none 4) (G : Nat) (x2 : Int32) (x3 : Int32) (s0 : Int32) (M : az_M) (r : az_M) (h : f_X12_leaf_19 G x2 x3 s0 M = some r) (hp : post none r) : AW Y V (az_end Y V post) 4 M 19 [(0, .ref (az_ad V 40)), (2, .int x2), (3, .int x3)] [.int s0, .ref (az_ad V 40)] := by
  have o40 := C.hL.at 40 (ci := 12) rfl
  unfold f_X12_leaf_19 at h
  obtain ⟨q3, e4, h⟩ := az_b h
  refine az_cV (rest := []) (st2 := []) C [.int s0] (c_X12_must C.hL G s0 M e4) (by decide) li_X12_303 o40 (by decide) rfl rfl (Nat.le_of_ble_eq_true rfl) dX12_leaf_19 rfl ?_
  refine az_aload_n C 0 dX12_leaf_22 rfl ?_
  refine az_geti C o40 fl_X12_270 rfl dX12_leaf_23 ?_
  refine az_if_ne C 45 dX12_leaf_26 (by decide) (fun c5 => ?_) (fun c5 => ?_)
  · have h := az_f c5 h
    refine az_sub [] rfl ?_
    exact s_X12_leaf_45 C G q3 r h hp
  · have h := az_t c5 h
    refine az_aload_n C 0 dX12_leaf_29 rfl ?_
    refine az_iload_n C 1 dX12_leaf_30 rfl ?_
    refine az_iload_n C 2 dX12_leaf_31 rfl ?_
    obtain ⟨q6, e7, h⟩ := az_b h
    refine az_cV (rest := []) (st2 := []) C [.int x2, .int x3] (c_X12_emit C.hL x2 x3 q3 e7) (by decide) li_X12_316 o40 (by decide) rfl rfl (Nat.le_of_ble_eq_true rfl) dX12_leaf_32 rfl ?_
    refine az_aload_n C 0 dX12_leaf_35 rfl ?_
    refine az_dup C dX12_leaf_36 rfl ?_
    refine az_geti C o40 fl_X12_336 rfl dX12_leaf_37 ?_
    refine az_iconst (v := 1) C dX12_leaf_40 (by decide) ?_
    refine az_iadd C dX12_leaf_41 ?_
    refine az_puti C o40 fl_X12_336 rfl rfl rfl rfl dX12_leaf_42 ?_
    refine az_sub [] rfl ?_
    exact s_X12_leaf_45 C G (az_i q6 40 26 ((q6.1 40 26) + 1)) r h hp
set_option maxHeartbeats 4000000 in
set_option maxRecDepth 100000 in
theorem s_X12_leaf_18 {Y : az_Y} {V : az_V} {post : Option Value → az_M → Prop} (C : az_C Y V cX12_leaf 4 RX12 none 4) (G : Nat) (x2 : Int32) (x3 : Int32) (M : az_M) (r : az_M) (h : f_X12_leaf_18 G x2 x3 M = some r) (hp : post none r) : AW Y V (az_end Y V post) 4 M 18 [(0, .ref (az_ad V 40)), (2, .int x2), (3, .int x3)] [.ref (az_ad V 40)] := by
  unfold f_X12_leaf_18 at h
  refine az_iconst (v := 0) C dX12_leaf_18 (by decide) ?_
  exact s_X12_leaf_19 C G x2 x3 0 M r h hp
set_option maxHeartbeats 4000000 in
set_option maxRecDepth 100000 in
theorem s_X12_leaf_e {Y : az_Y} {V : az_V} {post : Option Value → az_M → Prop} (C : az_C Y V cX12_leaf 4 RX12 none 4) (G : Nat) (p0 : Int32) (p1 : Int32) (p2 : Int32) (M : az_M) (r : az_M) (h : f_X12_leaf G p0 p1 p2 M = some r) (hp : post none r) : AW Y V (az_end Y V post) 4 M 0 [(0, .ref (az_ad V 40)), (1, .int p0), (2, .int p1), (3, .int p2)] [] := by
  have o40 := C.hL.at 40 (ci := 12) rfl
  unfold f_X12_leaf at h
  refine az_aload_n C 0 dX12_leaf_0 rfl ?_
  refine az_iload_n C 1 dX12_leaf_1 rfl ?_
  refine az_if_eq C 18 dX12_leaf_2 (by decide) (fun c1 => ?_) (fun c1 => ?_)
  · have h := az_t c1 h
    refine az_sub [0, 2, 3] rfl ?_
    exact s_X12_leaf_18 C G p1 p2 M r h hp
  · have h := az_f c1 h
    refine az_aload_n C 0 dX12_leaf_5 rfl ?_
    refine az_geti C o40 fl_X12_336 rfl dX12_leaf_6 ?_
    refine az_bipush (v := 50) C dX12_leaf_9 (by decide) ?_
    refine az_icmp_ge C 18 dX12_leaf_11 (by decide) (fun c2 => ?_) (fun c2 => ?_)
    · have h := az_t c2 h
      refine az_sub [0, 2, 3] rfl ?_
      exact s_X12_leaf_18 C G p1 p2 M r h hp
    · have h := az_f c2 h
      refine az_iconst (v := 1) C dX12_leaf_14 (by decide) ?_
      refine az_goto C 19 dX12_leaf_15 (by decide) ?_
      refine az_sub [0, 2, 3] rfl ?_
      exact s_X12_leaf_19 C G p1 p2 1 M r h hp
theorem c_X12_leaf {l : Launch} {V : az_V} (hL : az_L V) (G : Nat) (p0 : Int32) (p1 : Int32) (p2 : Int32) (M : az_M) {r : az_M} (h : f_X12_leaf G p0 p1 p2 M = some r) : az_Ct l V yX12_leaf cX12_leaf 4 none 4 [.ref (az_ad V 40), .int p0, .int p1, .int p2] M (fun v M' => v = none ∧ M' = r) :=
  az_Ct.of (by decide) (Nat.le_of_ble_eq_true rfl) (fun Y _ _ C => s_X12_leaf_e C G p0 p1 p2 M r h ⟨rfl, rfl⟩)
set_option maxHeartbeats 4000000 in
set_option maxRecDepth 100000 in
theorem s_X12_readPart_155 {Y : az_Y} {V : az_V} {post : Option Value → az_M → Prop} (C : az_C Y V cX12_readPart 4 RX12 (some .int) 5) (G : Nat)  (M : az_M) (r : (Int32 × az_M)) (h : f_X12_readPart_155 G M = some r) (hp : post (some (.int r.1)) r.2) : AW Y V (az_end Y V post) 4 M 155 [] [] := by
  unfold f_X12_readPart_155 at h
  refine az_iconst (v := 3) C dX12_readPart_155 (by decide) ?_
  obtain rfl := Option.some.inj h
  exact az_iret C dX12_readPart_156 hp
set_option maxHeartbeats 4000000 in
set_option maxRecDepth 100000 in
theorem s_X12_readPart_151 {Y : az_Y} {V : az_V} {post : Option Value → az_M → Prop} (C : az_C Y V cX12_readPart 4 RX12 (some .int) 5) (G : Nat) (s0 : Int64) (s1 : Int64) (s3 : Int32) (M : az_M) (r : (Int32 × az_M)) (h : f_X12_readPart_151 G s0 s1 s3 M = some r) (hp : post (some (.int r.1)) r.2) : AW Y V (az_end Y V post) 4 M 151 [] [.long s0, .long s1, .ref (az_ad V 40), .int s3, .ref (az_ad V 52)] := by
  have o40 := C.hL.at 40 (ci := 12) rfl
  have a52 := C.hL.ar 52 (t := 0) (len := 400) rfl
  unfold f_X12_readPart_151 at h
  obtain ⟨q23, e24, h⟩ := az_b h
  refine az_cV (rest := [.int s3, .ref (az_ad V 52)]) (st2 := [.int q23.1, .int s3, .ref (az_ad V 52)]) C [.long s1, .long s0] (c_X12_number C.hL G s1 s0 M e24) (by decide) li_X12_363 o40 (by decide) rfl rfl (Nat.le_of_ble_eq_true rfl) dX12_readPart_151 rfl ?_
  obtain ⟨g25, h⟩ := az_g h
  refine az_ist (k := s3.toNatClampNeg) C a52 g25 rfl dX12_readPart_154 ?_
  exact s_X12_readPart_155 C G (az_i q23.2 52 s3.toNatClampNeg q23.1) r h hp
set_option maxHeartbeats 4000000 in
set_option maxRecDepth 100000 in
theorem s_X12_readPart_99 {Y : az_Y} {V : az_V} {post : Option Value → az_M → Prop} (C : az_C Y V cX12_readPart 4 RX12 (some .int) 5) (G : Nat) (x1 : Int32) (s0 : Int32) (s1 : Int32) (s2 : Int32) (M : az_M) (r : (Int32 × az_M)) (h : f_X12_readPart_99 G x1 s0 s1 s2 M = some r) (hp : post (some (.int r.1)) r.2) : AW Y V (az_end Y V post) 4 M 99 [(0, .ref (az_ad V 40)), (1, .int x1)] [.int s0, .int s1, .int s2, .ref (az_ad V 40)] := by
  have o40 := C.hL.at 40 (ci := 12) rfl
  unfold f_X12_readPart_99 at h
  obtain ⟨q17, e18, h⟩ := az_b h
  refine az_cV (rest := []) (st2 := []) C [.int s2, .int s1, .int s0] (c_X12_leaf C.hL G s2 s1 s0 M e18) (by decide) li_X12_357 o40 (by decide) rfl rfl (Nat.le_of_ble_eq_true rfl) dX12_readPart_99 rfl ?_
  refine az_aload_n C 0 dX12_readPart_102 rfl ?_
  refine az_geti C o40 fl_X12_345 rfl dX12_readPart_103 ?_
  refine az_if_eq C 155 dX12_readPart_106 (by decide) (fun c19 => ?_) (fun c19 => ?_)
  · have h := az_t c19 h
    refine az_sub [] rfl ?_
    exact s_X12_readPart_155 C G q17 r h hp
  · have h := az_f c19 h
    refine az_iload_n C 1 dX12_readPart_109 rfl ?_
    refine az_bipush (v := 7) C dX12_readPart_110 (by decide) ?_
    refine az_icmp_lt C 155 dX12_readPart_112 (by decide) (fun c20 => ?_) (fun c20 => ?_)
    · have h := az_t c20 h
      refine az_sub [] rfl ?_
      exact s_X12_readPart_155 C G q17 r h hp
    · have h := az_f c20 h
      refine az_aload_n C 0 dX12_readPart_115 rfl ?_
      refine az_geti C o40 fl_X12_270 rfl dX12_readPart_116 ?_
      refine az_if_ne C 155 dX12_readPart_119 (by decide) (fun c21 => ?_) (fun c21 => ?_)
      · have h := az_f c21 h
        refine az_sub [] rfl ?_
        exact s_X12_readPart_155 C G q17 r h hp
      · have h := az_t c21 h
        refine az_aload_n C 0 dX12_readPart_122 rfl ?_
        refine az_geti C o40 fl_X12_307 rfl dX12_readPart_123 ?_
        refine az_iconst (v := 1) C dX12_readPart_126 (by decide) ?_
        refine az_isub C dX12_readPart_127 ?_
        refine az_istore_n C dX12_readPart_128 rfl (by decide) rfl ?_
        refine az_aload_n C 1 dX12_readPart_129 rfl ?_
        refine az_getr (r := 52) C o40 fl_X12_48 rfl rfl dX12_readPart_130 ?_
        refine az_iload_n C 0 dX12_readPart_133 rfl ?_
        refine az_aload_n C 1 dX12_readPart_134 rfl ?_
        refine az_lconst (v := 0) C dX12_readPart_135 (by decide) ?_
        refine az_iload_n C 2 dX12_readPart_136 rfl ?_
        refine az_bipush (v := 7) C dX12_readPart_137 (by decide) ?_
        refine az_icmp_ne C 148 dX12_readPart_139 (by decide) (fun c22 => ?_) (fun c22 => ?_)
        · have h := az_f c22 h
          refine az_ldc2 C ck_X12_361 dX12_readPart_148 ?_
          refine az_sub [] rfl ?_
          exact s_X12_readPart_151 C G 11 0 ((q17.1 40 23) - 1) q17 r h hp
        · have h := az_t c22 h
          refine az_ldc2 C ck_X12_253 dX12_readPart_142 ?_
          refine az_goto C 151 dX12_readPart_145 (by decide) ?_
          refine az_sub [] rfl ?_
          exact s_X12_readPart_151 C G 9 0 ((q17.1 40 23) - 1) q17 r h hp
set_option maxHeartbeats 4000000 in
set_option maxRecDepth 100000 in
theorem s_X12_readPart_86 {Y : az_Y} {V : az_V} {post : Option Value → az_M → Prop} (C : az_C Y V cX12_readPart 4 RX12 (some .int) 5) (G : Nat) (x1 : Int32) (x2 : Int32) (s0 : Int32) (s1 : Int32) (M : az_M) (r : (Int32 × az_M)) (h : f_X12_readPart_86 G x1 x2 s0 s1 M = some r) (hp : post (some (.int r.1)) r.2) : AW Y V (az_end Y V post) 4 M 86 [(0, .ref (az_ad V 40)), (1, .int x1), (2, .int x2)] [.int s0, .int s1, .ref (az_ad V 40)] := by
  have o40 := C.hL.at 40 (ci := 12) rfl
  unfold f_X12_readPart_86 at h
  refine az_iload_n C 2 dX12_readPart_86 rfl ?_
  refine az_if_eq C 98 dX12_readPart_87 (by decide) (fun c16 => ?_) (fun c16 => ?_)
  · have h := az_t c16 h
    refine az_iconst (v := 0) C dX12_readPart_98 (by decide) ?_
    refine az_sub [0, 1] rfl ?_
    exact s_X12_readPart_99 C G x1 0 s0 s1 M r h hp
  · have h := az_f c16 h
    refine az_aload_n C 0 dX12_readPart_90 rfl ?_
    refine az_getl C o40 fl_X12_280 rfl dX12_readPart_91 ?_
    refine az_l2i C dX12_readPart_94 ?_
    refine az_goto C 99 dX12_readPart_95 (by decide) ?_
    refine az_sub [0, 1] rfl ?_
    exact s_X12_readPart_99 C G x1 ((M.2.1 40 17).toInt32) s0 s1 M r h hp
set_option maxHeartbeats 4000000 in
set_option maxRecDepth 100000 in
theorem s_X12_readPart_76 {Y : az_Y} {V : az_V} {post : Option Value → az_M → Prop} (C : az_C Y V cX12_readPart 4 RX12 (some .int) 5) (G : Nat) (x1 : Int32) (x2 : Int32) (s0 : Int32) (M : az_M) (r : (Int32 × az_M)) (h : f_X12_readPart_76 G x1 x2 s0 M = some r) (hp : post (some (.int r.1)) r.2) : AW Y V (az_end Y V post) 4 M 76 [(0, .ref (az_ad V 40)), (1, .int x1), (2, .int x2)] [.int s0, .ref (az_ad V 40)] := by
  unfold f_X12_readPart_76 at h
  refine az_iload_n C 1 dX12_readPart_76 rfl ?_
  refine az_iconst (v := (-1)) C dX12_readPart_77 (by decide) ?_
  refine az_icmp_ne C 85 dX12_readPart_78 (by decide) (fun c15 => ?_) (fun c15 => ?_)
  · have h := az_f c15 h
    refine az_iload_n C 1 dX12_readPart_85 rfl ?_
    exact s_X12_readPart_86 C G x1 x2 x1 s0 M r h hp
  · have h := az_t c15 h
    refine az_iconst (v := 0) C dX12_readPart_81 (by decide) ?_
    refine az_goto C 86 dX12_readPart_82 (by decide) ?_
    exact s_X12_readPart_86 C G x1 x2 0 s0 M r h hp
set_option maxHeartbeats 4000000 in
set_option maxRecDepth 100000 in
theorem s_X12_readPart_71 {Y : az_Y} {V : az_V} {post : Option Value → az_M → Prop} (C : az_C Y V cX12_readPart 4 RX12 (some .int) 5) (G : Nat) (x1 : Int32) (x2 : Int32) (M : az_M) (r : (Int32 × az_M)) (h : f_X12_readPart_71 G x1 x2 M = some r) (hp : post (some (.int r.1)) r.2) : AW Y V (az_end Y V post) 4 M 71 [(0, .ref (az_ad V 40)), (1, .int x1), (2, .int x2)] [.ref (az_ad V 40)] := by
  unfold f_X12_readPart_71 at h
  refine az_iconst (v := 1) C dX12_readPart_71 (by decide) ?_
  refine az_goto C 76 dX12_readPart_72 (by decide) ?_
  exact s_X12_readPart_76 C G x1 x2 1 M r h hp
set_option maxHeartbeats 4000000 in
set_option maxRecDepth 100000 in
theorem s_X12_readPart_60 {Y : az_Y} {V : az_V} {post : Option Value → az_M → Prop} (C : az_C Y V cX12_readPart 4 RX12 (some .int) 5) (G : Nat) (x1 : Int32) (s0 : Int32) (M : az_M) (r : (Int32 × az_M)) (h : f_X12_readPart_60 G x1 s0 M = some r) (hp : post (some (.int r.1)) r.2) : AW Y V (az_end Y V post) 4 M 60 [(0, .ref (az_ad V 40)), (1, .int x1)] [.int s0] := by
  unfold f_X12_readPart_60 at h
  refine az_istore_n C dX12_readPart_60 rfl (by decide) rfl ?_
  refine az_aload_n C 1 dX12_readPart_61 rfl ?_
  refine az_iload_n C 2 dX12_readPart_62 rfl ?_
  refine az_iconst (v := (-1)) C dX12_readPart_63 (by decide) ?_
  refine az_icmp_ne C 71 dX12_readPart_64 (by decide) (fun c13 => ?_) (fun c13 => ?_)
  · have h := az_f c13 h
    refine az_sub [1, 2, 0] rfl ?_
    exact s_X12_readPart_71 C G x1 s0 M r h hp
  · have h := az_t c13 h
    refine az_iload_n C 0 dX12_readPart_67 rfl ?_
    refine az_if_eq C 75 dX12_readPart_68 (by decide) (fun c14 => ?_) (fun c14 => ?_)
    · have h := az_t c14 h
      refine az_iconst (v := 0) C dX12_readPart_75 (by decide) ?_
      refine az_sub [1, 2, 0] rfl ?_
      exact s_X12_readPart_76 C G x1 s0 0 M r h hp
    · have h := az_f c14 h
      refine az_sub [1, 2, 0] rfl ?_
      exact s_X12_readPart_71 C G x1 s0 M r h hp
set_option maxHeartbeats 4000000 in
set_option maxRecDepth 100000 in
theorem s_X12_readPart_59 {Y : az_Y} {V : az_V} {post : Option Value → az_M → Prop} (C : az_C Y V cX12_readPart 4 RX12 (some .int) 5) (G : Nat) (x1 : Int32) (M : az_M) (r : (Int32 × az_M)) (h : f_X12_readPart_59 G x1 M = some r) (hp : post (some (.int r.1)) r.2) : AW Y V (az_end Y V post) 4 M 59 [(0, .ref (az_ad V 40)), (1, .int x1)] [] := by
  unfold f_X12_readPart_59 at h
  refine az_iconst (v := 0) C dX12_readPart_59 (by decide) ?_
  exact s_X12_readPart_60 C G x1 0 M r h hp
set_option maxHeartbeats 4000000 in
set_option maxRecDepth 100000 in
theorem s_X12_readPart_35 {Y : az_Y} {V : az_V} {post : Option Value → az_M → Prop} (C : az_C Y V cX12_readPart 4 RX12 (some .int) 5) (G : Nat) (s0 : Int32) (M : az_M) (r : (Int32 × az_M)) (h : f_X12_readPart_35 G s0 M = some r) (hp : post (some (.int r.1)) r.2) : AW Y V (az_end Y V post) 4 M 35 [(0, .ref (az_ad V 40))] [.int s0] := by
  have o40 := C.hL.at 40 (ci := 12) rfl
  unfold f_X12_readPart_35 at h
  refine az_istore_n C dX12_readPart_35 rfl (by decide) rfl ?_
  refine az_aload_n C 1 dX12_readPart_36 rfl ?_
  refine az_geti C o40 fl_X12_290 rfl dX12_readPart_37 ?_
  refine az_iconst (v := 2) C dX12_readPart_40 (by decide) ?_
  refine az_icmp_ne C 59 dX12_readPart_41 (by decide) (fun c11 => ?_) (fun c11 => ?_)
  · have h := az_f c11 h
    refine az_sub [1, 0] rfl ?_
    exact s_X12_readPart_59 C G s0 M r h hp
  · have h := az_t c11 h
    refine az_aload_n C 1 dX12_readPart_44 rfl ?_
    refine az_getl C o40 fl_X12_280 rfl dX12_readPart_45 ?_
    refine az_ldc2 C ck_X12_355 dX12_readPart_48 ?_
    refine az_lcmp C dX12_readPart_51 ?_
    refine az_if_gt C 59 dX12_readPart_52 (by decide) (fun c12 => ?_) (fun c12 => ?_)
    · have h := az_t (az_c_gt.mp c12) h
      refine az_sub [1, 0] rfl ?_
      exact s_X12_readPart_59 C G s0 M r h hp
    · have h := az_f (fun z => c12 (az_c_gt.mpr z)) h
      refine az_iconst (v := 1) C dX12_readPart_55 (by decide) ?_
      refine az_goto C 60 dX12_readPart_56 (by decide) ?_
      refine az_sub [1, 0] rfl ?_
      exact s_X12_readPart_60 C G s0 1 M r h hp
set_option maxHeartbeats 4000000 in
set_option maxRecDepth 100000 in
theorem s_X12_readPart_e {Y : az_Y} {V : az_V} {post : Option Value → az_M → Prop} (C : az_C Y V cX12_readPart 4 RX12 (some .int) 5) (G : Nat)  (M : az_M) (r : (Int32 × az_M)) (h : f_X12_readPart G M = some r) (hp : post (some (.int r.1)) r.2) : AW Y V (az_end Y V post) 4 M 0 [(0, .ref (az_ad V 40))] [] := by
  have o40 := C.hL.at 40 (ci := 12) rfl
  unfold f_X12_readPart at h
  refine az_aload_n C 0 dX12_readPart_0 rfl ?_
  refine az_bipush (v := 91) C dX12_readPart_1 (by decide) ?_
  obtain ⟨q1, e2, h⟩ := az_b h
  refine az_cV (rest := []) (st2 := [.int q1]) C [.int 91] (c_X12_isSign C.hL 91 M e2) (by decide) li_X12_339 o40 (by decide) rfl rfl (Nat.le_of_ble_eq_true rfl) dX12_readPart_3 rfl ?_
  refine az_if_eq C 17 dX12_readPart_6 (by decide) (fun c3 => ?_) (fun c3 => ?_)
  · have h := az_t c3 h
    refine az_aload_n C 0 dX12_readPart_17 rfl ?_
    refine az_geti C o40 fl_X12_345 rfl dX12_readPart_18 ?_
    refine az_if_eq C 31 dX12_readPart_21 (by decide) (fun c4 => ?_) (fun c4 => ?_)
    · have h := az_t c4 h
      refine az_aload_n C 0 dX12_readPart_31 rfl ?_
      obtain ⟨q5, e6, h⟩ := az_b h
      refine az_cV (rest := []) (st2 := [.int q5]) C [] (c_X12_partAt C.hL G M e6) (by decide) li_X12_352 o40 (by decide) rfl rfl (Nat.le_of_ble_eq_true rfl) dX12_readPart_32 rfl ?_
      exact s_X12_readPart_35 C G q5 M r h hp
    · have h := az_f c4 h
      refine az_aload_n C 0 dX12_readPart_24 rfl ?_
      obtain ⟨q7, e8, h⟩ := az_b h
      refine az_cV (rest := []) (st2 := [.int q7]) C [] (c_X12_orderPartAt C.hL G M e8) (by decide) li_X12_348 o40 (by decide) rfl rfl (Nat.le_of_ble_eq_true rfl) dX12_readPart_25 rfl ?_
      refine az_goto C 35 dX12_readPart_28 (by decide) ?_
      exact s_X12_readPart_35 C G q7 M r h hp
  · have h := az_f c3 h
    refine az_aload_n C 0 dX12_readPart_9 rfl ?_
    refine az_bipush (v := 32) C dX12_readPart_10 (by decide) ?_
    obtain ⟨q9, e10, h⟩ := az_b h
    refine az_cV (rest := []) (st2 := []) C [.int 32] (c_X12_openBracket C.hL G 32 M e10) (by decide) li_X12_342 o40 (by decide) rfl rfl (Nat.le_of_ble_eq_true rfl) dX12_readPart_12 rfl ?_
    refine az_iconst (v := 1) C dX12_readPart_15 (by decide) ?_
    obtain rfl := Option.some.inj h
    exact az_iret C dX12_readPart_16 hp
theorem c_X12_readPart {l : Launch} {V : az_V} (hL : az_L V) (G : Nat)  (M : az_M) {r : (Int32 × az_M)} (h : f_X12_readPart G M = some r) : az_Ct l V yX12_readPart cX12_readPart 4 (some .int) 5 [.ref (az_ad V 40)] M (fun v M' => v = some (.int r.1) ∧ M' = r.2) :=
  az_Ct.of (by decide) (Nat.le_of_ble_eq_true rfl) (fun Y _ _ C => s_X12_readPart_e C G M r h ⟨rfl, rfl⟩)
set_option maxHeartbeats 4000000 in
set_option maxRecDepth 100000 in
theorem s_X12_readPlain_e {Y : az_Y} {V : az_V} {post : Option Value → az_M → Prop} (C : az_C Y V cX12_readPlain 1 RX12 (some .int) 6) (G : Nat)  (M : az_M) (r : (Int32 × az_M)) (h : f_X12_readPlain G M = some r) (hp : post (some (.int r.1)) r.2) : AW Y V (az_end Y V post) 1 M 0 [(0, .ref (az_ad V 40))] [] := by
  have o40 := C.hL.at 40 (ci := 12) rfl
  unfold f_X12_readPlain at h
  refine az_aload_n C 0 dX12_readPlain_0 rfl ?_
  refine az_ldc2 C ck_X12_367 dX12_readPlain_1 ?_
  obtain ⟨q1, e2, h⟩ := az_b h
  refine az_cV (rest := []) (st2 := [.int q1]) C [.long 14836] (c_X12_isWord C.hL 14836 M e2) (by decide) li_X12_326 o40 (by decide) rfl rfl (Nat.le_of_ble_eq_true rfl) dX12_readPlain_4 rfl ?_
  refine az_if_eq C 23 dX12_readPlain_7 (by decide) (fun c3 => ?_) (fun c3 => ?_)
  · have h := az_t c3 h
    refine az_aload_n C 0 dX12_readPlain_23 rfl ?_
    refine az_bipush (v := 40) C dX12_readPlain_24 (by decide) ?_
    obtain ⟨q4, e5, h⟩ := az_b h
    refine az_cV (rest := []) (st2 := [.int q4]) C [.int 40] (c_X12_isSign C.hL 40 M e5) (by decide) li_X12_339 o40 (by decide) rfl rfl (Nat.le_of_ble_eq_true rfl) dX12_readPlain_26 rfl ?_
    refine az_if_eq C 40 dX12_readPlain_29 (by decide) (fun c6 => ?_) (fun c6 => ?_)
    · have h := az_t c6 h
      refine az_aload_n C 0 dX12_readPlain_40 rfl ?_
      obtain ⟨q7, e8, h⟩ := az_b h
      refine az_cV (rest := []) (st2 := [.int q7.1]) C [] (c_X12_readPart C.hL G M e8) (by decide) li_X12_369 o40 (by decide) rfl rfl (Nat.le_of_ble_eq_true rfl) dX12_readPlain_41 rfl ?_
      obtain rfl := Option.some.inj h
      exact az_iret C dX12_readPlain_44 hp
    · have h := az_f c6 h
      refine az_aload_n C 0 dX12_readPlain_32 rfl ?_
      refine az_bipush (v := 31) C dX12_readPlain_33 (by decide) ?_
      obtain ⟨q9, e10, h⟩ := az_b h
      refine az_cV (rest := []) (st2 := []) C [.int 31] (c_X12_openBracket C.hL G 31 M e10) (by decide) li_X12_342 o40 (by decide) rfl rfl (Nat.le_of_ble_eq_true rfl) dX12_readPlain_35 rfl ?_
      refine az_iconst (v := 0) C dX12_readPlain_38 (by decide) ?_
      obtain rfl := Option.some.inj h
      exact az_iret C dX12_readPlain_39 hp
  · have h := az_f c3 h
    refine az_aload_n C 0 dX12_readPlain_10 rfl ?_
    refine az_bipush (v := 28) C dX12_readPlain_11 (by decide) ?_
    refine az_iconst (v := 0) C dX12_readPlain_13 (by decide) ?_
    obtain ⟨q11, e12, h⟩ := az_b h
    refine az_cV (rest := []) (st2 := []) C [.int 28, .int 0] (c_X12_push C.hL 28 0 M e12) (by decide) li_X12_333 o40 (by decide) rfl rfl (Nat.le_of_ble_eq_true rfl) dX12_readPlain_14 rfl ?_
    refine az_aload_n C 0 dX12_readPlain_17 rfl ?_
    obtain ⟨q13, e14, h⟩ := az_b h
    refine az_cV (rest := []) (st2 := []) C [] (c_X12_next C.hL G q11 e14) (by decide) li_X12_274 o40 (by decide) rfl rfl (Nat.le_of_ble_eq_true rfl) dX12_readPlain_18 rfl ?_
    refine az_iconst (v := 0) C dX12_readPlain_21 (by decide) ?_
    obtain rfl := Option.some.inj h
    exact az_iret C dX12_readPlain_22 hp
theorem c_X12_readPlain {l : Launch} {V : az_V} (hL : az_L V) (G : Nat)  (M : az_M) {r : (Int32 × az_M)} (h : f_X12_readPlain G M = some r) : az_Ct l V yX12_readPlain cX12_readPlain 1 (some .int) 6 [.ref (az_ad V 40)] M (fun v M' => v = some (.int r.1) ∧ M' = r.2) :=
  az_Ct.of (by decide) (Nat.le_of_ble_eq_true rfl) (fun Y _ _ C => s_X12_readPlain_e C G M r h ⟨rfl, rfl⟩)
set_option maxHeartbeats 4000000 in
set_option maxRecDepth 100000 in
theorem s_X12_behindSum_150 {Y : az_Y} {V : az_V} {post : Option Value → az_M → Prop} (C : az_C Y V cX12_behindSum 4 RX12 (some .int) 4) (G : Nat)  (M : az_M) (r : (Int32 × az_M)) (h : f_X12_behindSum_150 G M = some r) (hp : post (some (.int r.1)) r.2) : AW Y V (az_end Y V post) 4 M 150 [] [] := by
  unfold f_X12_behindSum_150 at h
  refine az_iconst (v := 3) C dX12_behindSum_150 (by decide) ?_
  obtain rfl := Option.some.inj h
  exact az_iret C dX12_behindSum_151 hp
set_option maxHeartbeats 4000000 in
set_option maxRecDepth 100000 in
theorem s_X12_behindSum_245 {Y : az_Y} {V : az_V} {post : Option Value → az_M → Prop} (C : az_C Y V cX12_behindSum 4 RX12 (some .int) 4) (G : Nat)  (M : az_M) (r : (Int32 × az_M)) (h : f_X12_behindSum_245 G M = some r) (hp : post (some (.int r.1)) r.2) : AW Y V (az_end Y V post) 4 M 245 [] [] := by
  unfold f_X12_behindSum_245 at h
  refine az_iconst (v := 1) C dX12_behindSum_245 (by decide) ?_
  obtain rfl := Option.some.inj h
  exact az_iret C dX12_behindSum_246 hp
set_option maxHeartbeats 4000000 in
set_option maxRecDepth 100000 in
theorem s_X12_behindSum_224 {Y : az_Y} {V : az_V} {post : Option Value → az_M → Prop} (C : az_C Y V cX12_behindSum 4 RX12 (some .int) 4) (G : Nat) (x2 : Int32) (s0 : Int32) (M : az_M) (r : (Int32 × az_M)) (h : f_X12_behindSum_224 G x2 s0 M = some r) (hp : post (some (.int r.1)) r.2) : AW Y V (az_end Y V post) 4 M 224 [(0, .ref (az_ad V 40)), (2, .int x2)] [.int s0, .ref (az_ad V 40)] := by
  have o40 := C.hL.at 40 (ci := 12) rfl
  unfold f_X12_behindSum_224 at h
  obtain ⟨q50, e51, h⟩ := az_b h
  refine az_cV (rest := []) (st2 := []) C [.int s0] (c_X12_must C.hL G s0 M e51) (by decide) li_X12_303 o40 (by decide) rfl rfl (Nat.le_of_ble_eq_true rfl) dX12_behindSum_224 rfl ?_
  refine az_aload_n C 0 dX12_behindSum_227 rfl ?_
  refine az_geti C o40 fl_X12_270 rfl dX12_behindSum_228 ?_
  refine az_if_ne C 245 dX12_behindSum_231 (by decide) (fun c52 => ?_) (fun c52 => ?_)
  · have h := az_f c52 h
    refine az_sub [] rfl ?_
    exact s_X12_behindSum_245 C G q50 r h hp
  · have h := az_t c52 h
    refine az_aload_n C 0 dX12_behindSum_234 rfl ?_
    refine az_iconst (v := 5) C dX12_behindSum_235 (by decide) ?_
    obtain ⟨q53, e54, h⟩ := az_b h
    refine az_cV (rest := []) (st2 := []) C [.int 5] (c_X12_settle C.hL G 5 q50 e54) (by decide) li_X12_372 o40 (by decide) rfl rfl (Nat.le_of_ble_eq_true rfl) dX12_behindSum_236 rfl ?_
    refine az_aload_n C 0 dX12_behindSum_239 rfl ?_
    refine az_iload_n C 1 dX12_behindSum_240 rfl ?_
    refine az_iconst (v := 0) C dX12_behindSum_241 (by decide) ?_
    obtain ⟨q55, e56, h⟩ := az_b h
    refine az_cV (rest := []) (st2 := []) C [.int x2, .int 0] (c_X12_push C.hL x2 0 q53 e56) (by decide) li_X12_333 o40 (by decide) rfl rfl (Nat.le_of_ble_eq_true rfl) dX12_behindSum_242 rfl ?_
    refine az_sub [] rfl ?_
    exact s_X12_behindSum_245 C G q55 r h hp
set_option maxHeartbeats 4000000 in
set_option maxRecDepth 100000 in
theorem s_X12_behindSum_219 {Y : az_Y} {V : az_V} {post : Option Value → az_M → Prop} (C : az_C Y V cX12_behindSum 4 RX12 (some .int) 4) (G : Nat) (x2 : Int32) (M : az_M) (r : (Int32 × az_M)) (h : f_X12_behindSum_219 G x2 M = some r) (hp : post (some (.int r.1)) r.2) : AW Y V (az_end Y V post) 4 M 219 [(0, .ref (az_ad V 40)), (2, .int x2)] [.ref (az_ad V 40)] := by
  unfold f_X12_behindSum_219 at h
  refine az_iconst (v := 1) C dX12_behindSum_219 (by decide) ?_
  refine az_goto C 224 dX12_behindSum_220 (by decide) ?_
  exact s_X12_behindSum_224 C G x2 1 M r h hp
set_option maxHeartbeats 4000000 in
set_option maxRecDepth 100000 in
theorem s_X12_behindSum_202 {Y : az_Y} {V : az_V} {post : Option Value → az_M → Prop} (C : az_C Y V cX12_behindSum 4 RX12 (some .int) 4) (G : Nat) (s0 : Int32) (M : az_M) (r : (Int32 × az_M)) (h : f_X12_behindSum_202 G s0 M = some r) (hp : post (some (.int r.1)) r.2) : AW Y V (az_end Y V post) 4 M 202 [(0, .ref (az_ad V 40))] [.int s0] := by
  have o40 := C.hL.at 40 (ci := 12) rfl
  unfold f_X12_behindSum_202 at h
  refine az_istore_n C dX12_behindSum_202 rfl (by decide) rfl ?_
  refine az_aload_n C 1 dX12_behindSum_203 rfl ?_
  refine az_iload_n C 0 dX12_behindSum_204 rfl ?_
  refine az_bipush (v := 27) C dX12_behindSum_205 (by decide) ?_
  refine az_icmp_ne C 219 dX12_behindSum_207 (by decide) (fun c46 => ?_) (fun c46 => ?_)
  · have h := az_f c46 h
    refine az_sub [1, 0] rfl ?_
    exact s_X12_behindSum_219 C G s0 M r h hp
  · have h := az_t c46 h
    refine az_aload_n C 1 dX12_behindSum_210 rfl ?_
    refine az_bipush (v := 61) C dX12_behindSum_211 (by decide) ?_
    obtain ⟨q47, e48, h⟩ := az_b h
    refine az_cV (rest := [.ref (az_ad V 40)]) (st2 := [.int q47, .ref (az_ad V 40)]) C [.int 61] (c_X12_isSign C.hL 61 M e48) (by decide) li_X12_339 o40 (by decide) rfl rfl (Nat.le_of_ble_eq_true rfl) dX12_behindSum_213 rfl ?_
    refine az_if_eq C 223 dX12_behindSum_216 (by decide) (fun c49 => ?_) (fun c49 => ?_)
    · have h := az_t c49 h
      refine az_iconst (v := 0) C dX12_behindSum_223 (by decide) ?_
      refine az_sub [1, 0] rfl ?_
      exact s_X12_behindSum_224 C G s0 0 M r h hp
    · have h := az_f c49 h
      refine az_sub [1, 0] rfl ?_
      exact s_X12_behindSum_219 C G s0 M r h hp
set_option maxHeartbeats 4000000 in
set_option maxRecDepth 100000 in
theorem s_X12_behindSum_163 {Y : az_Y} {V : az_V} {post : Option Value → az_M → Prop} (C : az_C Y V cX12_behindSum 4 RX12 (some .int) 4) (G : Nat)  (M : az_M) (r : (Int32 × az_M)) (h : f_X12_behindSum_163 G M = some r) (hp : post (some (.int r.1)) r.2) : AW Y V (az_end Y V post) 4 M 163 [(0, .ref (az_ad V 40))] [] := by
  have o40 := C.hL.at 40 (ci := 12) rfl
  unfold f_X12_behindSum_163 at h
  refine az_aload_n C 0 dX12_behindSum_163 rfl ?_
  obtain ⟨q37, e38, h⟩ := az_b h
  refine az_cV (rest := []) (st2 := [.int q37]) C [] (c_X12_isCompared C.hL G M e38) (by decide) li_X12_378 o40 (by decide) rfl rfl (Nat.le_of_ble_eq_true rfl) dX12_behindSum_164 rfl ?_
  refine az_if_eq C 172 dX12_behindSum_167 (by decide) (fun c39 => ?_) (fun c39 => ?_)
  · have h := az_t c39 h
    refine az_aload_n C 0 dX12_behindSum_172 rfl ?_
    refine az_bipush (v := 60) C dX12_behindSum_173 (by decide) ?_
    obtain ⟨q40, e41, h⟩ := az_b h
    refine az_cV (rest := []) (st2 := [.int q40]) C [.int 60] (c_X12_isSign C.hL 60 M e41) (by decide) li_X12_339 o40 (by decide) rfl rfl (Nat.le_of_ble_eq_true rfl) dX12_behindSum_175 rfl ?_
    refine az_if_eq C 186 dX12_behindSum_178 (by decide) (fun c42 => ?_) (fun c42 => ?_)
    · have h := az_t c42 h
      refine az_aload_n C 0 dX12_behindSum_186 rfl ?_
      refine az_bipush (v := 62) C dX12_behindSum_187 (by decide) ?_
      obtain ⟨q43, e44, h⟩ := az_b h
      refine az_cV (rest := []) (st2 := [.int q43]) C [.int 62] (c_X12_isSign C.hL 62 M e44) (by decide) li_X12_339 o40 (by decide) rfl rfl (Nat.le_of_ble_eq_true rfl) dX12_behindSum_189 rfl ?_
      refine az_if_eq C 200 dX12_behindSum_192 (by decide) (fun c45 => ?_) (fun c45 => ?_)
      · have h := az_t c45 h
        refine az_bipush (v := 27) C dX12_behindSum_200 (by decide) ?_
        exact s_X12_behindSum_202 C G 27 M r h hp
      · have h := az_f c45 h
        refine az_bipush (v := 26) C dX12_behindSum_195 (by decide) ?_
        refine az_goto C 202 dX12_behindSum_197 (by decide) ?_
        exact s_X12_behindSum_202 C G 26 M r h hp
    · have h := az_f c42 h
      refine az_bipush (v := 25) C dX12_behindSum_181 (by decide) ?_
      refine az_goto C 202 dX12_behindSum_183 (by decide) ?_
      exact s_X12_behindSum_202 C G 25 M r h hp
  · have h := az_f c39 h
    refine az_iconst (v := 2) C dX12_behindSum_170 (by decide) ?_
    obtain rfl := Option.some.inj h
    exact az_iret C dX12_behindSum_171 hp
set_option maxHeartbeats 4000000 in
set_option maxRecDepth 100000 in
theorem s_X12_behindSum_71 {Y : az_Y} {V : az_V} {post : Option Value → az_M → Prop} (C : az_C Y V cX12_behindSum 4 RX12 (some .int) 4) (G : Nat) (x1 : Int32) (s0 : Int32) (M : az_M) (r : (Int32 × az_M)) (h : f_X12_behindSum_71 G x1 s0 M = some r) (hp : post (some (.int r.1)) r.2) : AW Y V (az_end Y V post) 4 M 71 [(0, .ref (az_ad V 40)), (1, .int x1)] [.int s0] := by
  have o40 := C.hL.at 40 (ci := 12) rfl
  unfold f_X12_behindSum_71 at h
  refine az_istore_n C dX12_behindSum_71 rfl (by decide) rfl ?_
  refine az_iload_n C 0 dX12_behindSum_72 rfl ?_
  refine az_iconst (v := (-1)) C dX12_behindSum_73 (by decide) ?_
  refine az_icmp_eq C 97 dX12_behindSum_74 (by decide) (fun c16 => ?_) (fun c16 => ?_)
  · have h := az_t c16 h
    refine az_aload_n C 1 dX12_behindSum_97 rfl ?_
    obtain ⟨q17, e18, h⟩ := az_b h
    refine az_cV (rest := []) (st2 := [.int q17]) C [] (c_X12_inner C.hL G M e18) (by decide) li_X12_375 o40 (by decide) rfl rfl (Nat.le_of_ble_eq_true rfl) dX12_behindSum_98 rfl ?_
    refine az_istore_n C dX12_behindSum_101 rfl (by decide) rfl ?_
    refine az_iload_n C 0 dX12_behindSum_102 rfl ?_
    refine az_bipush (v := 32) C dX12_behindSum_103 (by decide) ?_
    refine az_icmp_ne C 152 dX12_behindSum_105 (by decide) (fun c19 => ?_) (fun c19 => ?_)
    · have h := az_f c19 h
      refine az_iload_n C 0 dX12_behindSum_152 rfl ?_
      refine az_iconst (v := (-1)) C dX12_behindSum_153 (by decide) ?_
      refine az_icmp_ne C 163 dX12_behindSum_154 (by decide) (fun c20 => ?_) (fun c20 => ?_)
      · have h := az_f c20 h
        refine az_sub [2] rfl ?_
        exact s_X12_behindSum_163 C G M r h hp
      · have h := az_t c20 h
        refine az_iload_n C 3 dX12_behindSum_157 rfl ?_
        refine az_if_ne C 163 dX12_behindSum_158 (by decide) (fun c21 => ?_) (fun c21 => ?_)
        · have h := az_f c21 h
          refine az_sub [2] rfl ?_
          exact s_X12_behindSum_163 C G M r h hp
        · have h := az_t c21 h
          refine az_iconst (v := 4) C dX12_behindSum_161 (by decide) ?_
          obtain rfl := Option.some.inj h
          exact az_iret C dX12_behindSum_162 hp
    · have h := az_t c19 h
      refine az_aload_n C 2 dX12_behindSum_108 rfl ?_
      refine az_aload_n C 2 dX12_behindSum_109 rfl ?_
      refine az_bipush (v := 93) C dX12_behindSum_110 (by decide) ?_
      obtain ⟨q22, e23, h⟩ := az_b h
      refine az_cV (rest := [.ref (az_ad V 40)]) (st2 := [.int q22, .ref (az_ad V 40)]) C [.int 93] (c_X12_isSign C.hL 93 M e23) (by decide) li_X12_339 o40 (by decide) rfl rfl (Nat.le_of_ble_eq_true rfl) dX12_behindSum_112 rfl ?_
      obtain ⟨q24, e25, h⟩ := az_b h
      refine az_cV (rest := []) (st2 := []) C [.int q22] (c_X12_must C.hL G q22 M e25) (by decide) li_X12_303 o40 (by decide) rfl rfl (Nat.le_of_ble_eq_true rfl) dX12_behindSum_115 rfl ?_
      refine az_aload_n C 2 dX12_behindSum_118 rfl ?_
      refine az_geti C o40 fl_X12_270 rfl dX12_behindSum_119 ?_
      refine az_if_ne C 150 dX12_behindSum_122 (by decide) (fun c26 => ?_) (fun c26 => ?_)
      · have h := az_f c26 h
        refine az_sub [] rfl ?_
        exact s_X12_behindSum_150 C G q24 r h hp
      · have h := az_t c26 h
        refine az_aload_n C 2 dX12_behindSum_125 rfl ?_
        refine az_iconst (v := 5) C dX12_behindSum_126 (by decide) ?_
        obtain ⟨q27, e28, h⟩ := az_b h
        refine az_cV (rest := []) (st2 := []) C [.int 5] (c_X12_settle C.hL G 5 q24 e28) (by decide) li_X12_372 o40 (by decide) rfl rfl (Nat.le_of_ble_eq_true rfl) dX12_behindSum_127 rfl ?_
        refine az_aload_n C 2 dX12_behindSum_130 rfl ?_
        refine az_dup C dX12_behindSum_131 rfl ?_
        refine az_geti C o40 fl_X12_310 rfl dX12_behindSum_132 ?_
        refine az_iconst (v := 1) C dX12_behindSum_135 (by decide) ?_
        refine az_isub C dX12_behindSum_136 ?_
        refine az_puti C o40 fl_X12_310 rfl rfl rfl rfl dX12_behindSum_137 ?_
        refine az_aload_n C 2 dX12_behindSum_140 rfl ?_
        refine az_dup C dX12_behindSum_141 rfl ?_
        refine az_geti C o40 fl_X12_330 rfl dX12_behindSum_142 ?_
        refine az_iconst (v := 1) C dX12_behindSum_145 (by decide) ?_
        refine az_isub C dX12_behindSum_146 ?_
        refine az_puti C o40 fl_X12_330 rfl rfl rfl rfl dX12_behindSum_147 ?_
        refine az_sub [] rfl ?_
        exact s_X12_behindSum_150 C G (az_i (az_i q27 40 29 ((q27.1 40 29) - 1)) 40 30 (((az_i q27 40 29 ((q27.1 40 29) - 1)).1 40 30) - 1)) r h hp
  · have h := az_f c16 h
    refine az_aload_n C 1 dX12_behindSum_77 rfl ?_
    refine az_iload_n C 0 dX12_behindSum_78 rfl ?_
    obtain ⟨q29, e30, h⟩ := az_b h
    refine az_cS (rest := [.ref (az_ad V 40)]) (st2 := [.int q29, .ref (az_ad V 40)]) C [.int s0] (c_X12_binds C.hL s0 M e30) (by decide) li_X12_313 rfl rfl (Nat.le_of_ble_eq_true rfl) dX12_behindSum_79 rfl ?_
    obtain ⟨q31, e32, h⟩ := az_b h
    refine az_cV (rest := []) (st2 := []) C [.int q29] (c_X12_settle C.hL G q29 M e32) (by decide) li_X12_372 o40 (by decide) rfl rfl (Nat.le_of_ble_eq_true rfl) dX12_behindSum_82 rfl ?_
    refine az_aload_n C 1 dX12_behindSum_85 rfl ?_
    refine az_iload_n C 0 dX12_behindSum_86 rfl ?_
    refine az_iconst (v := 0) C dX12_behindSum_87 (by decide) ?_
    obtain ⟨q33, e34, h⟩ := az_b h
    refine az_cV (rest := []) (st2 := []) C [.int s0, .int 0] (c_X12_push C.hL s0 0 q31 e34) (by decide) li_X12_333 o40 (by decide) rfl rfl (Nat.le_of_ble_eq_true rfl) dX12_behindSum_88 rfl ?_
    refine az_aload_n C 1 dX12_behindSum_91 rfl ?_
    obtain ⟨q35, e36, h⟩ := az_b h
    refine az_cV (rest := []) (st2 := []) C [] (c_X12_next C.hL G q33 e36) (by decide) li_X12_274 o40 (by decide) rfl rfl (Nat.le_of_ble_eq_true rfl) dX12_behindSum_92 rfl ?_
    refine az_iconst (v := 1) C dX12_behindSum_95 (by decide) ?_
    obtain rfl := Option.some.inj h
    exact az_iret C dX12_behindSum_96 hp
set_option maxHeartbeats 4000000 in
set_option maxRecDepth 100000 in
theorem s_X12_behindSum_e {Y : az_Y} {V : az_V} {post : Option Value → az_M → Prop} (C : az_C Y V cX12_behindSum 4 RX12 (some .int) 4) (G : Nat) (p0 : Int32) (M : az_M) (r : (Int32 × az_M)) (h : f_X12_behindSum G p0 M = some r) (hp : post (some (.int r.1)) r.2) : AW Y V (az_end Y V post) 4 M 0 [(0, .ref (az_ad V 40)), (1, .int p0)] [] := by
  have o40 := C.hL.at 40 (ci := 12) rfl
  unfold f_X12_behindSum at h
  refine az_aload_n C 0 dX12_behindSum_0 rfl ?_
  refine az_bipush (v := 43) C dX12_behindSum_1 (by decide) ?_
  obtain ⟨q1, e2, h⟩ := az_b h
  refine az_cV (rest := []) (st2 := [.int q1]) C [.int 43] (c_X12_isSign C.hL 43 M e2) (by decide) li_X12_339 o40 (by decide) rfl rfl (Nat.le_of_ble_eq_true rfl) dX12_behindSum_3 rfl ?_
  refine az_if_eq C 14 dX12_behindSum_6 (by decide) (fun c3 => ?_) (fun c3 => ?_)
  · have h := az_t c3 h
    refine az_aload_n C 0 dX12_behindSum_14 rfl ?_
    refine az_bipush (v := 45) C dX12_behindSum_15 (by decide) ?_
    obtain ⟨q4, e5, h⟩ := az_b h
    refine az_cV (rest := []) (st2 := [.int q4]) C [.int 45] (c_X12_isSign C.hL 45 M e5) (by decide) li_X12_339 o40 (by decide) rfl rfl (Nat.le_of_ble_eq_true rfl) dX12_behindSum_17 rfl ?_
    refine az_if_eq C 28 dX12_behindSum_20 (by decide) (fun c6 => ?_) (fun c6 => ?_)
    · have h := az_t c6 h
      refine az_aload_n C 0 dX12_behindSum_28 rfl ?_
      refine az_bipush (v := 42) C dX12_behindSum_29 (by decide) ?_
      obtain ⟨q7, e8, h⟩ := az_b h
      refine az_cV (rest := []) (st2 := [.int q7]) C [.int 42] (c_X12_isSign C.hL 42 M e8) (by decide) li_X12_339 o40 (by decide) rfl rfl (Nat.le_of_ble_eq_true rfl) dX12_behindSum_31 rfl ?_
      refine az_if_eq C 42 dX12_behindSum_34 (by decide) (fun c9 => ?_) (fun c9 => ?_)
      · have h := az_t c9 h
        refine az_aload_n C 0 dX12_behindSum_42 rfl ?_
        refine az_bipush (v := 47) C dX12_behindSum_43 (by decide) ?_
        obtain ⟨q10, e11, h⟩ := az_b h
        refine az_cV (rest := []) (st2 := [.int q10]) C [.int 47] (c_X12_isSign C.hL 47 M e11) (by decide) li_X12_339 o40 (by decide) rfl rfl (Nat.le_of_ble_eq_true rfl) dX12_behindSum_45 rfl ?_
        refine az_if_eq C 56 dX12_behindSum_48 (by decide) (fun c12 => ?_) (fun c12 => ?_)
        · have h := az_t c12 h
          refine az_aload_n C 0 dX12_behindSum_56 rfl ?_
          refine az_bipush (v := 37) C dX12_behindSum_57 (by decide) ?_
          obtain ⟨q13, e14, h⟩ := az_b h
          refine az_cV (rest := []) (st2 := [.int q13]) C [.int 37] (c_X12_isSign C.hL 37 M e14) (by decide) li_X12_339 o40 (by decide) rfl rfl (Nat.le_of_ble_eq_true rfl) dX12_behindSum_59 rfl ?_
          refine az_if_eq C 70 dX12_behindSum_62 (by decide) (fun c15 => ?_) (fun c15 => ?_)
          · have h := az_t c15 h
            refine az_iconst (v := (-1)) C dX12_behindSum_70 (by decide) ?_
            exact s_X12_behindSum_71 C G p0 (-1) M r h hp
          · have h := az_f c15 h
            refine az_bipush (v := 24) C dX12_behindSum_65 (by decide) ?_
            refine az_goto C 71 dX12_behindSum_67 (by decide) ?_
            exact s_X12_behindSum_71 C G p0 24 M r h hp
        · have h := az_f c12 h
          refine az_bipush (v := 23) C dX12_behindSum_51 (by decide) ?_
          refine az_goto C 71 dX12_behindSum_53 (by decide) ?_
          exact s_X12_behindSum_71 C G p0 23 M r h hp
      · have h := az_f c9 h
        refine az_bipush (v := 22) C dX12_behindSum_37 (by decide) ?_
        refine az_goto C 71 dX12_behindSum_39 (by decide) ?_
        exact s_X12_behindSum_71 C G p0 22 M r h hp
    · have h := az_f c6 h
      refine az_bipush (v := 21) C dX12_behindSum_23 (by decide) ?_
      refine az_goto C 71 dX12_behindSum_25 (by decide) ?_
      exact s_X12_behindSum_71 C G p0 21 M r h hp
  · have h := az_f c3 h
    refine az_bipush (v := 20) C dX12_behindSum_9 (by decide) ?_
    refine az_goto C 71 dX12_behindSum_11 (by decide) ?_
    exact s_X12_behindSum_71 C G p0 20 M r h hp
theorem c_X12_behindSum {l : Launch} {V : az_V} (hL : az_L V) (G : Nat) (p0 : Int32) (M : az_M) {r : (Int32 × az_M)} (h : f_X12_behindSum G p0 M = some r) : az_Ct l V yX12_behindSum cX12_behindSum 4 (some .int) 4 [.ref (az_ad V 40), .int p0] M (fun v M' => v = some (.int r.1) ∧ M' = r.2) :=
  az_Ct.of (by decide) (Nat.le_of_ble_eq_true rfl) (fun Y _ _ C => s_X12_behindSum_e C G p0 M r h ⟨rfl, rfl⟩)
set_option maxHeartbeats 4000000 in
set_option maxRecDepth 100000 in
theorem s_X12_behindTest_66 {Y : az_Y} {V : az_V} {post : Option Value → az_M → Prop} (C : az_C Y V cX12_behindTest 2 RX12 (some .int) 4) (G : Nat) (s0 : Int32) (M : az_M) (r : (Int32 × az_M)) (h : f_X12_behindTest_66 G s0 M = some r) (hp : post (some (.int r.1)) r.2) : AW Y V (az_end Y V post) 2 M 66 [(0, .ref (az_ad V 40))] [.int s0, .ref (az_ad V 40)] := by
  have o40 := C.hL.at 40 (ci := 12) rfl
  unfold f_X12_behindTest_66 at h
  refine az_iconst (v := 0) C dX12_behindTest_66 (by decide) ?_
  obtain ⟨q24, e25, h⟩ := az_b h
  refine az_cV (rest := []) (st2 := []) C [.int s0, .int 0] (c_X12_emit C.hL s0 0 M e25) (by decide) li_X12_316 o40 (by decide) rfl rfl (Nat.le_of_ble_eq_true rfl) dX12_behindTest_67 rfl ?_
  refine az_aload_n C 0 dX12_behindTest_70 rfl ?_
  obtain ⟨q26, e27, h⟩ := az_b h
  refine az_cV (rest := []) (st2 := []) C [] (c_X12_next C.hL G q24 e27) (by decide) li_X12_274 o40 (by decide) rfl rfl (Nat.le_of_ble_eq_true rfl) dX12_behindTest_71 rfl ?_
  refine az_iconst (v := 0) C dX12_behindTest_74 (by decide) ?_
  obtain rfl := Option.some.inj h
  exact az_iret C dX12_behindTest_75 hp
set_option maxHeartbeats 4000000 in
set_option maxRecDepth 100000 in
theorem s_X12_behindTest_47 {Y : az_Y} {V : az_V} {post : Option Value → az_M → Prop} (C : az_C Y V cX12_behindTest 2 RX12 (some .int) 4) (G : Nat) (x1 : Int32) (s0 : Int32) (M : az_M) (r : (Int32 × az_M)) (h : f_X12_behindTest_47 G x1 s0 M = some r) (hp : post (some (.int r.1)) r.2) : AW Y V (az_end Y V post) 2 M 47 [(0, .ref (az_ad V 40)), (1, .int x1)] [.int s0, .ref (az_ad V 40)] := by
  have o40 := C.hL.at 40 (ci := 12) rfl
  unfold f_X12_behindTest_47 at h
  refine az_aload_n C 0 dX12_behindTest_47 rfl ?_
  refine az_geti C o40 fl_X12_307 rfl dX12_behindTest_48 ?_
  obtain ⟨q21, e22, h⟩ := az_b h
  refine az_cV (rest := []) (st2 := []) C [.int s0, .int (M.1 40 23)] (c_X12_push C.hL s0 (M.1 40 23) M e22) (by decide) li_X12_333 o40 (by decide) rfl rfl (Nat.le_of_ble_eq_true rfl) dX12_behindTest_51 rfl ?_
  refine az_aload_n C 0 dX12_behindTest_54 rfl ?_
  refine az_iload_n C 1 dX12_behindTest_55 rfl ?_
  refine az_if_eq C 64 dX12_behindTest_56 (by decide) (fun c23 => ?_) (fun c23 => ?_)
  · have h := az_t c23 h
    refine az_bipush (v := 30) C dX12_behindTest_64 (by decide) ?_
    refine az_sub [0] rfl ?_
    exact s_X12_behindTest_66 C G 30 q21 r h hp
  · have h := az_f c23 h
    refine az_bipush (v := 29) C dX12_behindTest_59 (by decide) ?_
    refine az_goto C 66 dX12_behindTest_61 (by decide) ?_
    refine az_sub [0] rfl ?_
    exact s_X12_behindTest_66 C G 29 q21 r h hp
set_option maxHeartbeats 4000000 in
set_option maxRecDepth 100000 in
theorem s_X12_behindTest_32 {Y : az_Y} {V : az_V} {post : Option Value → az_M → Prop} (C : az_C Y V cX12_behindTest 2 RX12 (some .int) 4) (G : Nat) (x1 : Int32) (s0 : Int32) (M : az_M) (r : (Int32 × az_M)) (h : f_X12_behindTest_32 G x1 s0 M = some r) (hp : post (some (.int r.1)) r.2) : AW Y V (az_end Y V post) 2 M 32 [(0, .ref (az_ad V 40)), (1, .int x1)] [.int s0, .ref (az_ad V 40)] := by
  have o40 := C.hL.at 40 (ci := 12) rfl
  unfold f_X12_behindTest_32 at h
  obtain ⟨q18, e19, h⟩ := az_b h
  refine az_cV (rest := []) (st2 := []) C [.int s0] (c_X12_settle C.hL G s0 M e19) (by decide) li_X12_372 o40 (by decide) rfl rfl (Nat.le_of_ble_eq_true rfl) dX12_behindTest_32 rfl ?_
  refine az_aload_n C 0 dX12_behindTest_35 rfl ?_
  refine az_iload_n C 1 dX12_behindTest_36 rfl ?_
  refine az_if_eq C 45 dX12_behindTest_37 (by decide) (fun c20 => ?_) (fun c20 => ?_)
  · have h := az_t c20 h
    refine az_bipush (v := 30) C dX12_behindTest_45 (by decide) ?_
    exact s_X12_behindTest_47 C G x1 30 q18 r h hp
  · have h := az_f c20 h
    refine az_bipush (v := 29) C dX12_behindTest_40 (by decide) ?_
    refine az_goto C 47 dX12_behindTest_42 (by decide) ?_
    exact s_X12_behindTest_47 C G x1 29 q18 r h hp
set_option maxHeartbeats 4000000 in
set_option maxRecDepth 100000 in
theorem s_X12_behindTest_22 {Y : az_Y} {V : az_V} {post : Option Value → az_M → Prop} (C : az_C Y V cX12_behindTest 2 RX12 (some .int) 4) (G : Nat) (x1 : Int32) (M : az_M) (r : (Int32 × az_M)) (h : f_X12_behindTest_22 G x1 M = some r) (hp : post (some (.int r.1)) r.2) : AW Y V (az_end Y V post) 2 M 22 [(0, .ref (az_ad V 40)), (1, .int x1)] [] := by
  unfold f_X12_behindTest_22 at h
  refine az_aload_n C 0 dX12_behindTest_22 rfl ?_
  refine az_iload_n C 1 dX12_behindTest_23 rfl ?_
  refine az_if_eq C 31 dX12_behindTest_24 (by decide) (fun c17 => ?_) (fun c17 => ?_)
  · have h := az_t c17 h
    refine az_iconst (v := 1) C dX12_behindTest_31 (by decide) ?_
    exact s_X12_behindTest_32 C G x1 1 M r h hp
  · have h := az_f c17 h
    refine az_iconst (v := 2) C dX12_behindTest_27 (by decide) ?_
    refine az_goto C 32 dX12_behindTest_28 (by decide) ?_
    exact s_X12_behindTest_32 C G x1 2 M r h hp
set_option maxHeartbeats 4000000 in
set_option maxRecDepth 100000 in
theorem s_X12_behindTest_128 {Y : az_Y} {V : az_V} {post : Option Value → az_M → Prop} (C : az_C Y V cX12_behindTest 2 RX12 (some .int) 4) (G : Nat)  (M : az_M) (r : (Int32 × az_M)) (h : f_X12_behindTest_128 G M = some r) (hp : post (some (.int r.1)) r.2) : AW Y V (az_end Y V post) 2 M 128 [] [] := by
  unfold f_X12_behindTest_128 at h
  refine az_iconst (v := 2) C dX12_behindTest_128 (by decide) ?_
  obtain rfl := Option.some.inj h
  exact az_iret C dX12_behindTest_129 hp
set_option maxHeartbeats 4000000 in
set_option maxRecDepth 100000 in
theorem s_X12_behindTest_e {Y : az_Y} {V : az_V} {post : Option Value → az_M → Prop} (C : az_C Y V cX12_behindTest 2 RX12 (some .int) 4) (G : Nat)  (M : az_M) (r : (Int32 × az_M)) (h : f_X12_behindTest G M = some r) (hp : post (some (.int r.1)) r.2) : AW Y V (az_end Y V post) 2 M 0 [(0, .ref (az_ad V 40))] [] := by
  have o40 := C.hL.at 40 (ci := 12) rfl
  unfold f_X12_behindTest at h
  refine az_aload_n C 0 dX12_behindTest_0 rfl ?_
  refine az_ldc2 C ck_X12_381 dX12_behindTest_1 ?_
  obtain ⟨q1, e2, h⟩ := az_b h
  refine az_cV (rest := []) (st2 := [.int q1]) C [.long 1476] (c_X12_isWord C.hL 1476 M e2) (by decide) li_X12_326 o40 (by decide) rfl rfl (Nat.le_of_ble_eq_true rfl) dX12_behindTest_4 rfl ?_
  refine az_istore_n C dX12_behindTest_7 rfl (by decide) rfl ?_
  refine az_iload_n C 0 dX12_behindTest_8 rfl ?_
  refine az_if_ne C 22 dX12_behindTest_9 (by decide) (fun c3 => ?_) (fun c3 => ?_)
  · have h := az_f c3 h
    refine az_sub [1, 0] rfl ?_
    exact s_X12_behindTest_22 C G q1 M r h hp
  · have h := az_t c3 h
    refine az_aload_n C 1 dX12_behindTest_12 rfl ?_
    refine az_ldc2 C ck_X12_383 dX12_behindTest_13 ?_
    obtain ⟨q4, e5, h⟩ := az_b h
    refine az_cV (rest := []) (st2 := [.int q4]) C [.long 498] (c_X12_isWord C.hL 498 M e5) (by decide) li_X12_326 o40 (by decide) rfl rfl (Nat.le_of_ble_eq_true rfl) dX12_behindTest_16 rfl ?_
    refine az_if_eq C 76 dX12_behindTest_19 (by decide) (fun c6 => ?_) (fun c6 => ?_)
    · have h := az_t c6 h
      refine az_aload_n C 1 dX12_behindTest_76 rfl ?_
      obtain ⟨q7, e8, h⟩ := az_b h
      refine az_cV (rest := []) (st2 := [.int q7]) C [] (c_X12_inner C.hL G M e8) (by decide) li_X12_375 o40 (by decide) rfl rfl (Nat.le_of_ble_eq_true rfl) dX12_behindTest_77 rfl ?_
      refine az_iconst (v := (-1)) C dX12_behindTest_80 (by decide) ?_
      refine az_icmp_ne C 86 dX12_behindTest_81 (by decide) (fun c9 => ?_) (fun c9 => ?_)
      · have h := az_f c9 h
        refine az_aload_n C 1 dX12_behindTest_86 rfl ?_
        refine az_aload_n C 1 dX12_behindTest_87 rfl ?_
        refine az_bipush (v := 41) C dX12_behindTest_88 (by decide) ?_
        obtain ⟨q10, e11, h⟩ := az_b h
        refine az_cV (rest := [.ref (az_ad V 40)]) (st2 := [.int q10, .ref (az_ad V 40)]) C [.int 41] (c_X12_isSign C.hL 41 M e11) (by decide) li_X12_339 o40 (by decide) rfl rfl (Nat.le_of_ble_eq_true rfl) dX12_behindTest_90 rfl ?_
        obtain ⟨q12, e13, h⟩ := az_b h
        refine az_cV (rest := []) (st2 := []) C [.int q10] (c_X12_must C.hL G q10 M e13) (by decide) li_X12_303 o40 (by decide) rfl rfl (Nat.le_of_ble_eq_true rfl) dX12_behindTest_93 rfl ?_
        refine az_aload_n C 1 dX12_behindTest_96 rfl ?_
        refine az_geti C o40 fl_X12_270 rfl dX12_behindTest_97 ?_
        refine az_if_ne C 128 dX12_behindTest_100 (by decide) (fun c14 => ?_) (fun c14 => ?_)
        · have h := az_f c14 h
          refine az_sub [] rfl ?_
          exact s_X12_behindTest_128 C G q12 r h hp
        · have h := az_t c14 h
          refine az_aload_n C 1 dX12_behindTest_103 rfl ?_
          refine az_iconst (v := 1) C dX12_behindTest_104 (by decide) ?_
          obtain ⟨q15, e16, h⟩ := az_b h
          refine az_cV (rest := []) (st2 := []) C [.int 1] (c_X12_settle C.hL G 1 q12 e16) (by decide) li_X12_372 o40 (by decide) rfl rfl (Nat.le_of_ble_eq_true rfl) dX12_behindTest_105 rfl ?_
          refine az_aload_n C 1 dX12_behindTest_108 rfl ?_
          refine az_dup C dX12_behindTest_109 rfl ?_
          refine az_geti C o40 fl_X12_310 rfl dX12_behindTest_110 ?_
          refine az_iconst (v := 1) C dX12_behindTest_113 (by decide) ?_
          refine az_isub C dX12_behindTest_114 ?_
          refine az_puti C o40 fl_X12_310 rfl rfl rfl rfl dX12_behindTest_115 ?_
          refine az_aload_n C 1 dX12_behindTest_118 rfl ?_
          refine az_dup C dX12_behindTest_119 rfl ?_
          refine az_geti C o40 fl_X12_330 rfl dX12_behindTest_120 ?_
          refine az_iconst (v := 1) C dX12_behindTest_123 (by decide) ?_
          refine az_isub C dX12_behindTest_124 ?_
          refine az_puti C o40 fl_X12_330 rfl rfl rfl rfl dX12_behindTest_125 ?_
          refine az_sub [] rfl ?_
          exact s_X12_behindTest_128 C G (az_i (az_i q15 40 29 ((q15.1 40 29) - 1)) 40 30 (((az_i q15 40 29 ((q15.1 40 29) - 1)).1 40 30) - 1)) r h hp
      · have h := az_t c9 h
        refine az_iconst (v := 4) C dX12_behindTest_84 (by decide) ?_
        obtain rfl := Option.some.inj h
        exact az_iret C dX12_behindTest_85 hp
    · have h := az_f c6 h
      refine az_sub [1, 0] rfl ?_
      exact s_X12_behindTest_22 C G q1 M r h hp
theorem c_X12_behindTest {l : Launch} {V : az_V} (hL : az_L V) (G : Nat)  (M : az_M) {r : (Int32 × az_M)} (h : f_X12_behindTest G M = some r) : az_Ct l V yX12_behindTest cX12_behindTest 2 (some .int) 4 [.ref (az_ad V 40)] M (fun v M' => v = some (.int r.1) ∧ M' = r.2) :=
  az_Ct.of (by decide) (Nat.le_of_ble_eq_true rfl) (fun Y _ _ C => s_X12_behindTest_e C G M r h ⟨rfl, rfl⟩)
