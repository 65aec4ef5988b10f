set_option maxHeartbeats 4000000 in
set_option maxRecDepth 100000 in
theorem s_X12_fireNow_16 {Y : az_Y} {V : az_V} {post : Option Value → az_M → Prop} (C : az_C Y V cX12_fireNow 3 RX12 (some .int) 8) (G : Nat)  (M : az_M) (r : (Int32 × az_M)) (h : f_X12_fireNow_16 G M = some r) (hp : post (some (.int r.1)) r.2) : AW Y V (az_end Y V post) 3 M 16 [] [] := by
  unfold f_X12_fireNow_16 at h
  refine az_bipush (v := (-2)) C dX12_fireNow_16 (by decide) ?_
  obtain rfl := Option.some.inj h
  exact az_iret C dX12_fireNow_18 hp
set_option maxHeartbeats 4000000 in
set_option maxRecDepth 100000 in
theorem s_X12_fireNow_43 {Y : az_Y} {V : az_V} {post : Option Value → az_M → Prop} (C : az_C Y V cX12_fireNow 3 RX12 (some .int) 8) (G : Nat)  (M : az_M) (r : (Int32 × az_M)) (h : f_X12_fireNow_43 G M = some r) (hp : post (some (.int r.1)) r.2) : AW Y V (az_end Y V post) 3 M 43 [] [] := by
  unfold f_X12_fireNow_43 at h
  refine az_bipush (v := (-3)) C dX12_fireNow_43 (by decide) ?_
  obtain rfl := Option.some.inj h
  exact az_iret C dX12_fireNow_45 hp
set_option maxHeartbeats 4000000 in
set_option maxRecDepth 100000 in
theorem s_X12_fireNow_e {Y : az_Y} {V : az_V} {post : Option Value → az_M → Prop} (C : az_C Y V cX12_fireNow 3 RX12 (some .int) 8) (G : Nat) (p0 : Int32) (p1 : Int32) (M : az_M) (r : (Int32 × az_M)) (h : f_X12_fireNow G p0 p1 M = some r) (hp : post (some (.int r.1)) r.2) : AW Y V (az_end Y V post) 3 M 0 [(0, .ref (az_ad V 40)), (1, .int p0), (2, .int p1)] [] := by
  have o40 := C.hL.at 40 (ci := 12) rfl
  unfold f_X12_fireNow at h
  refine az_aload_n C 0 dX12_fireNow_0 rfl ?_
  refine az_iload_n C 1 dX12_fireNow_1 rfl ?_
  obtain ⟨q1, e2, h⟩ := az_b h
  refine az_callV C [.int p0] (c_X12_isPerson C.hL p0 M e2) (by decide) li_X12_229 o40 (by decide) rfl rfl (Nat.le_of_ble_eq_true rfl) dX12_fireNow_2 (fun v M1 hv => ?_)
  obtain ⟨rfl, rfl⟩ := hv
  refine az_eqst (st' := [.int q1]) rfl ?_
  refine az_if_eq C 16 dX12_fireNow_5 (by decide) (fun c3 => ?_) (fun c3 => ?_)
  · have h := az_t c3 h
    refine az_sub [] rfl ?_
    exact s_X12_fireNow_16 C G M r h hp
  · have h := az_f c3 h
    refine az_aload_n C 0 dX12_fireNow_8 rfl ?_
    refine az_iload_n C 2 dX12_fireNow_9 rfl ?_
    obtain ⟨q4, e5, h⟩ := az_b h
    refine az_callV C [.int p1] (c_X12_isPlace C.hL p1 M e5) (by decide) li_X12_206 o40 (by decide) rfl rfl (Nat.le_of_ble_eq_true rfl) dX12_fireNow_10 (fun v M1 hv => ?_)
    obtain ⟨rfl, rfl⟩ := hv
    refine az_eqst (st' := [.int q4]) rfl ?_
    refine az_if_ne C 19 dX12_fireNow_13 (by decide) (fun c6 => ?_) (fun c6 => ?_)
    · have h := az_f c6 h
      refine az_aload_n C 0 dX12_fireNow_19 rfl ?_
      refine az_iload_n C 1 dX12_fireNow_20 rfl ?_
      obtain ⟨q7, e8, h⟩ := az_b h
      refine az_callV C [.int p0] (c_X12_isHurt C.hL p0 M e8) (by decide) li_X12_232 o40 (by decide) rfl rfl (Nat.le_of_ble_eq_true rfl) dX12_fireNow_21 (fun v M1 hv => ?_)
      obtain ⟨rfl, rfl⟩ := hv
      refine az_eqst (st' := [.int q7]) rfl ?_
      refine az_if_ne C 43 dX12_fireNow_24 (by decide) (fun c9 => ?_) (fun c9 => ?_)
      · have h := az_f c9 h
        refine az_sub [] rfl ?_
        exact s_X12_fireNow_43 C G M r h hp
      · have h := az_t c9 h
        refine az_aload_n C 0 dX12_fireNow_27 rfl ?_
        refine az_iload_n C 1 dX12_fireNow_28 rfl ?_
        refine az_iload_n C 2 dX12_fireNow_29 rfl ?_
        obtain ⟨q10, e11, h⟩ := az_b h
        refine az_callV C [.int p0, .int p1] (c_X12_isBarred C.hL G p0 p1 M e11) (by decide) li_X12_241 o40 (by decide) rfl rfl (Nat.le_of_ble_eq_true rfl) dX12_fireNow_30 (fun v M1 hv => ?_)
        obtain ⟨rfl, rfl⟩ := hv
        refine az_eqst (st' := [.int q10.1]) rfl ?_
        refine az_if_ne C 43 dX12_fireNow_33 (by decide) (fun c12 => ?_) (fun c12 => ?_)
        · have h := az_f c12 h
          refine az_sub [] rfl ?_
          exact s_X12_fireNow_43 C G q10.2 r h hp
        · have h := az_t c12 h
          refine az_aload_n C 0 dX12_fireNow_36 rfl ?_
          obtain ⟨q13, e14, h⟩ := az_b h
          refine az_callV C [] (c_X12_canFire C.hL q10.2 e14) (by decide) li_X12_194 o40 (by decide) rfl rfl (Nat.le_of_ble_eq_true rfl) dX12_fireNow_37 (fun v M1 hv => ?_)
          obtain ⟨rfl, rfl⟩ := hv
          refine az_eqst (st' := [.int q13]) rfl ?_
          refine az_if_ne C 46 dX12_fireNow_40 (by decide) (fun c15 => ?_) (fun c15 => ?_)
          · have h := az_f c15 h
            refine az_aload_n C 0 dX12_fireNow_46 rfl ?_
            refine az_iconst (v := 0) C dX12_fireNow_47 (by decide) ?_
            obtain ⟨q16, e17, h⟩ := az_b h
            refine az_callV C [.int 0] (c_X12_remember C.hL G 0 q10.2 e17) (by decide) li_X12_457 o40 (by decide) rfl rfl (Nat.le_of_ble_eq_true rfl) dX12_fireNow_48 (fun v M1 hv => ?_)
            obtain ⟨rfl, rfl⟩ := hv
            refine az_eqst (st' := []) rfl ?_
            refine az_aload_n C 0 dX12_fireNow_51 rfl ?_
            refine az_aload_n C 0 dX12_fireNow_52 rfl ?_
            refine az_iload_n C 1 dX12_fireNow_53 rfl ?_
            refine az_iconst (v := 1) C dX12_fireNow_54 (by decide) ?_
            obtain ⟨q18, e19, h⟩ := az_b h
            refine az_callV C [.int p0, .int 1] (c_X12_ofPerson C.hL p0 1 q16 e19) (by decide) li_X12_226 o40 (by decide) rfl rfl (Nat.le_of_ble_eq_true rfl) dX12_fireNow_55 (fun v M1 hv => ?_)
            obtain ⟨rfl, rfl⟩ := hv
            refine az_eqst (st' := [.int q18, .ref (az_ad V 40)]) rfl ?_
            refine az_iload_n C 2 dX12_fireNow_58 rfl ?_
            obtain ⟨q20, e21, h⟩ := az_b h
            refine az_callV C [.int q18, .int p1] (c_X12_shoot C.hL G q18 p1 q16 e21) (by decide) li_X12_460 o40 (by decide) rfl rfl (Nat.le_of_ble_eq_true rfl) dX12_fireNow_59 (fun v M1 hv => ?_)
            obtain ⟨rfl, rfl⟩ := hv
            refine az_eqst (st' := []) rfl ?_
            refine az_aload_n C 0 dX12_fireNow_62 rfl ?_
            refine az_iconst (v := 0) C dX12_fireNow_63 (by decide) ?_
            obtain ⟨q22, e23, h⟩ := az_b h
            refine az_callV C [.int 0] (c_X12_bulletOf C.hL 0 q20 e23) (by decide) li_X12_186 o40 (by decide) rfl rfl (Nat.le_of_ble_eq_true rfl) dX12_fireNow_64 (fun v M1 hv => ?_)
            obtain ⟨rfl, rfl⟩ := hv
            refine az_eqst (st' := [.int q22]) rfl ?_
            obtain rfl := Option.some.inj h
            exact az_iret C dX12_fireNow_67 hp
          · have h := az_t c15 h
            refine az_sub [] rfl ?_
            exact s_X12_fireNow_43 C G q10.2 r h hp
    · have h := az_t c6 h
      refine az_sub [] rfl ?_
      exact s_X12_fireNow_16 C G M r h hp
theorem c_X12_fireNow {l : Launch} {V : az_V} (hL : az_L V) (G : Nat) (p0 : Int32) (p1 : Int32) (M : az_M) {r : (Int32 × az_M)} (h : f_X12_fireNow G p0 p1 M = some r) : az_Ct l V yX12_fireNow cX12_fireNow 3 (some .int) 8 [.ref (az_ad V 40), .int p0, .int p1] M (fun v M' => v = some (.int r.1) ∧ M' = r.2) :=
  az_Ct.of (by decide) (Nat.le_of_ble_eq_true rfl) (fun Y _ _ C => s_X12_fireNow_e C G p0 p1 M r h ⟨rfl, rfl⟩)
set_option maxHeartbeats 4000000 in
set_option maxRecDepth 100000 in
theorem s_X12_fire_e {Y : az_Y} {V : az_V} {post : Option Value → az_M → Prop} (C : az_C Y V cX12_fire 3 RX12 (some .int) 9) (G : Nat) (p0 : Int32) (p1 : Int32) (M : az_M) (r : (Int32 × az_M)) (h : f_X12_fire G p0 p1 M = some r) (hp : post (some (.int r.1)) r.2) : AW Y V (az_end Y V post) 3 M 0 [(0, .ref (az_ad V 40)), (1, .int p0), (2, .int p1)] [] := by
  have o40 := C.hL.at 40 (ci := 12) rfl
  unfold f_X12_fire at h
  refine az_aload_n C 0 dX12_fire_0 rfl ?_
  refine az_iconst (v := 0) C dX12_fire_1 (by decide) ?_
  refine az_puti C o40 fl_X12_149 rfl rfl rfl rfl dX12_fire_2 ?_
  refine az_aload_n C 0 dX12_fire_5 rfl ?_
  refine az_aload_n C 0 dX12_fire_6 rfl ?_
  refine az_iload_n C 1 dX12_fire_7 rfl ?_
  refine az_iload_n C 2 dX12_fire_8 rfl ?_
  obtain ⟨q1, e2, h⟩ := az_b h
  refine az_callV C [.int p0, .int p1] (c_X12_fireNow C.hL G p0 p1 (az_i M 40 0 0) e2) (by decide) li_X12_463 o40 (by decide) rfl rfl (Nat.le_of_ble_eq_true rfl) dX12_fire_9 (fun v M1 hv => ?_)
  obtain ⟨rfl, rfl⟩ := hv
  refine az_eqst (st' := [.int q1.1, .ref (az_ad V 40)]) rfl ?_
  obtain ⟨q3, e4, h⟩ := az_b h
  refine az_callV C [.int q1.1] (c_X12_tell C.hL q1.1 q1.2 e4) (by decide) li_X12_158 o40 (by decide) rfl rfl (Nat.le_of_ble_eq_true rfl) dX12_fire_12 (fun v M1 hv => ?_)
  obtain ⟨rfl, rfl⟩ := hv
  refine az_eqst (st' := [.int q3.1]) rfl ?_
  obtain rfl := Option.some.inj h
  exact az_iret C dX12_fire_15 hp
theorem c_X12_fire {l : Launch} {V : az_V} (hL : az_L V) (G : Nat) (p0 : Int32) (p1 : Int32) (M : az_M) {r : (Int32 × az_M)} (h : f_X12_fire G p0 p1 M = some r) : az_Ct l V yX12_fire cX12_fire 3 (some .int) 9 [.ref (az_ad V 40), .int p0, .int p1] M (fun v M' => v = some (.int r.1) ∧ M' = r.2) :=
  az_Ct.of (by decide) (Nat.le_of_ble_eq_true rfl) (fun Y _ _ C => s_X12_fire_e C G p0 p1 M r h ⟨rfl, rfl⟩)
set_option maxHeartbeats 4000000 in
set_option maxRecDepth 100000 in
theorem s_X12_draw_e {Y : az_Y} {V : az_V} {post : Option Value → az_M → Prop} (C : az_C Y V cX12_draw 2 RX12 (some .int) 1) (p0 : Int32) (M : az_M) (r : (Int32 × az_M)) (h : f_X12_draw p0 M = some r) (hp : post (some (.int r.1)) r.2) : AW Y V (az_end Y V post) 2 M 0 [(0, .ref (az_ad V 40)), (1, .int p0)] [] := by
  have o40 := C.hL.at 40 (ci := 12) rfl
  unfold f_X12_draw at h
  refine az_aload_n C 0 dX12_draw_0 rfl ?_
  refine az_aload_n C 0 dX12_draw_1 rfl ?_
  refine az_getl C o40 fl_X12_466 rfl dX12_draw_2 ?_
  refine az_ldc2 C ck_X12_469 dX12_draw_5 ?_
  refine az_lmul C dX12_draw_8 ?_
  refine az_ldc2 C ck_X12_471 dX12_draw_9 ?_
  refine az_ladd C dX12_draw_12 ?_
  refine az_ldc2 C ck_X12_473 dX12_draw_13 ?_
  refine az_lrem2 C dX12_draw_16 (by decide) ?_
  refine az_putl C o40 fl_X12_466 rfl rfl rfl rfl dX12_draw_17 ?_
  refine az_aload_n C 0 dX12_draw_20 rfl ?_
  refine az_getl C o40 fl_X12_466 rfl dX12_draw_21 ?_
  refine az_iload_n C 1 dX12_draw_24 rfl ?_
  refine az_i2l C dX12_draw_25 ?_
  obtain ⟨g1, h⟩ := az_g h
  refine az_lrem2 C dX12_draw_26 g1 ?_
  refine az_l2i C dX12_draw_27 ?_
  obtain rfl := Option.some.inj h
  exact az_iret C dX12_draw_28 hp
theorem c_X12_draw {l : Launch} {V : az_V} (hL : az_L V) (p0 : Int32) (M : az_M) {r : (Int32 × az_M)} (h : f_X12_draw p0 M = some r) : az_Ct l V yX12_draw cX12_draw 2 (some .int) 1 [.ref (az_ad V 40), .int p0] M (fun v M' => v = some (.int r.1) ∧ M' = r.2) :=
  az_Ct.of (by decide) (Nat.le_of_ble_eq_true rfl) (fun Y _ _ C => s_X12_draw_e C p0 M r h ⟨rfl, rfl⟩)
set_option maxHeartbeats 4000000 in
set_option maxRecDepth 100000 in
theorem s_X12_dropQuarrel_7 {Y : az_Y} {V : az_V} {post : Option Value → az_M → Prop} (C : az_C Y V cX12_dropQuarrel 3 RX12 none 1) (G : Nat) : ∀ (F : Nat) (x2 : Int32) (M : az_M) (r : az_M), f_X12_dropQuarrel_7 G F x2 M = some r → post none r → AW Y V (az_end Y V post) 3 M 7 [(0, .ref (az_ad V 40)), (2, .int x2)] [] := by
  have o40 := C.hL.at 40 (ci := 12) rfl
  have a42 := C.hL.ar 42 (t := 0) (len := 5550) rfl
  intro F
  induction F with
  | zero =>
    intro x2 M r h
    exact absurd (show (none : Option az_M) = some r from h) (fun q => by cases q)
  | succ F ih =>
    intro x2 M r h hp
    rw [f_X12_dropQuarrel_7] at h
    refine az_iload_n C 1 dX12_dropQuarrel_7 rfl ?_
    refine az_bipush (v := 119) C dX12_dropQuarrel_8 (by decide) ?_
    refine az_icmp_ge C 33 dX12_dropQuarrel_10 (by decide) (fun c1 => ?_) (fun c1 => ?_)
    · have h := az_t c1 h
      refine az_aload_n C 0 dX12_dropQuarrel_33 rfl ?_
      refine az_getr (r := 42) C o40 fl_X12_13 rfl rfl dX12_dropQuarrel_34 ?_
      refine az_iconst (v := 2) C dX12_dropQuarrel_37 (by decide) ?_
      refine az_dup2 C dX12_dropQuarrel_38 rfl rfl ?_
      refine az_ild (k := 2) C a42 (by decide) (by decide) dX12_dropQuarrel_39 ?_
      refine az_iconst (v := 1) C dX12_dropQuarrel_40 (by decide) ?_
      refine az_isub C dX12_dropQuarrel_41 ?_
      refine az_ist (k := 2) C a42 (by decide) (by decide) dX12_dropQuarrel_42 ?_
      obtain rfl := Option.some.inj h
      exact az_vret C rfl dX12_dropQuarrel_43 hp
    · have h := az_f c1 h
      refine az_aload_n C 0 dX12_dropQuarrel_13 rfl ?_
      refine az_getr (r := 42) C o40 fl_X12_13 rfl rfl dX12_dropQuarrel_14 ?_
      refine az_iload_n C 1 dX12_dropQuarrel_17 rfl ?_
      refine az_aload_n C 0 dX12_dropQuarrel_18 rfl ?_
      refine az_getr (r := 42) C o40 fl_X12_13 rfl rfl dX12_dropQuarrel_19 ?_
      refine az_iload_n C 1 dX12_dropQuarrel_22 rfl ?_
      refine az_iconst (v := 4) C dX12_dropQuarrel_23 (by decide) ?_
      refine az_iadd C dX12_dropQuarrel_24 ?_
      obtain ⟨g2, h⟩ := az_g h
      refine az_ild (k := (x2 + 4).toNatClampNeg) C a42 g2 rfl dX12_dropQuarrel_25 ?_
      obtain ⟨g3, h⟩ := az_g h
      refine az_ist (k := x2.toNatClampNeg) C a42 g3 rfl dX12_dropQuarrel_26 ?_
      refine az_iinc (v := (x2 + 1)) C 1 dX12_dropQuarrel_27 rfl rfl (by decide) rfl ?_
      refine az_goto C 7 dX12_dropQuarrel_30 (by decide) ?_
      refine az_sub [1, 0] rfl ?_
      exact ih (x2 + 1) (az_i M 42 x2.toNatClampNeg (M.1 42 ((x2 + 4).toNatClampNeg))) r h hp
set_option maxHeartbeats 4000000 in
set_option maxRecDepth 100000 in
theorem s_X12_dropQuarrel_e {Y : az_Y} {V : az_V} {post : Option Value → az_M → Prop} (C : az_C Y V cX12_dropQuarrel 3 RX12 none 1) (G : Nat) (p0 : Int32) (M : az_M) (r : az_M) (h : f_X12_dropQuarrel G p0 M = some r) (hp : post none r) : AW Y V (az_end Y V post) 3 M 0 [(0, .ref (az_ad V 40)), (1, .int p0)] [] := by
  unfold f_X12_dropQuarrel at h
  refine az_bipush (v := 95) C dX12_dropQuarrel_0 (by decide) ?_
  refine az_iconst (v := 4) C dX12_dropQuarrel_2 (by decide) ?_
  refine az_iload_n C 1 dX12_dropQuarrel_3 rfl ?_
  refine az_imul C dX12_dropQuarrel_4 ?_
  refine az_iadd C dX12_dropQuarrel_5 ?_
  refine az_istore_n C dX12_dropQuarrel_6 rfl (by decide) rfl ?_
  refine az_sub [1, 0] rfl ?_
  exact s_X12_dropQuarrel_7 C G G (95 + (4 * p0)) M r h hp
theorem c_X12_dropQuarrel {l : Launch} {V : az_V} (hL : az_L V) (G : Nat) (p0 : Int32) (M : az_M) {r : az_M} (h : f_X12_dropQuarrel G p0 M = some r) : az_Ct l V yX12_dropQuarrel cX12_dropQuarrel 3 none 1 [.ref (az_ad V 40), .int p0] M (fun v M' => v = none ∧ M' = r) :=
  az_Ct.of (by decide) (Nat.le_of_ble_eq_true rfl) (fun Y _ _ C => s_X12_dropQuarrel_e C G p0 M r h ⟨rfl, rfl⟩)
set_option maxHeartbeats 4000000 in
set_option maxRecDepth 100000 in
theorem s_X12_have_139 {Y : az_Y} {V : az_V} {post : Option Value → az_M → Prop} (C : az_C Y V cX12_have 7 RX12 (some .int) 8) (G : Nat) (K12 : (Int32 → Int32 → Int32 → Int32 → az_M → Option (Int32 × az_M))) (hK12 : ∀ (x1 : Int32) (x2 : Int32) (x3 : Int32) (x4 : Int32) (M : az_M) (r : (Int32 × az_M)), K12 x1 x2 x3 x4 M = some r → post (some (.int r.1)) r.2 → AW Y V (az_end Y V post) 7 M 12 [(0, .ref (az_ad V 40)), (1, .int x1), (2, .int x2), (3, .int x3), (4, .int x4)] []) (x1 : Int32) (x2 : Int32) (x3 : Int32) (x4 : Int32) (M : az_M) (r : (Int32 × az_M)) (h : f_X12_have_139 G K12 x1 x2 x3 x4 M = some r) (hp : post (some (.int r.1)) r.2) : AW Y V (az_end Y V post) 7 M 139 [(0, .ref (az_ad V 40)), (1, .int x1), (2, .int x2), (3, .int x3), (4, .int x4)] [] := by
  unfold f_X12_have_139 at h
  refine az_iinc (v := (x4 + 1)) C 4 dX12_have_139 rfl rfl (by decide) rfl ?_
  refine az_goto C 12 dX12_have_142 (by decide) ?_
  refine az_sub [1, 2, 3, 4, 0] rfl ?_
  exact hK12 x1 x2 x3 (x4 + 1) M r h hp
set_option maxHeartbeats 4000000 in
set_option maxRecDepth 100000 in
theorem s_X12_have_123 {Y : az_Y} {V : az_V} {post : Option Value → az_M → Prop} (C : az_C Y V cX12_have 7 RX12 (some .int) 8) (G : Nat) (K12 : (Int32 → Int32 → Int32 → Int32 → az_M → Option (Int32 × az_M))) (hK12 : ∀ (x1 : Int32) (x2 : Int32) (x3 : Int32) (x4 : Int32) (M : az_M) (r : (Int32 × az_M)), K12 x1 x2 x3 x4 M = some r → post (some (.int r.1)) r.2 → AW Y V (az_end Y V post) 7 M 12 [(0, .ref (az_ad V 40)), (1, .int x1), (2, .int x2), (3, .int x3), (4, .int x4)] []) (x1 : Int32) (x2 : Int32) (x4 : Int32) (s0 : Int32) (M : az_M) (r : (Int32 × az_M)) (h : f_X12_have_123 G K12 x1 x2 x4 s0 M = some r) (hp : post (some (.int r.1)) r.2) : AW Y V (az_end Y V post) 7 M 123 [(0, .ref (az_ad V 40)), (1, .int x1), (2, .int x2), (4, .int x4)] [.int s0] := by
  unfold f_X12_have_123 at h
  refine az_istore_n C dX12_have_123 rfl (by decide) rfl ?_
  refine az_goto C 139 dX12_have_124 (by decide) ?_
  refine az_sub [1, 2, 3, 0, 4] rfl ?_
  exact s_X12_have_139 C G K12 hK12 x1 x2 s0 x4 M r h hp
set_option maxHeartbeats 4000000 in
set_option maxRecDepth 100000 in
theorem s_X12_have_145 {Y : az_Y} {V : az_V} {post : Option Value → az_M → Prop} (C : az_C Y V cX12_have 7 RX12 (some .int) 8) (G : Nat) (x1 : Int32) (x3 : Int32) (M : az_M) (r : (Int32 × az_M)) (h : f_X12_have_145 G x1 x3 M = some r) (hp : post (some (.int r.1)) r.2) : AW Y V (az_end Y V post) 7 M 145 [(0, .ref (az_ad V 40)), (1, .int x1), (3, .int x3)] [] := by
  have o40 := C.hL.at 40 (ci := 12) rfl
  unfold f_X12_have_145 at h
  refine az_aload_n C 0 dX12_have_145 rfl ?_
  refine az_iload_n C 1 dX12_have_146 rfl ?_
  obtain ⟨q29, e30, h⟩ := az_b h
  refine az_callV C [.int x1] (c_X12_dropQuarrel C.hL G x1 M e30) (by decide) li_X12_478 o40 (by decide) rfl rfl (Nat.le_of_ble_eq_true rfl) dX12_have_147 (fun v M1 hv => ?_)
  obtain ⟨rfl, rfl⟩ := hv
  refine az_eqst (st' := []) rfl ?_
  refine az_iload_n C 2 dX12_have_150 rfl ?_
  obtain rfl := Option.some.inj h
  exact az_iret C dX12_have_151 hp
set_option maxHeartbeats 4000000 in
set_option maxRecDepth 100000 in
theorem s_X12_have_12 {Y : az_Y} {V : az_V} {post : Option Value → az_M → Prop} (C : az_C Y V cX12_have 7 RX12 (some .int) 8) (G : Nat) : ∀ (F : Nat) (x1 : Int32) (x2 : Int32) (x3 : Int32) (x4 : Int32) (M : az_M) (r : (Int32 × az_M)), f_X12_have_12 G F x1 x2 x3 x4 M = some r → post (some (.int r.1)) r.2 → AW Y V (az_end Y V post) 7 M 12 [(0, .ref (az_ad V 40)), (1, .int x1), (2, .int x2), (3, .int x3), (4, .int x4)] [] := by
  have o40 := C.hL.at 40 (ci := 12) rfl
  have a42 := C.hL.ar 42 (t := 0) (len := 5550) rfl
  intro F
  induction F with
  | zero =>
    intro x1 x2 x3 x4 M r h
    exact absurd (show (none : Option (Int32 × az_M)) = some r from h) (fun q => by cases q)
  | succ F ih =>
    intro x1 x2 x3 x4 M r h hp
    rw [f_X12_have_12] at h
    refine az_iload C 4 dX12_have_12 rfl ?_
    refine az_iconst (v := 2) C dX12_have_14 (by decide) ?_
    refine az_aload_n C 0 dX12_have_15 rfl ?_
    refine az_iconst (v := 1) C dX12_have_16 (by decide) ?_
    obtain ⟨q3, e4, h⟩ := az_b h
    refine az_callV C [.int 1] (c_X12_term C.hL 1 M e4) (by decide) li_X12_189 o40 (by decide) rfl rfl (Nat.le_of_ble_eq_true rfl) dX12_have_17 (fun v M1 hv => ?_)
    obtain ⟨rfl, rfl⟩ := hv
    refine az_eqst (st' := [.int q3, .int 2, .int x4]) rfl ?_
    refine az_imul C dX12_have_20 ?_
    refine az_icmp_ge C 145 dX12_have_21 (by decide) (fun c5 => ?_) (fun c5 => ?_)
    · have h := az_t c5 h
      refine az_sub [0, 1, 3] rfl ?_
      exact s_X12_have_145 C G x1 x3 M r h hp
    · have h := az_f c5 h
      refine az_iload_n C 3 dX12_have_24 rfl ?_
      refine az_if_ne C 145 dX12_have_25 (by decide) (fun c6 => ?_) (fun c6 => ?_)
      · have h := az_f c6 h
        refine az_sub [0, 1, 3] rfl ?_
        exact s_X12_have_145 C G x1 x3 M r h hp
      · have h := az_t c6 h
        refine az_aload_n C 0 dX12_have_28 rfl ?_
        refine az_iload_n C 1 dX12_have_29 rfl ?_
        refine az_iload C 4 dX12_have_30 rfl ?_
        refine az_iconst (v := 2) C dX12_have_32 (by decide) ?_
        refine az_irem2 C dX12_have_33 (by decide) ?_
        obtain ⟨q7, e8, h⟩ := az_b h
        refine az_callV C [.int x1, .int (az_rem x4 2)] (c_X12_ofQuarrel C.hL x1 (az_rem x4 2) M e8) (by decide) li_X12_238 o40 (by decide) rfl rfl (Nat.le_of_ble_eq_true rfl) dX12_have_34 (fun v M1 hv => ?_)
        obtain ⟨rfl, rfl⟩ := hv
        refine az_eqst (st' := [.int q7]) rfl ?_
        refine az_istore C dX12_have_37 (by decide) rfl ?_
        refine az_aload_n C 1 dX12_have_39 rfl ?_
        refine az_iload_n C 2 dX12_have_40 rfl ?_
        refine az_iconst (v := 1) C dX12_have_41 (by decide) ?_
        refine az_iload C 5 dX12_have_42 rfl ?_
        refine az_iconst (v := 2) C dX12_have_44 (by decide) ?_
        refine az_irem2 C dX12_have_45 (by decide) ?_
        refine az_isub C dX12_have_46 ?_
        obtain ⟨q9, e10, h⟩ := az_b h
        refine az_callV C [.int x1, .int (1 - (az_rem x4 2))] (c_X12_ofQuarrel C.hL x1 (1 - (az_rem x4 2)) M e10) (by decide) li_X12_238 o40 (by decide) rfl rfl (Nat.le_of_ble_eq_true rfl) dX12_have_47 (fun v M1 hv => ?_)
        obtain ⟨rfl, rfl⟩ := hv
        refine az_eqst (st' := [.int q9]) rfl ?_
        refine az_istore C dX12_have_50 (by decide) rfl ?_
        refine az_aload_n C 2 dX12_have_52 rfl ?_
        obtain ⟨q11, e12, h⟩ := az_b h
        refine az_callV C [] (c_X12_canFire C.hL M e12) (by decide) li_X12_194 o40 (by decide) rfl rfl (Nat.le_of_ble_eq_true rfl) dX12_have_53 (fun v M1 hv => ?_)
        obtain ⟨rfl, rfl⟩ := hv
        refine az_eqst (st' := [.int q11]) rfl ?_
        refine az_if_ne C 64 dX12_have_56 (by decide) (fun c13 => ?_) (fun c13 => ?_)
        · have h := az_f c13 h
          refine az_aload_n C 2 dX12_have_64 rfl ?_
          refine az_bipush (v := 10) C dX12_have_65 (by decide) ?_
          obtain ⟨q14, e15, h⟩ := az_b h
          refine az_callV C [.int 10] (c_X12_draw C.hL 10 M e15) (by decide) li_X12_475 o40 (by decide) rfl rfl (Nat.le_of_ble_eq_true rfl) dX12_have_67 (fun v M1 hv => ?_)
          obtain ⟨rfl, rfl⟩ := hv
          refine az_eqst (st' := [.int q14.1]) rfl ?_
          refine az_aload_n C 2 dX12_have_70 rfl ?_
          refine az_iload C 1 dX12_have_71 rfl ?_
          refine az_iload_n C 4 dX12_have_73 rfl ?_
          obtain ⟨q16, e17, h⟩ := az_b h
          refine az_callV C [.int q7, .int x2] (c_X12_aimsOf C.hL G q7 x2 q14.2 e17) (by decide) li_X12_235 o40 (by decide) rfl rfl (Nat.le_of_ble_eq_true rfl) dX12_have_74 (fun v M1 hv => ?_)
          obtain ⟨rfl, rfl⟩ := hv
          refine az_eqst (st' := [.int q16.1, .int q14.1]) rfl ?_
          refine az_icmp_ge C 127 dX12_have_77 (by decide) (fun c18 => ?_) (fun c18 => ?_)
          · have h := az_t c18 h
            refine az_aload_n C 2 dX12_have_127 rfl ?_
            refine az_aload_n C 2 dX12_have_128 rfl ?_
            refine az_iload C 1 dX12_have_129 rfl ?_
            refine az_iconst (v := 1) C dX12_have_131 (by decide) ?_
            obtain ⟨q19, e20, h⟩ := az_b h
            refine az_callV C [.int q7, .int 1] (c_X12_ofPerson C.hL q7 1 q16.2 e20) (by decide) li_X12_226 o40 (by decide) rfl rfl (Nat.le_of_ble_eq_true rfl) dX12_have_132 (fun v M1 hv => ?_)
            obtain ⟨rfl, rfl⟩ := hv
            refine az_eqst (st' := [.int q19, .ref (az_ad V 40)]) rfl ?_
            refine az_iload_n C 4 dX12_have_135 rfl ?_
            obtain ⟨q21, e22, h⟩ := az_b h
            refine az_callV C [.int q19, .int x2] (c_X12_shoot C.hL G q19 x2 q16.2 e22) (by decide) li_X12_460 o40 (by decide) rfl rfl (Nat.le_of_ble_eq_true rfl) dX12_have_136 (fun v M1 hv => ?_)
            obtain ⟨rfl, rfl⟩ := hv
            refine az_eqst (st' := []) rfl ?_
            refine az_sub [2, 3, 4, 5, 6] rfl ?_
            exact s_X12_have_139 C G (f_X12_have_12 G F) ih x1 x2 x3 x4 q21 r h hp
          · have h := az_f c18 h
            refine az_aload_n C 2 dX12_have_80 rfl ?_
            refine az_getr (r := 42) C o40 fl_X12_13 rfl rfl dX12_have_81 ?_
            refine az_bipush (v := 65) C dX12_have_84 (by decide) ?_
            refine az_iconst (v := 3) C dX12_have_86 (by decide) ?_
            refine az_iload C 0 dX12_have_87 rfl ?_
            refine az_imul C dX12_have_89 ?_
            refine az_iadd C dX12_have_90 ?_
            refine az_iconst (v := 2) C dX12_have_91 (by decide) ?_
            refine az_iadd C dX12_have_92 ?_
            refine az_aload_n C 2 dX12_have_93 rfl ?_
            refine az_iconst (v := 0) C dX12_have_94 (by decide) ?_
            obtain ⟨q23, e24, h⟩ := az_b h
            refine az_callV C [.int 0] (c_X12_term C.hL 0 q16.2 e24) (by decide) li_X12_189 o40 (by decide) rfl rfl (Nat.le_of_ble_eq_true rfl) dX12_have_95 (fun v M1 hv => ?_)
            obtain ⟨rfl, rfl⟩ := hv
            refine az_eqst (st' := [.int q23, .int ((65 + (3 * q9)) + 2), .ref (az_ad V 42)]) rfl ?_
            refine az_bipush (v := 7) C dX12_have_98 (by decide) ?_
            refine az_iadd C dX12_have_100 ?_
            obtain ⟨g25, h⟩ := az_g h
            refine az_ist (k := ((65 + (3 * q9)) + 2).toNatClampNeg) C a42 g25 rfl dX12_have_101 ?_
            refine az_aload_n C 2 dX12_have_102 rfl ?_
            refine az_bipush (v := 12) C dX12_have_103 (by decide) ?_
            refine az_iload C 0 dX12_have_105 rfl ?_
            refine az_iadd C dX12_have_107 ?_
            obtain ⟨q26, e27, h⟩ := az_b h
            refine az_callV C [.int (12 + q9)] (c_X12_note C.hL G (12 + q9) (az_i q16.2 42 (((65 + (3 * q9)) + 2).toNatClampNeg) (q23 + 7)) e27) (by decide) li_X12_451 o40 (by decide) rfl rfl (Nat.le_of_ble_eq_true rfl) dX12_have_108 (fun v M1 hv => ?_)
            obtain ⟨rfl, rfl⟩ := hv
            refine az_eqst (st' := []) rfl ?_
            refine az_iload C 6 dX12_have_111 rfl ?_
            refine az_iconst (v := 2) C dX12_have_113 (by decide) ?_
            refine az_irem2 C dX12_have_114 (by decide) ?_
            refine az_if_ne C 122 dX12_have_115 (by decide) (fun c28 => ?_) (fun c28 => ?_)
            · have h := az_f c28 h
              refine az_iconst (v := 2) C dX12_have_122 (by decide) ?_
              refine az_sub [2, 3, 4, 6] rfl ?_
              exact s_X12_have_123 C G (f_X12_have_12 G F) ih x1 x2 x4 2 q26 r h hp
            · have h := az_t c28 h
              refine az_iconst (v := 1) C dX12_have_118 (by decide) ?_
              refine az_goto C 123 dX12_have_119 (by decide) ?_
              refine az_sub [2, 3, 4, 6] rfl ?_
              exact s_X12_have_123 C G (f_X12_have_12 G F) ih x1 x2 x4 1 q26 r h hp
        · have h := az_t c13 h
          refine az_iconst (v := 3) C dX12_have_59 (by decide) ?_
          refine az_istore_n C dX12_have_60 rfl (by decide) rfl ?_
          refine az_goto C 139 dX12_have_61 (by decide) ?_
          refine az_sub [3, 4, 5, 0, 6] rfl ?_
          exact s_X12_have_139 C G (f_X12_have_12 G F) ih x1 x2 3 x4 M r h hp
set_option maxHeartbeats 4000000 in
set_option maxRecDepth 100000 in
theorem s_X12_have_e {Y : az_Y} {V : az_V} {post : Option Value → az_M → Prop} (C : az_C Y V cX12_have 7 RX12 (some .int) 8) (G : Nat) (p0 : Int32) (M : az_M) (r : (Int32 × az_M)) (h : f_X12_have G p0 M = some r) (hp : post (some (.int r.1)) r.2) : AW Y V (az_end Y V post) 7 M 0 [(0, .ref (az_ad V 40)), (1, .int p0)] [] := by
  have o40 := C.hL.at 40 (ci := 12) rfl
  unfold f_X12_have at h
  refine az_aload_n C 0 dX12_have_0 rfl ?_
  refine az_iload_n C 1 dX12_have_1 rfl ?_
  refine az_iconst (v := 2) C dX12_have_2 (by decide) ?_
  obtain ⟨q1, e2, h⟩ := az_b h
  refine az_callV C [.int p0, .int 2] (c_X12_ofQuarrel C.hL p0 2 M e2) (by decide) li_X12_238 o40 (by decide) rfl rfl (Nat.le_of_ble_eq_true rfl) dX12_have_3 (fun v M1 hv => ?_)
  obtain ⟨rfl, rfl⟩ := hv
  refine az_eqst (st' := [.int q1]) rfl ?_
  refine az_istore_n C dX12_have_6 rfl (by decide) rfl ?_
  refine az_iconst (v := 0) C dX12_have_7 (by decide) ?_
  refine az_istore_n C dX12_have_8 rfl (by decide) rfl ?_
  refine az_iconst (v := 0) C dX12_have_9 (by decide) ?_
  refine az_istore C dX12_have_10 (by decide) rfl ?_
  refine az_sub [3, 4, 2, 1, 0] rfl ?_
  exact s_X12_have_12 C G G p0 q1 0 0 M r h hp
theorem c_X12_have {l : Launch} {V : az_V} (hL : az_L V) (G : Nat) (p0 : Int32) (M : az_M) {r : (Int32 × az_M)} (h : f_X12_have G p0 M = some r) : az_Ct l V yX12_have cX12_have 7 (some .int) 8 [.ref (az_ad V 40), .int p0] M (fun v M' => v = some (.int r.1) ∧ M' = r.2) :=
  az_Ct.of (by decide) (Nat.le_of_ble_eq_true rfl) (fun Y _ _ C => s_X12_have_e C G p0 M r h ⟨rfl, rfl⟩)
set_option maxHeartbeats 4000000 in
set_option maxRecDepth 100000 in
theorem s_X12_duelNow_e {Y : az_Y} {V : az_V} {post : Option Value → az_M → Prop} (C : az_C Y V cX12_duelNow 3 RX12 (some .int) 9) (G : Nat) (p0 : Int32) (p1 : Int32) (M : az_M) (r : (Int32 × az_M)) (h : f_X12_duelNow G p0 p1 M = some r) (hp : post (some (.int r.1)) r.2) : AW Y V (az_end Y V post) 3 M 0 [(0, .ref (az_ad V 40)), (1, .int p0), (2, .int p1)] [] := by
  have o40 := C.hL.at 40 (ci := 12) rfl
  unfold f_X12_duelNow at h
  refine az_iload_n C 2 dX12_duelNow_0 rfl ?_
  refine az_i2l C dX12_duelNow_1 ?_
  refine az_lconst (v := 0) C dX12_duelNow_2 (by decide) ?_
  refine az_ldc2 C ck_X12_299 dX12_duelNow_3 ?_
  obtain ⟨q1, e2, h⟩ := az_b h
  refine az_callS C [.long p1.toInt64, .long 0, .long 1000000] (c_X12_in C.hL p1.toInt64 0 1000000 M e2) (by decide) li_X12_169 rfl rfl (Nat.le_of_ble_eq_true rfl) dX12_duelNow_6 (fun v M1 hv => ?_)
  obtain ⟨rfl, rfl⟩ := hv
  refine az_eqst (st' := [.int q1]) rfl ?_
  refine az_if_ne C 14 dX12_duelNow_9 (by decide) (fun c3 => ?_) (fun c3 => ?_)
  · have h := az_f c3 h
    refine az_aload_n C 0 dX12_duelNow_14 rfl ?_
    refine az_iload_n C 1 dX12_duelNow_15 rfl ?_
    obtain ⟨q4, e5, h⟩ := az_b h
    refine az_callV C [.int p0] (c_X12_isQuarrel C.hL p0 M e5) (by decide) li_X12_245 o40 (by decide) rfl rfl (Nat.le_of_ble_eq_true rfl) dX12_duelNow_16 (fun v M1 hv => ?_)
    obtain ⟨rfl, rfl⟩ := hv
    refine az_eqst (st' := [.int q4]) rfl ?_
    refine az_if_ne C 25 dX12_duelNow_19 (by decide) (fun c6 => ?_) (fun c6 => ?_)
    · have h := az_f c6 h
      refine az_aload_n C 0 dX12_duelNow_25 rfl ?_
      refine az_iload_n C 1 dX12_duelNow_26 rfl ?_
      obtain ⟨q7, e8, h⟩ := az_b h
      refine az_callV C [.int p0] (c_X12_canHave C.hL G p0 M e8) (by decide) li_X12_250 o40 (by decide) rfl rfl (Nat.le_of_ble_eq_true rfl) dX12_duelNow_27 (fun v M1 hv => ?_)
      obtain ⟨rfl, rfl⟩ := hv
      refine az_eqst (st' := [.int q7.1]) rfl ?_
      refine az_if_ne C 36 dX12_duelNow_30 (by decide) (fun c9 => ?_) (fun c9 => ?_)
      · have h := az_f c9 h
        refine az_aload_n C 0 dX12_duelNow_36 rfl ?_
        refine az_iconst (v := 1) C dX12_duelNow_37 (by decide) ?_
        obtain ⟨q10, e11, h⟩ := az_b h
        refine az_callV C [.int 1] (c_X12_remember C.hL G 1 q7.2 e11) (by decide) li_X12_457 o40 (by decide) rfl rfl (Nat.le_of_ble_eq_true rfl) dX12_duelNow_38 (fun v M1 hv => ?_)
        obtain ⟨rfl, rfl⟩ := hv
        refine az_eqst (st' := []) rfl ?_
        refine az_aload_n C 0 dX12_duelNow_41 rfl ?_
        refine az_iload_n C 2 dX12_duelNow_42 rfl ?_
        refine az_i2l C dX12_duelNow_43 ?_
        refine az_putl C o40 fl_X12_466 rfl rfl rfl rfl dX12_duelNow_44 ?_
        refine az_aload_n C 0 dX12_duelNow_47 rfl ?_
        refine az_iload_n C 1 dX12_duelNow_48 rfl ?_
        obtain ⟨q12, e13, h⟩ := az_b h
        refine az_callV C [.int p0] (c_X12_have C.hL G p0 (az_l q10 40 41 p1.toInt64) e13) (by decide) li_X12_481 o40 (by decide) rfl rfl (Nat.le_of_ble_eq_true rfl) dX12_duelNow_49 (fun v M1 hv => ?_)
        obtain ⟨rfl, rfl⟩ := hv
        refine az_eqst (st' := [.int q12.1]) rfl ?_
        obtain rfl := Option.some.inj h
        exact az_iret C dX12_duelNow_52 hp
      · have h := az_t c9 h
        refine az_bipush (v := (-3)) C dX12_duelNow_33 (by decide) ?_
        obtain rfl := Option.some.inj h
        exact az_iret C dX12_duelNow_35 hp
    · have h := az_t c6 h
      refine az_bipush (v := (-2)) C dX12_duelNow_22 (by decide) ?_
      obtain rfl := Option.some.inj h
      exact az_iret C dX12_duelNow_24 hp
  · have h := az_t c3 h
    refine az_iconst (v := (-1)) C dX12_duelNow_12 (by decide) ?_
    obtain rfl := Option.some.inj h
    exact az_iret C dX12_duelNow_13 hp
theorem c_X12_duelNow {l : Launch} {V : az_V} (hL : az_L V) (G : Nat) (p0 : Int32) (p1 : Int32) (M : az_M) {r : (Int32 × az_M)} (h : f_X12_duelNow G p0 p1 M = some r) : az_Ct l V yX12_duelNow cX12_duelNow 3 (some .int) 9 [.ref (az_ad V 40), .int p0, .int p1] M (fun v M' => v = some (.int r.1) ∧ M' = r.2) :=
  az_Ct.of (by decide) (Nat.le_of_ble_eq_true rfl) (fun Y _ _ C => s_X12_duelNow_e C G p0 p1 M r h ⟨rfl, rfl⟩)
set_option maxHeartbeats 4000000 in
set_option maxRecDepth 100000 in
theorem s_X12_duel_e {Y : az_Y} {V : az_V} {post : Option Value → az_M → Prop} (C : az_C Y V cX12_duel 3 RX12 (some .int) 10) (G : Nat) (p0 : Int32) (p1 : Int32) (M : az_M) (r : (Int32 × az_M)) (h : f_X12_duel G p0 p1 M = some r) (hp : post (some (.int r.1)) r.2) : AW Y V (az_end Y V post) 3 M 0 [(0, .ref (az_ad V 40)), (1, .int p0), (2, .int p1)] [] := by
  have o40 := C.hL.at 40 (ci := 12) rfl
  unfold f_X12_duel at h
  refine az_aload_n C 0 dX12_duel_0 rfl ?_
  refine az_iconst (v := 0) C dX12_duel_1 (by decide) ?_
  refine az_puti C o40 fl_X12_149 rfl rfl rfl rfl dX12_duel_2 ?_
  refine az_aload_n C 0 dX12_duel_5 rfl ?_
  refine az_aload_n C 0 dX12_duel_6 rfl ?_
  refine az_iload_n C 1 dX12_duel_7 rfl ?_
  refine az_iload_n C 2 dX12_duel_8 rfl ?_
  obtain ⟨q1, e2, h⟩ := az_b h
  refine az_callV C [.int p0, .int p1] (c_X12_duelNow C.hL G p0 p1 (az_i M 40 0 0) e2) (by decide) li_X12_484 o40 (by decide) rfl rfl (Nat.le_of_ble_eq_true rfl) dX12_duel_9 (fun v M1 hv => ?_)
  obtain ⟨rfl, rfl⟩ := hv
  refine az_eqst (st' := [.int q1.1, .ref (az_ad V 40)]) rfl ?_
  obtain ⟨q3, e4, h⟩ := az_b h
  refine az_callV C [.int q1.1] (c_X12_tell C.hL q1.1 q1.2 e4) (by decide) li_X12_158 o40 (by decide) rfl rfl (Nat.le_of_ble_eq_true rfl) dX12_duel_12 (fun v M1 hv => ?_)
  obtain ⟨rfl, rfl⟩ := hv
  refine az_eqst (st' := [.int q3.1]) rfl ?_
  obtain rfl := Option.some.inj h
  exact az_iret C dX12_duel_15 hp
theorem c_X12_duel {l : Launch} {V : az_V} (hL : az_L V) (G : Nat) (p0 : Int32) (p1 : Int32) (M : az_M) {r : (Int32 × az_M)} (h : f_X12_duel G p0 p1 M = some r) : az_Ct l V yX12_duel cX12_duel 3 (some .int) 10 [.ref (az_ad V 40), .int p0, .int p1] M (fun v M' => v = some (.int r.1) ∧ M' = r.2) :=
  az_Ct.of (by decide) (Nat.le_of_ble_eq_true rfl) (fun Y _ _ C => s_X12_duel_e C G p0 p1 M r h ⟨rfl, rfl⟩)
set_option maxHeartbeats 4000000 in
set_option maxRecDepth 100000 in
theorem s_X12_restNow_e {Y : az_Y} {V : az_V} {post : Option Value → az_M → Prop} (C : az_C Y V cX12_restNow 2 RX12 (some .int) 3) (G : Nat) (p0 : Int32) (M : az_M) (r : (Int32 × az_M)) (h : f_X12_restNow G p0 M = some r) (hp : post (some (.int r.1)) r.2) : AW Y V (az_end Y V post) 2 M 0 [(0, .ref (az_ad V 40)), (1, .int p0)] [] := by
  have o40 := C.hL.at 40 (ci := 12) rfl
  unfold f_X12_restNow at h
  refine az_iload_n C 1 dX12_restNow_0 rfl ?_
  refine az_i2l C dX12_restNow_1 ?_
  refine az_lconst (v := 1) C dX12_restNow_2 (by decide) ?_
  refine az_ldc2 C ck_X12_180 dX12_restNow_3 ?_
  obtain ⟨q1, e2, h⟩ := az_b h
  refine az_callS C [.long p0.toInt64, .long 1, .long 99] (c_X12_in C.hL p0.toInt64 1 99 M e2) (by decide) li_X12_169 rfl rfl (Nat.le_of_ble_eq_true rfl) dX12_restNow_6 (fun v M1 hv => ?_)
  obtain ⟨rfl, rfl⟩ := hv
  refine az_eqst (st' := [.int q1]) rfl ?_
  refine az_if_ne C 14 dX12_restNow_9 (by decide) (fun c3 => ?_) (fun c3 => ?_)
  · have h := az_f c3 h
    refine az_aload_n C 0 dX12_restNow_14 rfl ?_
    refine az_iconst (v := 2) C dX12_restNow_15 (by decide) ?_
    obtain ⟨q4, e5, h⟩ := az_b h
    refine az_callV C [.int 2] (c_X12_remember C.hL G 2 M e5) (by decide) li_X12_457 o40 (by decide) rfl rfl (Nat.le_of_ble_eq_true rfl) dX12_restNow_16 (fun v M1 hv => ?_)
    obtain ⟨rfl, rfl⟩ := hv
    refine az_eqst (st' := []) rfl ?_
    refine az_aload_n C 0 dX12_restNow_19 rfl ?_
    refine az_iload_n C 1 dX12_restNow_20 rfl ?_
    obtain ⟨q6, e7, h⟩ := az_b h
    refine az_callV C [.int p0] (c_X12_goDays C.hL p0 q4 e7) (by decide) li_X12_454 o40 (by decide) rfl rfl (Nat.le_of_ble_eq_true rfl) dX12_restNow_21 (fun v M1 hv => ?_)
    obtain ⟨rfl, rfl⟩ := hv
    refine az_eqst (st' := []) rfl ?_
    refine az_aload_n C 0 dX12_restNow_24 rfl ?_
    refine az_iconst (v := 0) C dX12_restNow_25 (by decide) ?_
    obtain ⟨q8, e9, h⟩ := az_b h
    refine az_callV C [.int 0] (c_X12_term C.hL 0 q6 e9) (by decide) li_X12_189 o40 (by decide) rfl rfl (Nat.le_of_ble_eq_true rfl) dX12_restNow_26 (fun v M1 hv => ?_)
    obtain ⟨rfl, rfl⟩ := hv
    refine az_eqst (st' := [.int q8]) rfl ?_
    obtain rfl := Option.some.inj h
    exact az_iret C dX12_restNow_29 hp
  · have h := az_t c3 h
    refine az_iconst (v := (-1)) C dX12_restNow_12 (by decide) ?_
    obtain rfl := Option.some.inj h
    exact az_iret C dX12_restNow_13 hp
theorem c_X12_restNow {l : Launch} {V : az_V} (hL : az_L V) (G : Nat) (p0 : Int32) (M : az_M) {r : (Int32 × az_M)} (h : f_X12_restNow G p0 M = some r) : az_Ct l V yX12_restNow cX12_restNow 2 (some .int) 3 [.ref (az_ad V 40), .int p0] M (fun v M' => v = some (.int r.1) ∧ M' = r.2) :=
  az_Ct.of (by decide) (Nat.le_of_ble_eq_true rfl) (fun Y _ _ C => s_X12_restNow_e C G p0 M r h ⟨rfl, rfl⟩)
set_option maxHeartbeats 4000000 in
set_option maxRecDepth 100000 in
theorem s_X12_rest_e {Y : az_Y} {V : az_V} {post : Option Value → az_M → Prop} (C : az_C Y V cX12_rest 2 RX12 (some .int) 4) (G : Nat) (p0 : Int32) (M : az_M) (r : (Int32 × az_M)) (h : f_X12_rest G p0 M = some r) (hp : post (some (.int r.1)) r.2) : AW Y V (az_end Y V post) 2 M 0 [(0, .ref (az_ad V 40)), (1, .int p0)] [] := by
  have o40 := C.hL.at 40 (ci := 12) rfl
  unfold f_X12_rest at h
  refine az_aload_n C 0 dX12_rest_0 rfl ?_
  refine az_iconst (v := 0) C dX12_rest_1 (by decide) ?_
  refine az_puti C o40 fl_X12_149 rfl rfl rfl rfl dX12_rest_2 ?_
  refine az_aload_n C 0 dX12_rest_5 rfl ?_
  refine az_aload_n C 0 dX12_rest_6 rfl ?_
  refine az_iload_n C 1 dX12_rest_7 rfl ?_
  obtain ⟨q1, e2, h⟩ := az_b h
  refine az_callV C [.int p0] (c_X12_restNow C.hL G p0 (az_i M 40 0 0) e2) (by decide) li_X12_487 o40 (by decide) rfl rfl (Nat.le_of_ble_eq_true rfl) dX12_rest_8 (fun v M1 hv => ?_)
  obtain ⟨rfl, rfl⟩ := hv
  refine az_eqst (st' := [.int q1.1, .ref (az_ad V 40)]) rfl ?_
  obtain ⟨q3, e4, h⟩ := az_b h
  refine az_callV C [.int q1.1] (c_X12_tell C.hL q1.1 q1.2 e4) (by decide) li_X12_158 o40 (by decide) rfl rfl (Nat.le_of_ble_eq_true rfl) dX12_rest_11 (fun v M1 hv => ?_)
  obtain ⟨rfl, rfl⟩ := hv
  refine az_eqst (st' := [.int q3.1]) rfl ?_
  obtain rfl := Option.some.inj h
  exact az_iret C dX12_rest_14 hp
theorem c_X12_rest {l : Launch} {V : az_V} (hL : az_L V) (G : Nat) (p0 : Int32) (M : az_M) {r : (Int32 × az_M)} (h : f_X12_rest G p0 M = some r) : az_Ct l V yX12_rest cX12_rest 2 (some .int) 4 [.ref (az_ad V 40), .int p0] M (fun v M' => v = some (.int r.1) ∧ M' = r.2) :=
  az_Ct.of (by decide) (Nat.le_of_ble_eq_true rfl) (fun Y _ _ C => s_X12_rest_e C G p0 M r h ⟨rfl, rfl⟩)
set_option maxHeartbeats 4000000 in
set_option maxRecDepth 100000 in
theorem s_X12_log_36 {Y : az_Y} {V : az_V} {post : Option Value → az_M → Prop} (C : az_C Y V cX12_log 2 RX12 (some .int) 2) (s0 : Int32) (M : az_M) (r : (Int32 × az_M)) (h : f_X12_log_36 s0 M = some r) (hp : post (some (.int r.1)) r.2) : AW Y V (az_end Y V post) 2 M 36 [] [.int s0] := by
  unfold f_X12_log_36 at h
  obtain rfl := Option.some.inj h
  exact az_iret C dX12_log_36 hp
set_option maxHeartbeats 4000000 in
set_option maxRecDepth 100000 in
theorem s_X12_log_e {Y : az_Y} {V : az_V} {post : Option Value → az_M → Prop} (C : az_C Y V cX12_log 2 RX12 (some .int) 2) (p0 : Int32) (M : az_M) (r : (Int32 × az_M)) (h : f_X12_log p0 M = some r) (hp : post (some (.int r.1)) r.2) : AW Y V (az_end Y V post) 2 M 0 [(0, .ref (az_ad V 40)), (1, .int p0)] [] := by
  have o40 := C.hL.at 40 (ci := 12) rfl
  have a42 := C.hL.ar 42 (t := 0) (len := 5550) rfl
  unfold f_X12_log at h
  refine az_aload_n C 0 dX12_log_0 rfl ?_
  refine az_iconst (v := 0) C dX12_log_1 (by decide) ?_
  refine az_puti C o40 fl_X12_149 rfl rfl rfl rfl dX12_log_2 ?_
  refine az_iload_n C 1 dX12_log_5 rfl ?_
  refine az_i2l C dX12_log_6 ?_
  refine az_lconst (v := 0) C dX12_log_7 (by decide) ?_
  refine az_aload_n C 0 dX12_log_8 rfl ?_
  refine az_getr (r := 42) C o40 fl_X12_13 rfl rfl dX12_log_9 ?_
  refine az_iconst (v := 3) C dX12_log_12 (by decide) ?_
  refine az_ild (k := 3) C a42 (by decide) (by decide) dX12_log_13 ?_
  refine az_i2l C dX12_log_14 ?_
  refine az_lconst (v := 1) C dX12_log_15 (by decide) ?_
  refine az_lsub C dX12_log_16 ?_
  obtain ⟨q1, e2, h⟩ := az_b h
  refine az_callS C [.long p0.toInt64, .long 0, .long (((az_i M 40 0 0).1 42 3).toInt64 - 1)] (c_X12_in C.hL p0.toInt64 0 (((az_i M 40 0 0).1 42 3).toInt64 - 1) (az_i M 40 0 0) e2) (by decide) li_X12_169 rfl rfl (Nat.le_of_ble_eq_true rfl) dX12_log_17 (fun v M1 hv => ?_)
  obtain ⟨rfl, rfl⟩ := hv
  refine az_eqst (st' := [.int q1]) rfl ?_
  refine az_if_eq C 35 dX12_log_20 (by decide) (fun c3 => ?_) (fun c3 => ?_)
  · have h := az_t c3 h
    refine az_iconst (v := (-1)) C dX12_log_35 (by decide) ?_
    refine az_sub [] rfl ?_
    exact s_X12_log_36 C (-1) (az_i M 40 0 0) r h hp
  · have h := az_f c3 h
    refine az_aload_n C 0 dX12_log_23 rfl ?_
    refine az_getr (r := 42) C o40 fl_X12_13 rfl rfl dX12_log_24 ?_
    refine az_bipush (v := 123) C dX12_log_27 (by decide) ?_
    refine az_iload_n C 1 dX12_log_29 rfl ?_
    refine az_iadd C dX12_log_30 ?_
    obtain ⟨g4, h⟩ := az_g h
    refine az_ild (k := (123 + p0).toNatClampNeg) C a42 g4 rfl dX12_log_31 ?_
    refine az_goto C 36 dX12_log_32 (by decide) ?_
    refine az_sub [] rfl ?_
    exact s_X12_log_36 C ((az_i M 40 0 0).1 42 ((123 + p0).toNatClampNeg)) (az_i M 40 0 0) r h hp
theorem c_X12_log {l : Launch} {V : az_V} (hL : az_L V) (p0 : Int32) (M : az_M) {r : (Int32 × az_M)} (h : f_X12_log p0 M = some r) : az_Ct l V yX12_log cX12_log 2 (some .int) 2 [.ref (az_ad V 40), .int p0] M (fun v M' => v = some (.int r.1) ∧ M' = r.2) :=
  az_Ct.of (by decide) (Nat.le_of_ble_eq_true rfl) (fun Y _ _ C => s_X12_log_e C p0 M r h ⟨rfl, rfl⟩)
set_option maxHeartbeats 4000000 in
set_option maxRecDepth 100000 in
theorem s_X12_findEnds_135 {Y : az_Y} {V : az_V} {post : Option Value → az_M → Prop} (C : az_C Y V cX12_findEnds 7 RX12 none 8) (G : Nat) (K37 : (Int32 → Int32 → Int32 → Int32 → az_M → Option az_M)) (hK37 : ∀ (x1 : Int32) (x2 : Int32) (x3 : Int32) (x4 : Int32) (M : az_M) (r : az_M), K37 x1 x2 x3 x4 M = some r → post none r → AW Y V (az_end Y V post) 7 M 37 [(0, .ref (az_ad V 40)), (1, .int x1), (2, .int x2), (3, .int x3), (4, .int x4)] []) (x1 : Int32) (x2 : Int32) (x3 : Int32) (x4 : Int32) (M : az_M) (r : az_M) (h : f_X12_findEnds_135 G K37 x1 x2 x3 x4 M = some r) (hp : post none r) : AW Y V (az_end Y V post) 7 M 135 [(0, .ref (az_ad V 40)), (1, .int x1), (2, .int x2), (3, .int x3), (4, .int x4)] [] := by
  unfold f_X12_findEnds_135 at h
  refine az_iinc (v := (x4 + 1)) C 4 dX12_findEnds_135 rfl rfl (by decide) rfl ?_
  refine az_goto C 37 dX12_findEnds_138 (by decide) ?_
  refine az_sub [1, 2, 3, 4, 0] rfl ?_
  exact hK37 x1 x2 x3 (x4 + 1) M r h hp
set_option maxHeartbeats 4000000 in
set_option maxRecDepth 100000 in
theorem s_X12_findEnds_37 {Y : az_Y} {V : az_V} {post : Option Value → az_M → Prop} (C : az_C Y V cX12_findEnds 7 RX12 none 8) (G : Nat) : ∀ (F : Nat) (x1 : Int32) (x2 : Int32) (x3 : Int32) (x4 : Int32) (M : az_M) (r : az_M), f_X12_findEnds_37 G F x1 x2 x3 x4 M = some r → post none r → AW Y V (az_end Y V post) 7 M 37 [(0, .ref (az_ad V 40)), (1, .int x1), (2, .int x2), (3, .int x3), (4, .int x4)] [] := by
  have o40 := C.hL.at 40 (ci := 12) rfl
  have a61 := C.hL.ar 61 (t := 0) (len := 4) rfl
  intro F
  induction F with
  | zero =>
    intro x1 x2 x3 x4 M r h
    exact absurd (show (none : Option az_M) = some r from h) (fun q => by cases q)
  | succ F ih =>
    intro x1 x2 x3 x4 M r h hp
    rw [f_X12_findEnds_37] at h
    refine az_iload C 4 dX12_findEnds_37 rfl ?_
    refine az_iconst (v := 2) C dX12_findEnds_39 (by decide) ?_
    refine az_aload_n C 0 dX12_findEnds_40 rfl ?_
    refine az_iconst (v := 1) C dX12_findEnds_41 (by decide) ?_
    obtain ⟨q5, e6, h⟩ := az_b h
    refine az_callV C [.int 1] (c_X12_term C.hL 1 M e6) (by decide) li_X12_189 o40 (by decide) rfl rfl (Nat.le_of_ble_eq_true rfl) dX12_findEnds_42 (fun v M1 hv => ?_)
    obtain ⟨rfl, rfl⟩ := hv
    refine az_eqst (st' := [.int q5, .int 2, .int x4]) rfl ?_
    refine az_imul C dX12_findEnds_45 ?_
    refine az_icmp_ge C 141 dX12_findEnds_46 (by decide) (fun c7 => ?_) (fun c7 => ?_)
    · have h := az_t c7 h
      refine az_aload_n C 0 dX12_findEnds_141 rfl ?_
      refine az_getr (r := 61) C o40 fl_X12_116 rfl rfl dX12_findEnds_142 ?_
      refine az_iconst (v := 0) C dX12_findEnds_145 (by decide) ?_
      refine az_iload_n C 3 dX12_findEnds_146 rfl ?_
      refine az_ist (k := 0) C a61 (by decide) (by decide) dX12_findEnds_147 ?_
      obtain rfl := Option.some.inj h
      exact az_vret C rfl dX12_findEnds_148 hp
    · have h := az_f c7 h
      refine az_aload_n C 0 dX12_findEnds_49 rfl ?_
      obtain ⟨q8, e9, h⟩ := az_b h
      refine az_callV C [] (c_X12_canFire C.hL M e9) (by decide) li_X12_194 o40 (by decide) rfl rfl (Nat.le_of_ble_eq_true rfl) dX12_findEnds_50 (fun v M1 hv => ?_)
      obtain ⟨rfl, rfl⟩ := hv
      refine az_eqst (st' := [.int q8]) rfl ?_
      refine az_if_ne C 71 dX12_findEnds_53 (by decide) (fun c10 => ?_) (fun c10 => ?_)
      · have h := az_f c10 h
        refine az_aload_n C 0 dX12_findEnds_71 rfl ?_
        refine az_iload_n C 1 dX12_findEnds_72 rfl ?_
        refine az_iload C 4 dX12_findEnds_73 rfl ?_
        refine az_iconst (v := 2) C dX12_findEnds_75 (by decide) ?_
        refine az_irem2 C dX12_findEnds_76 (by decide) ?_
        obtain ⟨q11, e12, h⟩ := az_b h
        refine az_callV C [.int x1, .int (az_rem x4 2)] (c_X12_ofQuarrel C.hL x1 (az_rem x4 2) M e12) (by decide) li_X12_238 o40 (by decide) rfl rfl (Nat.le_of_ble_eq_true rfl) dX12_findEnds_77 (fun v M1 hv => ?_)
        obtain ⟨rfl, rfl⟩ := hv
        refine az_eqst (st' := [.int q11]) rfl ?_
        refine az_istore C dX12_findEnds_80 (by decide) rfl ?_
        refine az_aload_n C 1 dX12_findEnds_82 rfl ?_
        refine az_iload C 0 dX12_findEnds_83 rfl ?_
        refine az_iload_n C 3 dX12_findEnds_85 rfl ?_
        obtain ⟨q13, e14, h⟩ := az_b h
        refine az_callV C [.int q11, .int x2] (c_X12_aimsOf C.hL G q11 x2 M e14) (by decide) li_X12_235 o40 (by decide) rfl rfl (Nat.le_of_ble_eq_true rfl) dX12_findEnds_86 (fun v M1 hv => ?_)
        obtain ⟨rfl, rfl⟩ := hv
        refine az_eqst (st' := [.int q13.1]) rfl ?_
        refine az_istore C dX12_findEnds_89 (by decide) rfl ?_
        refine az_aload_n C 2 dX12_findEnds_91 rfl ?_
        refine az_getr (r := 61) C o40 fl_X12_116 rfl rfl dX12_findEnds_92 ?_
        refine az_iconst (v := 1) C dX12_findEnds_95 (by decide) ?_
        refine az_iload C 6 dX12_findEnds_96 rfl ?_
        refine az_iconst (v := 2) C dX12_findEnds_98 (by decide) ?_
        refine az_irem2 C dX12_findEnds_99 (by decide) ?_
        refine az_iadd C dX12_findEnds_100 ?_
        refine az_dup2 C dX12_findEnds_101 rfl rfl ?_
        obtain ⟨g15, h⟩ := az_g h
        refine az_ild (k := (1 + (az_rem x4 2)).toNatClampNeg) C a61 g15 rfl dX12_findEnds_102 ?_
        refine az_iload_n C 5 dX12_findEnds_103 rfl ?_
        refine az_bipush (v := 10) C dX12_findEnds_104 (by decide) ?_
        refine az_idiv C dX12_findEnds_106 (by decide) ?_
        refine az_iload C 0 dX12_findEnds_107 rfl ?_
        refine az_imul C dX12_findEnds_109 ?_
        refine az_iadd C dX12_findEnds_110 ?_
        obtain ⟨g16, h⟩ := az_g h
        refine az_ist (k := (1 + (az_rem x4 2)).toNatClampNeg) C a61 g16 rfl dX12_findEnds_111 ?_
        refine az_iload_n C 5 dX12_findEnds_112 rfl ?_
        refine az_bipush (v := 10) C dX12_findEnds_113 (by decide) ?_
        refine az_idiv C dX12_findEnds_115 (by decide) ?_
        refine az_bipush (v := 10) C dX12_findEnds_116 (by decide) ?_
        refine az_iload C 0 dX12_findEnds_118 rfl ?_
        refine az_isub C dX12_findEnds_120 ?_
        refine az_imul C dX12_findEnds_121 ?_
        refine az_istore_n C dX12_findEnds_122 rfl (by decide) rfl ?_
        refine az_aload_n C 3 dX12_findEnds_123 rfl ?_
        refine az_aload_n C 3 dX12_findEnds_124 rfl ?_
        refine az_iload C 2 dX12_findEnds_125 rfl ?_
        refine az_iconst (v := 1) C dX12_findEnds_127 (by decide) ?_
        obtain ⟨q17, e18, h⟩ := az_b h
        refine az_callV C [.int q11, .int 1] (c_X12_ofPerson C.hL q11 1 (az_i q13.2 61 ((1 + (az_rem x4 2)).toNatClampNeg) ((q13.2.1 61 ((1 + (az_rem x4 2)).toNatClampNeg)) + ((x3 / 10) * q13.1))) e18) (by decide) li_X12_226 o40 (by decide) rfl rfl (Nat.le_of_ble_eq_true rfl) dX12_findEnds_128 (fun v M1 hv => ?_)
        obtain ⟨rfl, rfl⟩ := hv
        refine az_eqst (st' := [.int q17, .ref (az_ad V 40)]) rfl ?_
        refine az_iload_n C 5 dX12_findEnds_131 rfl ?_
        obtain ⟨q19, e20, h⟩ := az_b h
        refine az_callV C [.int q17, .int x2] (c_X12_shoot C.hL G q17 x2 (az_i q13.2 61 ((1 + (az_rem x4 2)).toNatClampNeg) ((q13.2.1 61 ((1 + (az_rem x4 2)).toNatClampNeg)) + ((x3 / 10) * q13.1))) e20) (by decide) li_X12_460 o40 (by decide) rfl rfl (Nat.le_of_ble_eq_true rfl) dX12_findEnds_132 (fun v M1 hv => ?_)
        obtain ⟨rfl, rfl⟩ := hv
        refine az_eqst (st' := []) rfl ?_
        refine az_sub [3, 4, 5, 0, 6] rfl ?_
        exact s_X12_findEnds_135 C G (f_X12_findEnds_37 G F) ih x1 x2 ((x3 / 10) * (10 - q13.1)) x4 q19 r h hp
      · have h := az_t c10 h
        refine az_aload_n C 0 dX12_findEnds_56 rfl ?_
        refine az_getr (r := 61) C o40 fl_X12_116 rfl rfl dX12_findEnds_57 ?_
        refine az_iconst (v := 3) C dX12_findEnds_60 (by decide) ?_
        refine az_dup2 C dX12_findEnds_61 rfl rfl ?_
        refine az_ild (k := 3) C a61 (by decide) (by decide) dX12_findEnds_62 ?_
        refine az_iload_n C 3 dX12_findEnds_63 rfl ?_
        refine az_iadd C dX12_findEnds_64 ?_
        refine az_ist (k := 3) C a61 (by decide) (by decide) dX12_findEnds_65 ?_
        refine az_iconst (v := 0) C dX12_findEnds_66 (by decide) ?_
        refine az_istore_n C dX12_findEnds_67 rfl (by decide) rfl ?_
        refine az_goto C 135 dX12_findEnds_68 (by decide) ?_
        refine az_sub [1, 2, 3, 0, 4] rfl ?_
        exact s_X12_findEnds_135 C G (f_X12_findEnds_37 G F) ih x1 x2 0 x4 (az_i M 61 3 ((M.1 61 3) + x3)) r h hp
set_option maxHeartbeats 4000000 in
set_option maxRecDepth 100000 in
theorem s_X12_findEnds_14 {Y : az_Y} {V : az_V} {post : Option Value → az_M → Prop} (C : az_C Y V cX12_findEnds 7 RX12 none 8) (G : Nat) : ∀ (F : Nat) (x1 : Int32) (x2 : Int32) (x3 : Int32) (x4 : Int32) (M : az_M) (r : az_M), f_X12_findEnds_14 G F x1 x2 x3 x4 M = some r → post none r → AW Y V (az_end Y V post) 7 M 14 [(0, .ref (az_ad V 40)), (1, .int x1), (2, .int x2), (3, .int x3), (4, .int x4)] [] := by
  have o40 := C.hL.at 40 (ci := 12) rfl
  have a61 := C.hL.ar 61 (t := 0) (len := 4) rfl
  intro F
  induction F with
  | zero =>
    intro x1 x2 x3 x4 M r h
    exact absurd (show (none : Option az_M) = some r from h) (fun q => by cases q)
  | succ F ih =>
    intro x1 x2 x3 x4 M r h hp
    rw [f_X12_findEnds_14] at h
    refine az_iload C 4 dX12_findEnds_14 rfl ?_
    refine az_iconst (v := 4) C dX12_findEnds_16 (by decide) ?_
    refine az_icmp_ge C 34 dX12_findEnds_17 (by decide) (fun c3 => ?_) (fun c3 => ?_)
    · have h := az_t c3 h
      refine az_iconst (v := 0) C dX12_findEnds_34 (by decide) ?_
      refine az_istore C dX12_findEnds_35 (by decide) rfl ?_
      refine az_sub [1, 2, 3, 4, 0] rfl ?_
      exact s_X12_findEnds_37 C G G x1 x2 x3 0 M r h hp
    · have h := az_f c3 h
      refine az_aload_n C 0 dX12_findEnds_20 rfl ?_
      refine az_getr (r := 61) C o40 fl_X12_116 rfl rfl dX12_findEnds_21 ?_
      refine az_iload C 4 dX12_findEnds_24 rfl ?_
      refine az_iconst (v := 0) C dX12_findEnds_26 (by decide) ?_
      obtain ⟨g4, h⟩ := az_g h
      refine az_ist (k := x4.toNatClampNeg) C a61 g4 rfl dX12_findEnds_27 ?_
      refine az_iinc (v := (x4 + 1)) C 4 dX12_findEnds_28 rfl rfl (by decide) rfl ?_
      refine az_goto C 14 dX12_findEnds_31 (by decide) ?_
      refine az_sub [1, 2, 3, 4, 0] rfl ?_
      exact ih x1 x2 x3 (x4 + 1) (az_i M 61 x4.toNatClampNeg 0) r h hp
set_option maxHeartbeats 4000000 in
set_option maxRecDepth 100000 in
theorem s_X12_findEnds_e {Y : az_Y} {V : az_V} {post : Option Value → az_M → Prop} (C : az_C Y V cX12_findEnds 7 RX12 none 8) (G : Nat) (p0 : Int32) (M : az_M) (r : az_M) (h : f_X12_findEnds G p0 M = some r) (hp : post none r) : AW Y V (az_end Y V post) 7 M 0 [(0, .ref (az_ad V 40)), (1, .int p0)] [] := by
  have o40 := C.hL.at 40 (ci := 12) rfl
  unfold f_X12_findEnds at h
  refine az_aload_n C 0 dX12_findEnds_0 rfl ?_
  refine az_iload_n C 1 dX12_findEnds_1 rfl ?_
  refine az_iconst (v := 2) C dX12_findEnds_2 (by decide) ?_
  obtain ⟨q1, e2, h⟩ := az_b h
  refine az_callV C [.int p0, .int 2] (c_X12_ofQuarrel C.hL p0 2 M e2) (by decide) li_X12_238 o40 (by decide) rfl rfl (Nat.le_of_ble_eq_true rfl) dX12_findEnds_3 (fun v M1 hv => ?_)
  obtain ⟨rfl, rfl⟩ := hv
  refine az_eqst (st' := [.int q1]) rfl ?_
  refine az_istore_n C dX12_findEnds_6 rfl (by decide) rfl ?_
  refine az_ldcw C ck_X12_490 dX12_findEnds_7 ?_
  refine az_istore_n C dX12_findEnds_10 rfl (by decide) rfl ?_
  refine az_iconst (v := 0) C dX12_findEnds_11 (by decide) ?_
  refine az_istore C dX12_findEnds_12 (by decide) rfl ?_
  refine az_sub [3, 4, 2, 1, 0] rfl ?_
  exact s_X12_findEnds_14 C G G p0 q1 100000000 0 M r h hp
theorem c_X12_findEnds {l : Launch} {V : az_V} (hL : az_L V) (G : Nat) (p0 : Int32) (M : az_M) {r : az_M} (h : f_X12_findEnds G p0 M = some r) : az_Ct l V yX12_findEnds cX12_findEnds 7 none 8 [.ref (az_ad V 40), .int p0] M (fun v M' => v = none ∧ M' = r) :=
  az_Ct.of (by decide) (Nat.le_of_ble_eq_true rfl) (fun Y _ _ C => s_X12_findEnds_e C G p0 M r h ⟨rfl, rfl⟩)
set_option maxHeartbeats 4000000 in
set_option maxRecDepth 100000 in
theorem s_X12_odds_25 {Y : az_Y} {V : az_V} {post : Option Value → az_M → Prop} (C : az_C Y V cX12_odds 3 RX12 (some .int) 9) (G : Nat)  (M : az_M) (r : (Int32 × az_M)) (h : f_X12_odds_25 G M = some r) (hp : post (some (.int r.1)) r.2) : AW Y V (az_end Y V post) 3 M 25 [] [] := by
  unfold f_X12_odds_25 at h
  refine az_iconst (v := (-1)) C dX12_odds_25 (by decide) ?_
  obtain rfl := Option.some.inj h
  exact az_iret C dX12_odds_26 hp
set_option maxHeartbeats 4000000 in
set_option maxRecDepth 100000 in
theorem s_X12_odds_e {Y : az_Y} {V : az_V} {post : Option Value → az_M → Prop} (C : az_C Y V cX12_odds 3 RX12 (some .int) 9) (G : Nat) (p0 : Int32) (p1 : Int32) (M : az_M) (r : (Int32 × az_M)) (h : f_X12_odds G p0 p1 M = some r) (hp : post (some (.int r.1)) r.2) : AW Y V (az_end Y V post) 3 M 0 [(0, .ref (az_ad V 40)), (1, .int p0), (2, .int p1)] [] := by
  have o40 := C.hL.at 40 (ci := 12) rfl
  have a61 := C.hL.ar 61 (t := 0) (len := 4) rfl
  unfold f_X12_odds at h
  refine az_aload_n C 0 dX12_odds_0 rfl ?_
  refine az_iconst (v := 0) C dX12_odds_1 (by decide) ?_
  refine az_puti C o40 fl_X12_149 rfl rfl rfl rfl dX12_odds_2 ?_
  refine az_aload_n C 0 dX12_odds_5 rfl ?_
  refine az_iload_n C 1 dX12_odds_6 rfl ?_
  obtain ⟨q1, e2, h⟩ := az_b h
  refine az_callV C [.int p0] (c_X12_isQuarrel C.hL p0 (az_i M 40 0 0) e2) (by decide) li_X12_245 o40 (by decide) rfl rfl (Nat.le_of_ble_eq_true rfl) dX12_odds_7 (fun v M1 hv => ?_)
  obtain ⟨rfl, rfl⟩ := hv
  refine az_eqst (st' := [.int q1]) rfl ?_
  refine az_if_eq C 25 dX12_odds_10 (by decide) (fun c3 => ?_) (fun c3 => ?_)
  · have h := az_t c3 h
    refine az_sub [] rfl ?_
    exact s_X12_odds_25 C G (az_i M 40 0 0) r h hp
  · have h := az_f c3 h
    refine az_iload_n C 2 dX12_odds_13 rfl ?_
    refine az_i2l C dX12_odds_14 ?_
    refine az_lconst (v := 0) C dX12_odds_15 (by decide) ?_
    refine az_ldc2 C ck_X12_198 dX12_odds_16 ?_
    obtain ⟨q4, e5, h⟩ := az_b h
    refine az_callS C [.long p1.toInt64, .long 0, .long 3] (c_X12_in C.hL p1.toInt64 0 3 (az_i M 40 0 0) e5) (by decide) li_X12_169 rfl rfl (Nat.le_of_ble_eq_true rfl) dX12_odds_19 (fun v M1 hv => ?_)
    obtain ⟨rfl, rfl⟩ := hv
    refine az_eqst (st' := [.int q4]) rfl ?_
    refine az_if_ne C 27 dX12_odds_22 (by decide) (fun c6 => ?_) (fun c6 => ?_)
    · have h := az_f c6 h
      refine az_aload_n C 0 dX12_odds_27 rfl ?_
      refine az_bipush (v := 16) C dX12_odds_28 (by decide) ?_
      obtain ⟨q7, e8, h⟩ := az_b h
      refine az_callV C [.int 16] (c_X12_keepAll C.hL G 16 (az_i M 40 0 0) e8) (by decide) li_X12_162 o40 (by decide) rfl rfl (Nat.le_of_ble_eq_true rfl) dX12_odds_30 (fun v M1 hv => ?_)
      obtain ⟨rfl, rfl⟩ := hv
      refine az_eqst (st' := []) rfl ?_
      refine az_aload_n C 0 dX12_odds_33 rfl ?_
      refine az_iload_n C 1 dX12_odds_34 rfl ?_
      obtain ⟨q9, e10, h⟩ := az_b h
      refine az_callV C [.int p0] (c_X12_findEnds C.hL G p0 q7 e10) (by decide) li_X12_491 o40 (by decide) rfl rfl (Nat.le_of_ble_eq_true rfl) dX12_odds_35 (fun v M1 hv => ?_)
      obtain ⟨rfl, rfl⟩ := hv
      refine az_eqst (st' := []) rfl ?_
      refine az_aload_n C 0 dX12_odds_38 rfl ?_
      refine az_bipush (v := 16) C dX12_odds_39 (by decide) ?_
      obtain ⟨q11, e12, h⟩ := az_b h
      refine az_callV C [.int 16] (c_X12_putBack C.hL G 16 q9 e12) (by decide) li_X12_166 o40 (by decide) rfl rfl (Nat.le_of_ble_eq_true rfl) dX12_odds_41 (fun v M1 hv => ?_)
      obtain ⟨rfl, rfl⟩ := hv
      refine az_eqst (st' := []) rfl ?_
      refine az_aload_n C 0 dX12_odds_44 rfl ?_
      refine az_getr (r := 61) C o40 fl_X12_116 rfl rfl dX12_odds_45 ?_
      refine az_iload_n C 2 dX12_odds_48 rfl ?_
      obtain ⟨g13, h⟩ := az_g h
      refine az_ild (k := p1.toNatClampNeg) C a61 g13 rfl dX12_odds_49 ?_
      obtain rfl := Option.some.inj h
      exact az_iret C dX12_odds_50 hp
    · have h := az_t c6 h
      refine az_sub [] rfl ?_
      exact s_X12_odds_25 C G (az_i M 40 0 0) r h hp
theorem c_X12_odds {l : Launch} {V : az_V} (hL : az_L V) (G : Nat) (p0 : Int32) (p1 : Int32) (M : az_M) {r : (Int32 × az_M)} (h : f_X12_odds G p0 p1 M = some r) : az_Ct l V yX12_odds cX12_odds 3 (some .int) 9 [.ref (az_ad V 40), .int p0, .int p1] M (fun v M' => v = some (.int r.1) ∧ M' = r.2) :=
  az_Ct.of (by decide) (Nat.le_of_ble_eq_true rfl) (fun Y _ _ C => s_X12_odds_e C G p0 p1 M r h ⟨rfl, rfl⟩)
set_option maxHeartbeats 4000000 in
set_option maxRecDepth 100000 in
theorem s_X12_isHad_51 {Y : az_Y} {V : az_V} {post : Option Value → az_M → Prop} (C : az_C Y V cX12_isHad 4 RX12 (some .boolean) 8) (G : Nat) (K4 : (Int32 → Int32 → Int32 → az_M → Option (Int32 × az_M))) (hK4 : ∀ (x1 : Int32) (x2 : Int32) (x3 : Int32) (M : az_M) (r : (Int32 × az_M)), K4 x1 x2 x3 M = some r → post (some (.int r.1)) r.2 → AW Y V (az_end Y V post) 4 M 4 [(0, .ref (az_ad V 40)), (1, .int x1), (2, .int x2), (3, .int x3)] []) (x1 : Int32) (x2 : Int32) (x3 : Int32) (M : az_M) (r : (Int32 × az_M)) (h : f_X12_isHad_51 G K4 x1 x2 x3 M = some r) (hp : post (some (.int r.1)) r.2) : AW Y V (az_end Y V post) 4 M 51 [(0, .ref (az_ad V 40)), (1, .int x1), (2, .int x2), (3, .int x3)] [] := by
  unfold f_X12_isHad_51 at h
  refine az_iinc (v := (x3 + 1)) C 3 dX12_isHad_51 rfl rfl (by decide) rfl ?_
  refine az_goto C 4 dX12_isHad_54 (by decide) ?_
  refine az_sub [1, 2, 3, 0] rfl ?_
  exact hK4 x1 x2 (x3 + 1) M r h hp
set_option maxHeartbeats 4000000 in
set_option maxRecDepth 100000 in
theorem s_X12_isHad_88 {Y : az_Y} {V : az_V} {post : Option Value → az_M → Prop} (C : az_C Y V cX12_isHad 4 RX12 (some .boolean) 8) (G : Nat) (s0 : Int32) (M : az_M) (r : (Int32 × az_M)) (h : f_X12_isHad_88 G s0 M = some r) (hp : post (some (.int r.1)) r.2) : AW Y V (az_end Y V post) 4 M 88 [] [.int s0] := by
  unfold f_X12_isHad_88 at h
  obtain ⟨g25, h⟩ := az_g2 h
  obtain rfl := Option.some.inj h
  exact az_zret C dX12_isHad_88 (az_nz g25) hp
set_option maxHeartbeats 4000000 in
set_option maxRecDepth 100000 in
theorem s_X12_isHad_87 {Y : az_Y} {V : az_V} {post : Option Value → az_M → Prop} (C : az_C Y V cX12_isHad 4 RX12 (some .boolean) 8) (G : Nat)  (M : az_M) (r : (Int32 × az_M)) (h : f_X12_isHad_87 G M = some r) (hp : post (some (.int r.1)) r.2) : AW Y V (az_end Y V post) 4 M 87 [] [] := by
  unfold f_X12_isHad_87 at h
  refine az_iconst (v := 0) C dX12_isHad_87 (by decide) ?_
  exact s_X12_isHad_88 C G 0 M r h hp
set_option maxHeartbeats 4000000 in
set_option maxRecDepth 100000 in
theorem s_X12_isHad_57 {Y : az_Y} {V : az_V} {post : Option Value → az_M → Prop} (C : az_C Y V cX12_isHad 4 RX12 (some .boolean) 8) (G : Nat) (x1 : Int32) (x2 : Int32) (M : az_M) (r : (Int32 × az_M)) (h : f_X12_isHad_57 G x1 x2 M = some r) (hp : post (some (.int r.1)) r.2) : AW Y V (az_end Y V post) 4 M 57 [(0, .ref (az_ad V 40)), (1, .int x1), (2, .int x2)] [] := by
  have o40 := C.hL.at 40 (ci := 12) rfl
  unfold f_X12_isHad_57 at h
  refine az_iload_n C 2 dX12_isHad_57 rfl ?_
  refine az_if_eq C 87 dX12_isHad_58 (by decide) (fun c16 => ?_) (fun c16 => ?_)
  · have h := az_t c16 h
    refine az_sub [] rfl ?_
    exact s_X12_isHad_87 C G M r h hp
  · have h := az_f c16 h
    refine az_aload_n C 0 dX12_isHad_61 rfl ?_
    refine az_iconst (v := 3) C dX12_isHad_62 (by decide) ?_
    obtain ⟨q17, e18, h⟩ := az_b h
    refine az_callV C [.int 3] (c_X12_bulletOf C.hL 3 M e18) (by decide) li_X12_186 o40 (by decide) rfl rfl (Nat.le_of_ble_eq_true rfl) dX12_isHad_63 (fun v M1 hv => ?_)
    obtain ⟨rfl, rfl⟩ := hv
    refine az_eqst (st' := [.int q17]) rfl ?_
    refine az_if_ne C 87 dX12_isHad_66 (by decide) (fun c19 => ?_) (fun c19 => ?_)
    · have h := az_f c19 h
      refine az_sub [] rfl ?_
      exact s_X12_isHad_87 C G M r h hp
    · have h := az_t c19 h
      refine az_aload_n C 0 dX12_isHad_69 rfl ?_
      refine az_iconst (v := 0) C dX12_isHad_70 (by decide) ?_
      obtain ⟨q20, e21, h⟩ := az_b h
      refine az_callV C [.int 0] (c_X12_term C.hL 0 M e21) (by decide) li_X12_189 o40 (by decide) rfl rfl (Nat.le_of_ble_eq_true rfl) dX12_isHad_71 (fun v M1 hv => ?_)
      obtain ⟨rfl, rfl⟩ := hv
      refine az_eqst (st' := [.int q20]) rfl ?_
      refine az_aload_n C 0 dX12_isHad_74 rfl ?_
      refine az_iload_n C 1 dX12_isHad_75 rfl ?_
      refine az_iconst (v := 3) C dX12_isHad_76 (by decide) ?_
      obtain ⟨q22, e23, h⟩ := az_b h
      refine az_callV C [.int x1, .int 3] (c_X12_ofQuarrel C.hL x1 3 M e23) (by decide) li_X12_238 o40 (by decide) rfl rfl (Nat.le_of_ble_eq_true rfl) dX12_isHad_77 (fun v M1 hv => ?_)
      obtain ⟨rfl, rfl⟩ := hv
      refine az_eqst (st' := [.int q22, .int q20]) rfl ?_
      refine az_icmp_gt C 87 dX12_isHad_80 (by decide) (fun c24 => ?_) (fun c24 => ?_)
      · have h := az_t c24 h
        refine az_sub [] rfl ?_
        exact s_X12_isHad_87 C G M r h hp
      · have h := az_f c24 h
        refine az_iconst (v := 1) C dX12_isHad_83 (by decide) ?_
        refine az_goto C 88 dX12_isHad_84 (by decide) ?_
        refine az_sub [] rfl ?_
        exact s_X12_isHad_88 C G 1 M r h hp
set_option maxHeartbeats 4000000 in
set_option maxRecDepth 100000 in
theorem s_X12_isHad_4 {Y : az_Y} {V : az_V} {post : Option Value → az_M → Prop} (C : az_C Y V cX12_isHad 4 RX12 (some .boolean) 8) (G : Nat) : ∀ (F : Nat) (x1 : Int32) (x2 : Int32) (x3 : Int32) (M : az_M) (r : (Int32 × az_M)), f_X12_isHad_4 G F x1 x2 x3 M = some r → post (some (.int r.1)) r.2 → AW Y V (az_end Y V post) 4 M 4 [(0, .ref (az_ad V 40)), (1, .int x1), (2, .int x2), (3, .int x3)] [] := by
  have o40 := C.hL.at 40 (ci := 12) rfl
  intro F
  induction F with
  | zero =>
    intro x1 x2 x3 M r h
    exact absurd (show (none : Option (Int32 × az_M)) = some r from h) (fun q => by cases q)
  | succ F ih =>
    intro x1 x2 x3 M r h hp
    rw [f_X12_isHad_4] at h
    refine az_iload_n C 3 dX12_isHad_4 rfl ?_
    refine az_iconst (v := 2) C dX12_isHad_5 (by decide) ?_
    refine az_aload_n C 0 dX12_isHad_6 rfl ?_
    refine az_iconst (v := 1) C dX12_isHad_7 (by decide) ?_
    obtain ⟨q1, e2, h⟩ := az_b h
    refine az_callV C [.int 1] (c_X12_term C.hL 1 M e2) (by decide) li_X12_189 o40 (by decide) rfl rfl (Nat.le_of_ble_eq_true rfl) dX12_isHad_8 (fun v M1 hv => ?_)
    obtain ⟨rfl, rfl⟩ := hv
    refine az_eqst (st' := [.int q1, .int 2, .int x3]) rfl ?_
    refine az_imul C dX12_isHad_11 ?_
    refine az_icmp_ge C 57 dX12_isHad_12 (by decide) (fun c3 => ?_) (fun c3 => ?_)
    · have h := az_t c3 h
      refine az_sub [0, 1, 2] rfl ?_
      exact s_X12_isHad_57 C G x1 x2 M r h hp
    · have h := az_f c3 h
      refine az_iload_n C 2 dX12_isHad_15 rfl ?_
      refine az_if_eq C 57 dX12_isHad_16 (by decide) (fun c4 => ?_) (fun c4 => ?_)
      · have h := az_t c4 h
        refine az_sub [0, 1, 2] rfl ?_
        exact s_X12_isHad_57 C G x1 x2 M r h hp
      · have h := az_f c4 h
        refine az_aload_n C 0 dX12_isHad_19 rfl ?_
        obtain ⟨q5, e6, h⟩ := az_b h
        refine az_callV C [] (c_X12_canFire C.hL M e6) (by decide) li_X12_194 o40 (by decide) rfl rfl (Nat.le_of_ble_eq_true rfl) dX12_isHad_20 (fun v M1 hv => ?_)
        obtain ⟨rfl, rfl⟩ := hv
        refine az_eqst (st' := [.int q5]) rfl ?_
        refine az_istore_n C dX12_isHad_23 rfl (by decide) rfl ?_
        refine az_iload_n C 0 dX12_isHad_24 rfl ?_
        refine az_if_eq C 51 dX12_isHad_25 (by decide) (fun c7 => ?_) (fun c7 => ?_)
        · have h := az_t c7 h
          refine az_sub [1, 2, 0, 3] rfl ?_
          exact s_X12_isHad_51 C G (f_X12_isHad_4 G F) ih x1 q5 x3 M r h hp
        · have h := az_f c7 h
          refine az_aload_n C 1 dX12_isHad_28 rfl ?_
          refine az_aload_n C 1 dX12_isHad_29 rfl ?_
          refine az_aload_n C 1 dX12_isHad_30 rfl ?_
          refine az_iload_n C 2 dX12_isHad_31 rfl ?_
          refine az_iload_n C 3 dX12_isHad_32 rfl ?_
          refine az_iconst (v := 2) C dX12_isHad_33 (by decide) ?_
          refine az_irem2 C dX12_isHad_34 (by decide) ?_
          obtain ⟨q8, e9, h⟩ := az_b h
          refine az_callV C [.int x1, .int (az_rem x3 2)] (c_X12_ofQuarrel C.hL x1 (az_rem x3 2) M e9) (by decide) li_X12_238 o40 (by decide) rfl rfl (Nat.le_of_ble_eq_true rfl) dX12_isHad_35 (fun v M1 hv => ?_)
          obtain ⟨rfl, rfl⟩ := hv
          refine az_eqst (st' := [.int q8, .ref (az_ad V 40), .ref (az_ad V 40)]) rfl ?_
          refine az_iconst (v := 1) C dX12_isHad_38 (by decide) ?_
          obtain ⟨q10, e11, h⟩ := az_b h
          refine az_callV C [.int q8, .int 1] (c_X12_ofPerson C.hL q8 1 M e11) (by decide) li_X12_226 o40 (by decide) rfl rfl (Nat.le_of_ble_eq_true rfl) dX12_isHad_39 (fun v M1 hv => ?_)
          obtain ⟨rfl, rfl⟩ := hv
          refine az_eqst (st' := [.int q10, .ref (az_ad V 40)]) rfl ?_
          refine az_aload_n C 1 dX12_isHad_42 rfl ?_
          refine az_iload_n C 2 dX12_isHad_43 rfl ?_
          refine az_iconst (v := 2) C dX12_isHad_44 (by decide) ?_
          obtain ⟨q12, e13, h⟩ := az_b h
          refine az_callV C [.int x1, .int 2] (c_X12_ofQuarrel C.hL x1 2 M e13) (by decide) li_X12_238 o40 (by decide) rfl rfl (Nat.le_of_ble_eq_true rfl) dX12_isHad_45 (fun v M1 hv => ?_)
          obtain ⟨rfl, rfl⟩ := hv
          refine az_eqst (st' := [.int q12, .int q10, .ref (az_ad V 40)]) rfl ?_
          obtain ⟨q14, e15, h⟩ := az_b h
          refine az_callV C [.int q10, .int q12] (c_X12_shoot C.hL G q10 q12 M e15) (by decide) li_X12_460 o40 (by decide) rfl rfl (Nat.le_of_ble_eq_true rfl) dX12_isHad_48 (fun v M1 hv => ?_)
          obtain ⟨rfl, rfl⟩ := hv
          refine az_eqst (st' := []) rfl ?_
          refine az_sub [1, 2, 0, 3] rfl ?_
          exact s_X12_isHad_51 C G (f_X12_isHad_4 G F) ih x1 q5 x3 q14 r h hp
set_option maxHeartbeats 4000000 in
set_option maxRecDepth 100000 in
theorem s_X12_isHad_e {Y : az_Y} {V : az_V} {post : Option Value → az_M → Prop} (C : az_C Y V cX12_isHad 4 RX12 (some .boolean) 8) (G : Nat) (p0 : Int32) (M : az_M) (r : (Int32 × az_M)) (h : f_X12_isHad G p0 M = some r) (hp : post (some (.int r.1)) r.2) : AW Y V (az_end Y V post) 4 M 0 [(0, .ref (az_ad V 40)), (1, .int p0)] [] := by
  unfold f_X12_isHad at h
  refine az_iconst (v := 1) C dX12_isHad_0 (by decide) ?_
  refine az_istore_n C dX12_isHad_1 rfl (by decide) rfl ?_
  refine az_iconst (v := 0) C dX12_isHad_2 (by decide) ?_
  refine az_istore_n C dX12_isHad_3 rfl (by decide) rfl ?_
  refine az_sub [2, 3, 1, 0] rfl ?_
  exact s_X12_isHad_4 C G G p0 1 0 M r h hp
theorem c_X12_isHad {l : Launch} {V : az_V} (hL : az_L V) (G : Nat) (p0 : Int32) (M : az_M) {r : (Int32 × az_M)} (h : f_X12_isHad G p0 M = some r) : az_Ct l V yX12_isHad cX12_isHad 4 (some .boolean) 8 [.ref (az_ad V 40), .int p0] M (fun v M' => v = some (.int r.1) ∧ M' = r.2) :=
  az_Ct.of (by decide) (Nat.le_of_ble_eq_true rfl) (fun Y _ _ C => s_X12_isHad_e C G p0 M r h ⟨rfl, rfl⟩)
set_option maxHeartbeats 4000000 in
set_option maxRecDepth 100000 in
theorem s_X12_keepWait_2 {Y : az_Y} {V : az_V} {post : Option Value → az_M → Prop} (C : az_C Y V cX12_keepWait 3 RX12 none 1) (G : Nat) : ∀ (F : Nat) (x1 : Int32) (x2 : Int32) (M : az_M) (r : az_M), f_X12_keepWait_2 G F x1 x2 M = some r → post none r → AW Y V (az_end Y V post) 3 M 2 [(0, .ref (az_ad V 40)), (1, .int x1), (2, .int x2)] [] := by
  have o40 := C.hL.at 40 (ci := 12) rfl
  have a42 := C.hL.ar 42 (t := 0) (len := 5550) rfl
  have a65 := C.hL.ar 65 (t := 0) (len := 1200) rfl
  intro F
  induction F with
  | zero =>
    intro x1 x2 M r h
    exact absurd (show (none : Option az_M) = some r from h) (fun q => by cases q)
  | succ F ih =>
    intro x1 x2 M r h hp
    rw [f_X12_keepWait_2] at h
    refine az_iload_n C 2 dX12_keepWait_2 rfl ?_
    refine az_sipush (v := 150) C dX12_keepWait_3 (by decide) ?_
    refine az_icmp_ge C 33 dX12_keepWait_6 (by decide) (fun c1 => ?_) (fun c1 => ?_)
    · have h := az_t c1 h
      obtain rfl := Option.some.inj h
      exact az_vret C rfl dX12_keepWait_33 hp
    · have h := az_f c1 h
      refine az_aload_n C 0 dX12_keepWait_9 rfl ?_
      refine az_getr (r := 65) C o40 fl_X12_128 rfl rfl dX12_keepWait_10 ?_
      refine az_sipush (v := 150) C dX12_keepWait_13 (by decide) ?_
      refine az_iload_n C 1 dX12_keepWait_16 rfl ?_
      refine az_imul C dX12_keepWait_17 ?_
      refine az_iload_n C 2 dX12_keepWait_18 rfl ?_
      refine az_iadd C dX12_keepWait_19 ?_
      refine az_aload_n C 0 dX12_keepWait_20 rfl ?_
      refine az_getr (r := 42) C o40 fl_X12_13 rfl rfl dX12_keepWait_21 ?_
      refine az_iload_n C 2 dX12_keepWait_24 rfl ?_
      obtain ⟨g2, h⟩ := az_g h
      refine az_ild (k := x2.toNatClampNeg) C a42 g2 rfl dX12_keepWait_25 ?_
      obtain ⟨g3, h⟩ := az_g h
      refine az_ist (k := ((150 * x1) + x2).toNatClampNeg) C a65 g3 rfl dX12_keepWait_26 ?_
      refine az_iinc (v := (x2 + 1)) C 2 dX12_keepWait_27 rfl rfl (by decide) rfl ?_
      refine az_goto C 2 dX12_keepWait_30 (by decide) ?_
      refine az_sub [1, 2, 0] rfl ?_
      exact ih x1 (x2 + 1) (az_i M 65 (((150 * x1) + x2).toNatClampNeg) (M.1 42 x2.toNatClampNeg)) r h hp
set_option maxHeartbeats 4000000 in
set_option maxRecDepth 100000 in
theorem s_X12_keepWait_e {Y : az_Y} {V : az_V} {post : Option Value → az_M → Prop} (C : az_C Y V cX12_keepWait 3 RX12 none 1) (G : Nat) (p0 : Int32) (M : az_M) (r : az_M) (h : f_X12_keepWait G p0 M = some r) (hp : post none r) : AW Y V (az_end Y V post) 3 M 0 [(0, .ref (az_ad V 40)), (1, .int p0)] [] := by
  unfold f_X12_keepWait at h
  refine az_iconst (v := 0) C dX12_keepWait_0 (by decide) ?_
  refine az_istore_n C dX12_keepWait_1 rfl (by decide) rfl ?_
  refine az_sub [1, 2, 0] rfl ?_
  exact s_X12_keepWait_2 C G G p0 0 M r h hp
theorem c_X12_keepWait {l : Launch} {V : az_V} (hL : az_L V) (G : Nat) (p0 : Int32) (M : az_M) {r : az_M} (h : f_X12_keepWait G p0 M = some r) : az_Ct l V yX12_keepWait cX12_keepWait 3 none 1 [.ref (az_ad V 40), .int p0] M (fun v M' => v = none ∧ M' = r) :=
  az_Ct.of (by decide) (Nat.le_of_ble_eq_true rfl) (fun Y _ _ C => s_X12_keepWait_e C G p0 M r h ⟨rfl, rfl⟩)
set_option maxHeartbeats 4000000 in
set_option maxRecDepth 100000 in
theorem s_X12_putWait_2 {Y : az_Y} {V : az_V} {post : Option Value → az_M → Prop} (C : az_C Y V cX12_putWait 3 RX12 none 1) (G : Nat) : ∀ (F : Nat) (x1 : Int32) (x2 : Int32) (M : az_M) (r : az_M), f_X12_putWait_2 G F x1 x2 M = some r → post none r → AW Y V (az_end Y V post) 3 M 2 [(0, .ref (az_ad V 40)), (1, .int x1), (2, .int x2)] [] := by
  have o40 := C.hL.at 40 (ci := 12) rfl
  have a42 := C.hL.ar 42 (t := 0) (len := 5550) rfl
  have a65 := C.hL.ar 65 (t := 0) (len := 1200) rfl
  intro F
  induction F with
  | zero =>
    intro x1 x2 M r h
    exact absurd (show (none : Option az_M) = some r from h) (fun q => by cases q)
  | succ F ih =>
    intro x1 x2 M r h hp
    rw [f_X12_putWait_2] at h
    refine az_iload_n C 2 dX12_putWait_2 rfl ?_
    refine az_sipush (v := 150) C dX12_putWait_3 (by decide) ?_
    refine az_icmp_ge C 33 dX12_putWait_6 (by decide) (fun c1 => ?_) (fun c1 => ?_)
    · have h := az_t c1 h
      obtain rfl := Option.some.inj h
      exact az_vret C rfl dX12_putWait_33 hp
    · have h := az_f c1 h
      refine az_aload_n C 0 dX12_putWait_9 rfl ?_
      refine az_getr (r := 42) C o40 fl_X12_13 rfl rfl dX12_putWait_10 ?_
      refine az_iload_n C 2 dX12_putWait_13 rfl ?_
      refine az_aload_n C 0 dX12_putWait_14 rfl ?_
      refine az_getr (r := 65) C o40 fl_X12_128 rfl rfl dX12_putWait_15 ?_
      refine az_sipush (v := 150) C dX12_putWait_18 (by decide) ?_
      refine az_iload_n C 1 dX12_putWait_21 rfl ?_
      refine az_imul C dX12_putWait_22 ?_
      refine az_iload_n C 2 dX12_putWait_23 rfl ?_
      refine az_iadd C dX12_putWait_24 ?_
      obtain ⟨g2, h⟩ := az_g h
      refine az_ild (k := ((150 * x1) + x2).toNatClampNeg) C a65 g2 rfl dX12_putWait_25 ?_
      obtain ⟨g3, h⟩ := az_g h
      refine az_ist (k := x2.toNatClampNeg) C a42 g3 rfl dX12_putWait_26 ?_
      refine az_iinc (v := (x2 + 1)) C 2 dX12_putWait_27 rfl rfl (by decide) rfl ?_
      refine az_goto C 2 dX12_putWait_30 (by decide) ?_
      refine az_sub [1, 2, 0] rfl ?_
      exact ih x1 (x2 + 1) (az_i M 42 x2.toNatClampNeg (M.1 65 (((150 * x1) + x2).toNatClampNeg))) r h hp
set_option maxHeartbeats 4000000 in
set_option maxRecDepth 100000 in
theorem s_X12_putWait_e {Y : az_Y} {V : az_V} {post : Option Value → az_M → Prop} (C : az_C Y V cX12_putWait 3 RX12 none 1) (G : Nat) (p0 : Int32) (M : az_M) (r : az_M) (h : f_X12_putWait G p0 M = some r) (hp : post none r) : AW Y V (az_end Y V post) 3 M 0 [(0, .ref (az_ad V 40)), (1, .int p0)] [] := by
  unfold f_X12_putWait at h
  refine az_iconst (v := 0) C dX12_putWait_0 (by decide) ?_
  refine az_istore_n C dX12_putWait_1 rfl (by decide) rfl ?_
  refine az_sub [1, 2, 0] rfl ?_
  exact s_X12_putWait_2 C G G p0 0 M r h hp
theorem c_X12_putWait {l : Launch} {V : az_V} (hL : az_L V) (G : Nat) (p0 : Int32) (M : az_M) {r : az_M} (h : f_X12_putWait G p0 M = some r) : az_Ct l V yX12_putWait cX12_putWait 3 none 1 [.ref (az_ad V 40), .int p0] M (fun v M' => v = none ∧ M' = r) :=
  az_Ct.of (by decide) (Nat.le_of_ble_eq_true rfl) (fun Y _ _ C => s_X12_putWait_e C G p0 M r h ⟨rfl, rfl⟩)
set_option maxHeartbeats 4000000 in
set_option maxRecDepth 100000 in
theorem s_X12_keepOrder_66 {Y : az_Y} {V : az_V} {post : Option Value → az_M → Prop} (C : az_C Y V cX12_keepOrder 3 RX12 none 2) (G : Nat) : ∀ (F : Nat) (x1 : Int32) (x2 : Int32) (M : az_M) (r : az_M), f_X12_keepOrder_66 G F x1 x2 M = some r → post none r → AW Y V (az_end Y V post) 3 M 66 [(0, .ref (az_ad V 40)), (1, .int x1), (2, .int x2)] [] := by
  have o40 := C.hL.at 40 (ci := 12) rfl
  have a62 := C.hL.ar 62 (t := 0) (len := 7) rfl
  have a64 := C.hL.ar 64 (t := 0) (len := 7) rfl
  intro F
  induction F with
  | zero =>
    intro x1 x2 M r h
    exact absurd (show (none : Option az_M) = some r from h) (fun q => by cases q)
  | succ F ih =>
    intro x1 x2 M r h hp
    rw [f_X12_keepOrder_66] at h
    refine az_iload_n C 2 dX12_keepOrder_66 rfl ?_
    refine az_iload_n C 1 dX12_keepOrder_67 rfl ?_
    refine az_icmp_ge C 89 dX12_keepOrder_68 (by decide) (fun c10 => ?_) (fun c10 => ?_)
    · have h := az_t c10 h
      obtain rfl := Option.some.inj h
      exact az_vret C rfl dX12_keepOrder_89 hp
    · have h := az_f c10 h
      refine az_aload_n C 0 dX12_keepOrder_71 rfl ?_
      refine az_getr (r := 64) C o40 fl_X12_125 rfl rfl dX12_keepOrder_72 ?_
      refine az_iload_n C 2 dX12_keepOrder_75 rfl ?_
      refine az_aload_n C 0 dX12_keepOrder_76 rfl ?_
      refine az_getr (r := 62) C o40 fl_X12_119 rfl rfl dX12_keepOrder_77 ?_
      refine az_iload_n C 2 dX12_keepOrder_80 rfl ?_
      obtain ⟨g11, h⟩ := az_g h
      refine az_ild (k := x2.toNatClampNeg) C a62 g11 rfl dX12_keepOrder_81 ?_
      obtain ⟨g12, h⟩ := az_g h
      refine az_ist (k := x2.toNatClampNeg) C a64 g12 rfl dX12_keepOrder_82 ?_
      refine az_iinc (v := (x2 + 1)) C 2 dX12_keepOrder_83 rfl rfl (by decide) rfl ?_
      refine az_goto C 66 dX12_keepOrder_86 (by decide) ?_
      refine az_sub [1, 2, 0] rfl ?_
      exact ih x1 (x2 + 1) (az_i M 64 x2.toNatClampNeg (M.1 62 x2.toNatClampNeg)) r h hp
set_option maxHeartbeats 4000000 in
set_option maxRecDepth 100000 in
theorem s_X12_keepOrder_32 {Y : az_Y} {V : az_V} {post : Option Value → az_M → Prop} (C : az_C Y V cX12_keepOrder 3 RX12 none 2) (G : Nat) (x1 : Int32) (M : az_M) (r : az_M) (h : f_X12_keepOrder_32 G x1 M = some r) (hp : post none r) : AW Y V (az_end Y V post) 3 M 32 [(0, .ref (az_ad V 40)), (1, .int x1)] [] := by
  have o40 := C.hL.at 40 (ci := 12) rfl
  unfold f_X12_keepOrder_32 at h
  refine az_aload_n C 0 dX12_keepOrder_32 rfl ?_
  refine az_dup C dX12_keepOrder_33 rfl ?_
  refine az_geti C o40 fl_X12_494 rfl dX12_keepOrder_34 ?_
  refine az_iconst (v := 1) C dX12_keepOrder_37 (by decide) ?_
  refine az_iadd C dX12_keepOrder_38 ?_
  refine az_puti C o40 fl_X12_494 rfl rfl rfl rfl dX12_keepOrder_39 ?_
  refine az_aload_n C 0 dX12_keepOrder_42 rfl ?_
  refine az_iconst (v := 0) C dX12_keepOrder_43 (by decide) ?_
  obtain ⟨q5, e6, h⟩ := az_b h
  refine az_callV C [.int 0] (c_X12_bulletOf C.hL 0 (az_i M 40 48 ((M.1 40 48) + 1)) e6) (by decide) li_X12_186 o40 (by decide) rfl rfl (Nat.le_of_ble_eq_true rfl) dX12_keepOrder_44 (fun v M1 hv => ?_)
  obtain ⟨rfl, rfl⟩ := hv
  refine az_eqst (st' := [.int q5]) rfl ?_
  refine az_aload_n C 0 dX12_keepOrder_47 rfl ?_
  refine az_geti C o40 fl_X12_497 rfl dX12_keepOrder_48 ?_
  refine az_icmp_gt C 55 dX12_keepOrder_51 (by decide) (fun c7 => ?_) (fun c7 => ?_)
  · have h := az_t c7 h
    refine az_aload_n C 0 dX12_keepOrder_55 rfl ?_
    refine az_aload_n C 0 dX12_keepOrder_56 rfl ?_
    refine az_iconst (v := 0) C dX12_keepOrder_57 (by decide) ?_
    obtain ⟨q8, e9, h⟩ := az_b h
    refine az_callV C [.int 0] (c_X12_bulletOf C.hL 0 (az_i M 40 48 ((M.1 40 48) + 1)) e9) (by decide) li_X12_186 o40 (by decide) rfl rfl (Nat.le_of_ble_eq_true rfl) dX12_keepOrder_58 (fun v M1 hv => ?_)
    obtain ⟨rfl, rfl⟩ := hv
    refine az_eqst (st' := [.int q8, .ref (az_ad V 40)]) rfl ?_
    refine az_puti C o40 fl_X12_497 rfl rfl rfl rfl dX12_keepOrder_61 ?_
    refine az_iconst (v := 0) C dX12_keepOrder_64 (by decide) ?_
    refine az_istore_n C dX12_keepOrder_65 rfl (by decide) rfl ?_
    refine az_sub [1, 2, 0] rfl ?_
    exact s_X12_keepOrder_66 C G G x1 0 (az_i (az_i M 40 48 ((M.1 40 48) + 1)) 40 47 q8) r h hp
  · have h := az_f c7 h
    obtain rfl := Option.some.inj h
    exact az_vret C rfl dX12_keepOrder_54 hp
set_option maxHeartbeats 4000000 in
set_option maxRecDepth 100000 in
theorem s_X12_keepOrder_2 {Y : az_Y} {V : az_V} {post : Option Value → az_M → Prop} (C : az_C Y V cX12_keepOrder 3 RX12 none 2) (G : Nat) : ∀ (F : Nat) (x1 : Int32) (x2 : Int32) (M : az_M) (r : az_M), f_X12_keepOrder_2 G F x1 x2 M = some r → post none r → AW Y V (az_end Y V post) 3 M 2 [(0, .ref (az_ad V 40)), (1, .int x1), (2, .int x2)] [] := by
  have o40 := C.hL.at 40 (ci := 12) rfl
  have a62 := C.hL.ar 62 (t := 0) (len := 7) rfl
  have a63 := C.hL.ar 63 (t := 0) (len := 7) rfl
  intro F
  induction F with
  | zero =>
    intro x1 x2 M r h
    exact absurd (show (none : Option az_M) = some r from h) (fun q => by cases q)
  | succ F ih =>
    intro x1 x2 M r h hp
    rw [f_X12_keepOrder_2] at h
    refine az_iload_n C 2 dX12_keepOrder_2 rfl ?_
    refine az_iload_n C 1 dX12_keepOrder_3 rfl ?_
    refine az_icmp_ge C 32 dX12_keepOrder_4 (by decide) (fun c1 => ?_) (fun c1 => ?_)
    · have h := az_t c1 h
      refine az_sub [0, 1] rfl ?_
      exact s_X12_keepOrder_32 C G x1 M r h hp
    · have h := az_f c1 h
      refine az_aload_n C 0 dX12_keepOrder_7 rfl ?_
      refine az_geti C o40 fl_X12_494 rfl dX12_keepOrder_8 ?_
      refine az_if_ne C 32 dX12_keepOrder_11 (by decide) (fun c2 => ?_) (fun c2 => ?_)
      · have h := az_f c2 h
        refine az_sub [0, 1] rfl ?_
        exact s_X12_keepOrder_32 C G x1 M r h hp
      · have h := az_t c2 h
        refine az_aload_n C 0 dX12_keepOrder_14 rfl ?_
        refine az_getr (r := 63) C o40 fl_X12_122 rfl rfl dX12_keepOrder_15 ?_
        refine az_iload_n C 2 dX12_keepOrder_18 rfl ?_
        refine az_aload_n C 0 dX12_keepOrder_19 rfl ?_
        refine az_getr (r := 62) C o40 fl_X12_119 rfl rfl dX12_keepOrder_20 ?_
        refine az_iload_n C 2 dX12_keepOrder_23 rfl ?_
        obtain ⟨g3, h⟩ := az_g h
        refine az_ild (k := x2.toNatClampNeg) C a62 g3 rfl dX12_keepOrder_24 ?_
        obtain ⟨g4, h⟩ := az_g h
        refine az_ist (k := x2.toNatClampNeg) C a63 g4 rfl dX12_keepOrder_25 ?_
        refine az_iinc (v := (x2 + 1)) C 2 dX12_keepOrder_26 rfl rfl (by decide) rfl ?_
        refine az_goto C 2 dX12_keepOrder_29 (by decide) ?_
        refine az_sub [1, 2, 0] rfl ?_
        exact ih x1 (x2 + 1) (az_i M 63 x2.toNatClampNeg (M.1 62 x2.toNatClampNeg)) r h hp
set_option maxHeartbeats 4000000 in
set_option maxRecDepth 100000 in
theorem s_X12_keepOrder_e {Y : az_Y} {V : az_V} {post : Option Value → az_M → Prop} (C : az_C Y V cX12_keepOrder 3 RX12 none 2) (G : Nat) (p0 : Int32) (M : az_M) (r : az_M) (h : f_X12_keepOrder G p0 M = some r) (hp : post none r) : AW Y V (az_end Y V post) 3 M 0 [(0, .ref (az_ad V 40)), (1, .int p0)] [] := by
  unfold f_X12_keepOrder at h
  refine az_iconst (v := 0) C dX12_keepOrder_0 (by decide) ?_
  refine az_istore_n C dX12_keepOrder_1 rfl (by decide) rfl ?_
  refine az_sub [1, 2, 0] rfl ?_
  exact s_X12_keepOrder_2 C G G p0 0 M r h hp
theorem c_X12_keepOrder {l : Launch} {V : az_V} (hL : az_L V) (G : Nat) (p0 : Int32) (M : az_M) {r : az_M} (h : f_X12_keepOrder G p0 M = some r) : az_Ct l V yX12_keepOrder cX12_keepOrder 3 none 2 [.ref (az_ad V 40), .int p0] M (fun v M' => v = none ∧ M' = r) :=
  az_Ct.of (by decide) (Nat.le_of_ble_eq_true rfl) (fun Y _ _ C => s_X12_keepOrder_e C G p0 M r h ⟨rfl, rfl⟩)
set_option maxHeartbeats 4000000 in
set_option maxRecDepth 100000 in
theorem s_X12_isFresh_33 {Y : az_Y} {V : az_V} {post : Option Value → az_M → Prop} (C : az_C Y V cX12_isFresh 4 RX12 (some .boolean) 1) (G : Nat) (K4 : (Int32 → Int32 → Int32 → az_M → Option Int32)) (hK4 : ∀ (x1 : Int32) (x2 : Int32) (x3 : Int32) (M : az_M) (r : Int32), K4 x1 x2 x3 M = some r → post (some (.int r)) M → AW Y V (az_end Y V post) 4 M 4 [(0, .ref (az_ad V 40)), (1, .int x1), (2, .int x2), (3, .int x3)] []) (x1 : Int32) (x3 : Int32) (s0 : Int32) (M : az_M) (r : Int32) (h : f_X12_isFresh_33 G K4 x1 x3 s0 M = some r) (hp : post (some (.int r)) M) : AW Y V (az_end Y V post) 4 M 33 [(0, .ref (az_ad V 40)), (1, .int x1), (3, .int x3)] [.int s0] := by
  unfold f_X12_isFresh_33 at h
  refine az_istore_n C dX12_isFresh_33 rfl (by decide) rfl ?_
  refine az_iinc (v := (x3 + 1)) C 3 dX12_isFresh_34 rfl rfl (by decide) rfl ?_
  refine az_goto C 4 dX12_isFresh_37 (by decide) ?_
  refine az_sub [2, 3, 1, 0] rfl ?_
  exact hK4 x1 s0 (x3 + 1) M r h hp
set_option maxHeartbeats 4000000 in
set_option maxRecDepth 100000 in
theorem s_X12_isFresh_32 {Y : az_Y} {V : az_V} {post : Option Value → az_M → Prop} (C : az_C Y V cX12_isFresh 4 RX12 (some .boolean) 1) (G : Nat) (K4 : (Int32 → Int32 → Int32 → az_M → Option Int32)) (hK4 : ∀ (x1 : Int32) (x2 : Int32) (x3 : Int32) (M : az_M) (r : Int32), K4 x1 x2 x3 M = some r → post (some (.int r)) M → AW Y V (az_end Y V post) 4 M 4 [(0, .ref (az_ad V 40)), (1, .int x1), (2, .int x2), (3, .int x3)] []) (x1 : Int32) (x3 : Int32) (M : az_M) (r : Int32) (h : f_X12_isFresh_32 G K4 x1 x3 M = some r) (hp : post (some (.int r)) M) : AW Y V (az_end Y V post) 4 M 32 [(0, .ref (az_ad V 40)), (1, .int x1), (3, .int x3)] [] := by
  unfold f_X12_isFresh_32 at h
  refine az_iconst (v := 0) C dX12_isFresh_32 (by decide) ?_
  exact s_X12_isFresh_33 C G K4 hK4 x1 x3 0 M r h hp
set_option maxHeartbeats 4000000 in
set_option maxRecDepth 100000 in
theorem s_X12_isFresh_4 {Y : az_Y} {V : az_V} {post : Option Value → az_M → Prop} (C : az_C Y V cX12_isFresh 4 RX12 (some .boolean) 1) (G : Nat) : ∀ (F : Nat) (x1 : Int32) (x2 : Int32) (x3 : Int32) (M : az_M) (r : Int32), f_X12_isFresh_4 G F x1 x2 x3 M = some r → post (some (.int r)) M → AW Y V (az_end Y V post) 4 M 4 [(0, .ref (az_ad V 40)), (1, .int x1), (2, .int x2), (3, .int x3)] [] := by
  have o40 := C.hL.at 40 (ci := 12) rfl
  have a62 := C.hL.ar 62 (t := 0) (len := 7) rfl
  intro F
  induction F with
  | zero =>
    intro x1 x2 x3 M r h
    exact absurd (show (none : Option Int32) = some r from h) (fun q => by cases q)
  | succ F ih =>
    intro x1 x2 x3 M r h hp
    rw [f_X12_isFresh_4] at h
    refine az_iload_n C 3 dX12_isFresh_4 rfl ?_
    refine az_iload_n C 1 dX12_isFresh_5 rfl ?_
    refine az_icmp_ge C 40 dX12_isFresh_6 (by decide) (fun c1 => ?_) (fun c1 => ?_)
    · have h := az_t c1 h
      refine az_iload_n C 2 dX12_isFresh_40 rfl ?_
      obtain ⟨g2, h⟩ := az_g2 h
      obtain rfl := Option.some.inj h
      exact az_zret C dX12_isFresh_41 (az_nz g2) hp
    · have h := az_f c1 h
      refine az_iload_n C 2 dX12_isFresh_9 rfl ?_
      refine az_if_eq C 32 dX12_isFresh_10 (by decide) (fun c3 => ?_) (fun c3 => ?_)
      · have h := az_t c3 h
        refine az_sub [0, 1, 3] rfl ?_
        exact s_X12_isFresh_32 C G (f_X12_isFresh_4 G F) ih x1 x3 M r h hp
      · have h := az_f c3 h
        refine az_aload_n C 0 dX12_isFresh_13 rfl ?_
        refine az_getr (r := 62) C o40 fl_X12_119 rfl rfl dX12_isFresh_14 ?_
        refine az_iload_n C 3 dX12_isFresh_17 rfl ?_
        obtain ⟨g4, h⟩ := az_g h
        refine az_ild (k := x3.toNatClampNeg) C a62 g4 rfl dX12_isFresh_18 ?_
        refine az_aload_n C 0 dX12_isFresh_19 rfl ?_
        refine az_getr (r := 62) C o40 fl_X12_119 rfl rfl dX12_isFresh_20 ?_
        refine az_iload_n C 1 dX12_isFresh_23 rfl ?_
        obtain ⟨g5, h⟩ := az_g h
        refine az_ild (k := x1.toNatClampNeg) C a62 g5 rfl dX12_isFresh_24 ?_
        refine az_icmp_eq C 32 dX12_isFresh_25 (by decide) (fun c6 => ?_) (fun c6 => ?_)
        · have h := az_t c6 h
          refine az_sub [0, 1, 3] rfl ?_
          exact s_X12_isFresh_32 C G (f_X12_isFresh_4 G F) ih x1 x3 M r h hp
        · have h := az_f c6 h
          refine az_iconst (v := 1) C dX12_isFresh_28 (by decide) ?_
          refine az_goto C 33 dX12_isFresh_29 (by decide) ?_
          refine az_sub [0, 1, 3] rfl ?_
          exact s_X12_isFresh_33 C G (f_X12_isFresh_4 G F) ih x1 x3 1 M r h hp
set_option maxHeartbeats 4000000 in
set_option maxRecDepth 100000 in
theorem s_X12_isFresh_e {Y : az_Y} {V : az_V} {post : Option Value → az_M → Prop} (C : az_C Y V cX12_isFresh 4 RX12 (some .boolean) 1) (G : Nat) (p0 : Int32) (M : az_M) (r : Int32) (h : f_X12_isFresh G p0 M = some r) (hp : post (some (.int r)) M) : AW Y V (az_end Y V post) 4 M 0 [(0, .ref (az_ad V 40)), (1, .int p0)] [] := by
  unfold f_X12_isFresh at h
  refine az_iconst (v := 1) C dX12_isFresh_0 (by decide) ?_
  refine az_istore_n C dX12_isFresh_1 rfl (by decide) rfl ?_
  refine az_iconst (v := 0) C dX12_isFresh_2 (by decide) ?_
  refine az_istore_n C dX12_isFresh_3 rfl (by decide) rfl ?_
  refine az_sub [2, 3, 1, 0] rfl ?_
  exact s_X12_isFresh_4 C G G p0 1 0 M r h hp
theorem c_X12_isFresh {l : Launch} {V : az_V} (hL : az_L V) (G : Nat) (p0 : Int32) (M : az_M) {r : Int32} (h : f_X12_isFresh G p0 M = some r) : az_Ct l V yX12_isFresh cX12_isFresh 4 (some .boolean) 1 [.ref (az_ad V 40), .int p0] M (fun v M' => v = some (.int r) ∧ M' = M) :=
  az_Ct.of (by decide) (Nat.le_of_ble_eq_true rfl) (fun Y _ _ C => s_X12_isFresh_e C G p0 M r h ⟨rfl, rfl⟩)
