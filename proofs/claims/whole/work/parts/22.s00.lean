set_option maxHeartbeats 4000000 in
set_option maxRecDepth 100000 in
theorem s_X0_add_e {Y : az_Y} {V : az_V} {post : Option Value → az_M → Prop} (C : az_C Y V cX0_add 2 RX0 (some .int) 1) (o : Nat) (ho : az_bk V o) (a0 : Nat) (ha0 : az_tx V a0)  (M : az_M) (r : (Int32 × az_M)) (h : f_X0_add (az_z V) o a0 M = some r) (hp : post (some (.int r.1)) r.2) : AW Y V (az_end Y V post) 2 M 0 [(0, .ref (az_ad V o)), (1, .ref (az_ad V a0))] [] := by
  unfold f_X0_add at h
  refine az_aload_n C 0 dX0_add_0 rfl ?_
  refine az_geti C ho.1 fl_X0_17 rfl dX0_add_1 ?_
  refine az_bipush (v := 6) C dX0_add_4 (by decide) ?_
  refine az_icmp_lt C 11 dX0_add_6 (by decide) (fun c1 => ?_) (fun c1 => ?_)
  · have h := az_t c1 h
    refine az_aload_n C 0 dX0_add_11 rfl ?_
    refine az_getr (r := (o + 1)) C ho.1 fl_X0_11 rfl rfl dX0_add_12 ?_
    refine az_aload_n C 0 dX0_add_15 rfl ?_
    refine az_geti C ho.1 fl_X0_17 rfl dX0_add_16 ?_
    refine az_aload_n C 1 dX0_add_19 rfl ?_
    obtain ⟨g2, h⟩ := az_g h
    obtain ⟨g3, h⟩ := az_g2 h
    refine az_ast_t (e := (some a0)) (k := (M.1 o 1).toNatClampNeg) C ho.2 g3 g2 rfl dX0_add_20 ?_
    refine az_aload_n C 0 dX0_add_21 rfl ?_
    refine az_dup C dX0_add_22 rfl ?_
    refine az_geti C ho.1 fl_X0_17 rfl dX0_add_23 ?_
    refine az_iconst (v := 1) C dX0_add_26 (by decide) ?_
    refine az_iadd C dX0_add_27 ?_
    refine az_puti C ho.1 fl_X0_17 rfl rfl rfl rfl dX0_add_28 ?_
    refine az_aload_n C 0 dX0_add_31 rfl ?_
    refine az_geti C ho.1 fl_X0_17 rfl dX0_add_32 ?_
    refine az_iconst (v := 1) C dX0_add_35 (by decide) ?_
    refine az_isub C dX0_add_36 ?_
    obtain rfl := Option.some.inj h
    exact az_iret C dX0_add_37 hp
  · have h := az_f c1 h
    refine az_iconst (v := (-1)) C dX0_add_9 (by decide) ?_
    obtain rfl := Option.some.inj h
    exact az_iret C dX0_add_10 hp
theorem c_X0_add {l : Launch} {V : az_V} (hL : az_L V) (o : Nat) (ho : az_bk V o) (a0 : Nat) (ha0 : az_tx V a0)  (M : az_M) {r : (Int32 × az_M)} (h : f_X0_add (az_z V) o a0 M = some r) : az_Ct l V yX0_add cX0_add 2 (some .int) 1 [.ref (az_ad V o), .ref (az_ad V a0)] M (fun v M' => v = some (.int r.1) ∧ M' = r.2) :=
  az_Ct.of (by decide) (Nat.le_of_ble_eq_true rfl) (fun Y _ _ C => s_X0_add_e C o ho a0 ha0 M r h ⟨rfl, rfl⟩)
set_option maxHeartbeats 4000000 in
set_option maxRecDepth 100000 in
theorem s_X0_lawInForce_31 {Y : az_Y} {V : az_V} {post : Option Value → az_M → Prop} (C : az_C Y V cX0_lawInForce 1 RX0 (some (.object "OneBullet$Text")) 1) (o : Nat) (ho : az_bk V o) (s0 : Option Nat) (M : az_M) (r : (Option Nat)) (h : f_X0_lawInForce_31 (az_z V) o s0 M = some r) (hp : post (some (va_rf (r.map (az_ad V)))) M) : AW Y V (az_end Y V post) 1 M 31 [] [va_rf (s0.map (az_ad V))] := by
  unfold f_X0_lawInForce_31 at h
  obtain rfl := Option.some.inj h
  exact az_oret C dX0_lawInForce_31 hp
set_option maxHeartbeats 4000000 in
set_option maxRecDepth 100000 in
theorem s_X0_lawInForce_30 {Y : az_Y} {V : az_V} {post : Option Value → az_M → Prop} (C : az_C Y V cX0_lawInForce 1 RX0 (some (.object "OneBullet$Text")) 1) (o : Nat) (ho : az_bk V o)  (M : az_M) (r : (Option Nat)) (h : f_X0_lawInForce_30 (az_z V) o M = some r) (hp : post (some (va_rf (r.map (az_ad V)))) M) : AW Y V (az_end Y V post) 1 M 30 [] [] := by
  unfold f_X0_lawInForce_30 at h
  refine az_null C dX0_lawInForce_30 ?_
  exact s_X0_lawInForce_31 C o ho (none : Option Nat) M r h hp
set_option maxHeartbeats 4000000 in
set_option maxRecDepth 100000 in
theorem s_X0_lawInForce_e {Y : az_Y} {V : az_V} {post : Option Value → az_M → Prop} (C : az_C Y V cX0_lawInForce 1 RX0 (some (.object "OneBullet$Text")) 1) (o : Nat) (ho : az_bk V o)  (M : az_M) (r : (Option Nat)) (h : f_X0_lawInForce (az_z V) o M = some r) (hp : post (some (va_rf (r.map (az_ad V)))) M) : AW Y V (az_end Y V post) 1 M 0 [(0, .ref (az_ad V o))] [] := by
  unfold f_X0_lawInForce at h
  refine az_aload_n C 0 dX0_lawInForce_0 rfl ?_
  refine az_geti C ho.1 fl_X0_21 rfl dX0_lawInForce_1 ?_
  refine az_if_lt C 30 dX0_lawInForce_4 (by decide) (fun c1 => ?_) (fun c1 => ?_)
  · have h := az_t c1 h
    refine az_sub [] rfl ?_
    exact s_X0_lawInForce_30 C o ho M r h hp
  · have h := az_f c1 h
    refine az_aload_n C 0 dX0_lawInForce_7 rfl ?_
    refine az_geti C ho.1 fl_X0_21 rfl dX0_lawInForce_8 ?_
    refine az_aload_n C 0 dX0_lawInForce_11 rfl ?_
    refine az_geti C ho.1 fl_X0_17 rfl dX0_lawInForce_12 ?_
    refine az_icmp_ge C 30 dX0_lawInForce_15 (by decide) (fun c2 => ?_) (fun c2 => ?_)
    · have h := az_t c2 h
      refine az_sub [] rfl ?_
      exact s_X0_lawInForce_30 C o ho M r h hp
    · have h := az_f c2 h
      refine az_aload_n C 0 dX0_lawInForce_18 rfl ?_
      refine az_getr (r := (o + 1)) C ho.1 fl_X0_11 rfl rfl dX0_lawInForce_19 ?_
      refine az_aload_n C 0 dX0_lawInForce_22 rfl ?_
      refine az_geti C ho.1 fl_X0_21 rfl dX0_lawInForce_23 ?_
      obtain ⟨g3, h⟩ := az_g h
      refine az_ald (k := (M.1 o 2).toNatClampNeg) C ho.2 (by decide) g3 rfl dX0_lawInForce_26 ?_
      refine az_goto C 31 dX0_lawInForce_27 (by decide) ?_
      refine az_sub [] rfl ?_
      exact s_X0_lawInForce_31 C o ho (M.2.2 (o + 1) ((M.1 o 2).toNatClampNeg)) M r h hp
theorem c_X0_lawInForce {l : Launch} {V : az_V} (hL : az_L V) (o : Nat) (ho : az_bk V o)  (M : az_M) {r : (Option Nat)} (h : f_X0_lawInForce (az_z V) o M = some r) : az_Ct l V yX0_lawInForce cX0_lawInForce 1 (some (.object "OneBullet$Text")) 1 [.ref (az_ad V o)] M (fun v M' => v = some (va_rf (r.map (az_ad V))) ∧ M' = M) :=
  az_Ct.of (by decide) (Nat.le_of_ble_eq_true rfl) (fun Y _ _ C => s_X0_lawInForce_e C o ho M r h ⟨rfl, rfl⟩)
set_option maxHeartbeats 4000000 in
set_option maxRecDepth 100000 in
theorem s_X0_copy_2 {Y : az_Y} {V : az_V} {post : Option Value → az_M → Prop} (C : az_C Y V cX0_copy 3 RX0 none 1) (G : Nat) (o : Nat) (ho : az_bk V o) (a0 : Nat) (ha0 : az_bk V a0) : ∀ (F : Nat) (x2 : Int32) (M : az_M) (r : az_M), f_X0_copy_2 (az_z V) G o a0 F x2 M = some r → post none r → AW Y V (az_end Y V post) 3 M 2 [(0, .ref (az_ad V o)), (1, .ref (az_ad V a0)), (2, .int x2)] [] := by
  intro F
  induction F with
  | zero =>
    intro x2 M r h
    exact absurd (show (none : Option az_M) = some r from h) (fun q => by cases q)
  | succ F ih =>
    intro x2 M r h hp
    rw [f_X0_copy_2] at h
    refine az_iload_n C 2 dX0_copy_2 rfl ?_
    refine az_bipush (v := 6) C dX0_copy_3 (by decide) ?_
    refine az_icmp_ge C 26 dX0_copy_5 (by decide) (fun c1 => ?_) (fun c1 => ?_)
    · have h := az_t c1 h
      refine az_aload_n C 0 dX0_copy_26 rfl ?_
      refine az_aload_n C 1 dX0_copy_27 rfl ?_
      refine az_geti C ha0.1 fl_X0_17 rfl dX0_copy_28 ?_
      refine az_puti C ho.1 fl_X0_17 rfl rfl rfl rfl dX0_copy_31 ?_
      refine az_aload_n C 0 dX0_copy_34 rfl ?_
      refine az_aload_n C 1 dX0_copy_35 rfl ?_
      refine az_geti C ha0.1 fl_X0_21 rfl dX0_copy_36 ?_
      refine az_puti C ho.1 fl_X0_21 rfl rfl rfl rfl dX0_copy_39 ?_
      obtain rfl := Option.some.inj h
      exact az_vret C rfl dX0_copy_42 hp
    · have h := az_f c1 h
      refine az_aload_n C 0 dX0_copy_8 rfl ?_
      refine az_getr (r := (o + 1)) C ho.1 fl_X0_11 rfl rfl dX0_copy_9 ?_
      refine az_iload_n C 2 dX0_copy_12 rfl ?_
      refine az_aload_n C 1 dX0_copy_13 rfl ?_
      refine az_getr (r := (a0 + 1)) C ha0.1 fl_X0_11 rfl rfl dX0_copy_14 ?_
      refine az_iload_n C 2 dX0_copy_17 rfl ?_
      obtain ⟨g2, h⟩ := az_g h
      refine az_ald (k := x2.toNatClampNeg) C ha0.2 (by decide) g2 rfl dX0_copy_18 ?_
      obtain ⟨g3, h⟩ := az_g h
      obtain ⟨g4, h⟩ := az_g2 h
      refine az_ast_t (e := (M.2.2 (a0 + 1) x2.toNatClampNeg)) (k := x2.toNatClampNeg) C ho.2 g4 g3 rfl dX0_copy_19 ?_
      refine az_iinc (v := (x2 + 1)) C 2 dX0_copy_20 rfl rfl (by decide) rfl ?_
      refine az_goto C 2 dX0_copy_23 (by decide) ?_
      refine az_sub [1, 2, 0] rfl ?_
      exact ih (x2 + 1) (az_q M (o + 1) x2.toNatClampNeg (M.2.2 (a0 + 1) x2.toNatClampNeg)) r h hp
set_option maxHeartbeats 4000000 in
set_option maxRecDepth 100000 in
theorem s_X0_copy_e {Y : az_Y} {V : az_V} {post : Option Value → az_M → Prop} (C : az_C Y V cX0_copy 3 RX0 none 1) (G : Nat) (o : Nat) (ho : az_bk V o) (a0 : Nat) (ha0 : az_bk V a0)  (M : az_M) (r : az_M) (h : f_X0_copy (az_z V) G o a0 M = some r) (hp : post none r) : AW Y V (az_end Y V post) 3 M 0 [(0, .ref (az_ad V o)), (1, .ref (az_ad V a0))] [] := by
  unfold f_X0_copy at h
  refine az_iconst (v := 0) C dX0_copy_0 (by decide) ?_
  refine az_istore_n C dX0_copy_1 rfl (by decide) rfl ?_
  refine az_sub [1, 2, 0] rfl ?_
  exact s_X0_copy_2 C G o ho a0 ha0 G 0 M r h hp
theorem c_X0_copy {l : Launch} {V : az_V} (hL : az_L V) (G : Nat) (o : Nat) (ho : az_bk V o) (a0 : Nat) (ha0 : az_bk V a0)  (M : az_M) {r : az_M} (h : f_X0_copy (az_z V) G o a0 M = some r) : az_Ct l V yX0_copy cX0_copy 3 none 1 [.ref (az_ad V o), .ref (az_ad V a0)] M (fun v M' => v = none ∧ M' = r) :=
  az_Ct.of (by decide) (Nat.le_of_ble_eq_true rfl) (fun Y _ _ C => s_X0_copy_e C G o ho a0 ha0 M r h ⟨rfl, rfl⟩)
set_option maxHeartbeats 4000000 in
set_option maxRecDepth 100000 in
theorem s_X3_clear_e {Y : az_Y} {V : az_V} {post : Option Value → az_M → Prop} (C : az_C Y V cX3_clear 1 RX3 none 1) (o : Nat) (ho : az_pa V o)  (M : az_M) (r : az_M) (h : f_X3_clear o M = some r) (hp : post none r) : AW Y V (az_end Y V post) 1 M 0 [(0, .ref (az_ad V o))] [] := by
  unfold f_X3_clear at h
  refine az_aload_n C 0 dX3_clear_0 rfl ?_
  refine az_iconst (v := 0) C dX3_clear_1 (by decide) ?_
  refine az_puti C ho.1 fl_X3_22 rfl rfl rfl rfl dX3_clear_2 ?_
  obtain rfl := Option.some.inj h
  exact az_vret C rfl dX3_clear_5 hp
theorem c_X3_clear {l : Launch} {V : az_V} (hL : az_L V) (o : Nat) (ho : az_pa V o)  (M : az_M) {r : az_M} (h : f_X3_clear o M = some r) : az_Ct l V yX3_clear cX3_clear 1 none 1 [.ref (az_ad V o)] M (fun v M' => v = none ∧ M' = r) :=
  az_Ct.of (by decide) (Nat.le_of_ble_eq_true rfl) (fun Y _ _ C => s_X3_clear_e C o ho M r h ⟨rfl, rfl⟩)
set_option maxHeartbeats 4000000 in
set_option maxRecDepth 100000 in
theorem s_X3_keep_28 {Y : az_Y} {V : az_V} {post : Option Value → az_M → Prop} (C : az_C Y V cX3_keep 4 RX3 none 2) (o : Nat) (ho : az_pa V o) (a1 : Nat) (ha1 : az_pv V a1) (x1 : Int32) (M : az_M) (r : az_M) (h : f_X3_keep_28 o a1 x1 M = some r) (hp : post none r) : AW Y V (az_end Y V post) 4 M 28 [(0, .ref (az_ad V o)), (1, .int x1), (2, .ref (az_ad V a1))] [] := by
  unfold f_X3_keep_28 at h
  refine az_aload_n C 0 dX3_keep_28 rfl ?_
  refine az_geti C ho.1 fl_X3_18 rfl dX3_keep_29 ?_
  refine az_aload_n C 0 dX3_keep_32 rfl ?_
  refine az_geti C ho.1 fl_X3_22 rfl dX3_keep_33 ?_
  refine az_iadd C dX3_keep_36 ?_
  refine az_bipush (v := 16) C dX3_keep_37 (by decide) ?_
  refine az_irem2 C dX3_keep_39 (by decide) ?_
  refine az_istore_n C dX3_keep_40 rfl (by decide) rfl ?_
  refine az_aload_n C 1 dX3_keep_41 rfl ?_
  refine az_getr (r := (o + 1)) C ho.1 fl_X3_9 rfl rfl dX3_keep_42 ?_
  refine az_iload_n C 0 dX3_keep_45 rfl ?_
  refine az_iload_n C 2 dX3_keep_46 rfl ?_
  obtain ⟨g2, h⟩ := az_g h
  refine az_ist (k := (az_rem ((M.1 o 2) + (M.1 o 3)) 16).toNatClampNeg) C ho.2.1 g2 rfl dX3_keep_47 ?_
  refine az_aload_n C 3 dX3_keep_48 rfl ?_
  refine az_getr (r := (a1 + 1)) C ha1.1 fl_X3_25 rfl rfl dX3_keep_49 ?_
  refine az_iconst (v := 0) C dX3_keep_52 (by decide) ?_
  refine az_aload_n C 1 dX3_keep_53 rfl ?_
  refine az_getr (r := (o + 2)) C ho.1 fl_X3_15 rfl rfl dX3_keep_54 ?_
  refine az_iload_n C 0 dX3_keep_57 rfl ?_
  refine az_sipush (v := 145) C dX3_keep_58 (by decide) ?_
  refine az_imul C dX3_keep_61 ?_
  refine az_sipush (v := 145) C dX3_keep_62 (by decide) ?_
  obtain ⟨g3, h⟩ := az_g h
  obtain ⟨g4, h⟩ := az_g2 h
  refine az_copy (i := 0) (j := ((az_rem ((M.1 o 2) + (M.1 o 3)) 16) * 145).toNatClampNeg) (k := 145) C (by decide) la_X3_30 ha1.2 ho.2.2 (by decide) g3 (by decide) (by decide) g4 (by decide) rfl (by decide) (Nat.le_of_ble_eq_true rfl) dX3_keep_65 ?_
  refine az_aload_n C 1 dX3_keep_68 rfl ?_
  refine az_dup C dX3_keep_69 rfl ?_
  refine az_geti C ho.1 fl_X3_22 rfl dX3_keep_70 ?_
  refine az_iconst (v := 1) C dX3_keep_73 (by decide) ?_
  refine az_iadd C dX3_keep_74 ?_
  refine az_puti C ho.1 fl_X3_22 rfl rfl rfl rfl dX3_keep_75 ?_
  obtain rfl := Option.some.inj h
  exact az_vret C rfl dX3_keep_78 hp
set_option maxHeartbeats 4000000 in
set_option maxRecDepth 100000 in
theorem s_X3_keep_e {Y : az_Y} {V : az_V} {post : Option Value → az_M → Prop} (C : az_C Y V cX3_keep 4 RX3 none 2) (o : Nat) (ho : az_pa V o) (a1 : Nat) (ha1 : az_pv V a1) (p0 : Int32) (M : az_M) (r : az_M) (h : f_X3_keep o a1 p0 M = some r) (hp : post none r) : AW Y V (az_end Y V post) 4 M 0 [(0, .ref (az_ad V o)), (1, .int p0), (2, .ref (az_ad V a1))] [] := by
  unfold f_X3_keep at h
  refine az_aload_n C 0 dX3_keep_0 rfl ?_
  refine az_geti C ho.1 fl_X3_22 rfl dX3_keep_1 ?_
  refine az_bipush (v := 16) C dX3_keep_4 (by decide) ?_
  refine az_icmp_lt C 28 dX3_keep_6 (by decide) (fun c1 => ?_) (fun c1 => ?_)
  · have h := az_t c1 h
    exact s_X3_keep_28 C o ho a1 ha1 p0 M r h hp
  · have h := az_f c1 h
    refine az_aload_n C 0 dX3_keep_9 rfl ?_
    refine az_aload_n C 0 dX3_keep_10 rfl ?_
    refine az_geti C ho.1 fl_X3_18 rfl dX3_keep_11 ?_
    refine az_iconst (v := 1) C dX3_keep_14 (by decide) ?_
    refine az_iadd C dX3_keep_15 ?_
    refine az_bipush (v := 16) C dX3_keep_16 (by decide) ?_
    refine az_irem2 C dX3_keep_18 (by decide) ?_
    refine az_puti C ho.1 fl_X3_18 rfl rfl rfl rfl dX3_keep_19 ?_
    refine az_aload_n C 0 dX3_keep_22 rfl ?_
    refine az_bipush (v := 15) C dX3_keep_23 (by decide) ?_
    refine az_puti C ho.1 fl_X3_22 rfl rfl rfl rfl dX3_keep_25 ?_
    exact s_X3_keep_28 C o ho a1 ha1 p0 (az_i (az_i M o 2 (az_rem ((M.1 o 2) + 1) 16)) o 3 15) r h hp
theorem c_X3_keep {l : Launch} {V : az_V} (hL : az_L V) (o : Nat) (ho : az_pa V o) (a1 : Nat) (ha1 : az_pv V a1) (p0 : Int32) (M : az_M) {r : az_M} (h : f_X3_keep o a1 p0 M = some r) : az_Ct l V yX3_keep cX3_keep 4 none 2 [.ref (az_ad V o), .int p0, .ref (az_ad V a1)] M (fun v M' => v = none ∧ M' = r) :=
  az_Ct.of (by decide) (Nat.le_of_ble_eq_true rfl) (fun Y _ _ C => s_X3_keep_e C o ho a1 ha1 p0 M r h ⟨rfl, rfl⟩)
set_option maxHeartbeats 4000000 in
set_option maxRecDepth 100000 in
theorem s_X3_takeBack_e {Y : az_Y} {V : az_V} {post : Option Value → az_M → Prop} (C : az_C Y V cX3_takeBack 3 RX3 (some .int) 2) (o : Nat) (ho : az_pa V o) (a0 : Nat) (ha0 : az_pv V a0)  (M : az_M) (r : (Int32 × az_M)) (h : f_X3_takeBack o a0 M = some r) (hp : post (some (.int r.1)) r.2) : AW Y V (az_end Y V post) 3 M 0 [(0, .ref (az_ad V o)), (1, .ref (az_ad V a0))] [] := by
  unfold f_X3_takeBack at h
  refine az_aload_n C 0 dX3_takeBack_0 rfl ?_
  refine az_geti C ho.1 fl_X3_22 rfl dX3_takeBack_1 ?_
  refine az_iconst (v := 1) C dX3_takeBack_4 (by decide) ?_
  refine az_icmp_ge C 10 dX3_takeBack_5 (by decide) (fun c1 => ?_) (fun c1 => ?_)
  · have h := az_t c1 h
    refine az_aload_n C 0 dX3_takeBack_10 rfl ?_
    refine az_dup C dX3_takeBack_11 rfl ?_
    refine az_geti C ho.1 fl_X3_22 rfl dX3_takeBack_12 ?_
    refine az_iconst (v := 1) C dX3_takeBack_15 (by decide) ?_
    refine az_isub C dX3_takeBack_16 ?_
    refine az_puti C ho.1 fl_X3_22 rfl rfl rfl rfl dX3_takeBack_17 ?_
    refine az_aload_n C 0 dX3_takeBack_20 rfl ?_
    refine az_geti C ho.1 fl_X3_18 rfl dX3_takeBack_21 ?_
    refine az_aload_n C 0 dX3_takeBack_24 rfl ?_
    refine az_geti C ho.1 fl_X3_22 rfl dX3_takeBack_25 ?_
    refine az_iadd C dX3_takeBack_28 ?_
    refine az_bipush (v := 16) C dX3_takeBack_29 (by decide) ?_
    refine az_irem2 C dX3_takeBack_31 (by decide) ?_
    refine az_istore_n C dX3_takeBack_32 rfl (by decide) rfl ?_
    refine az_aload_n C 1 dX3_takeBack_33 rfl ?_
    refine az_getr (r := (o + 2)) C ho.1 fl_X3_15 rfl rfl dX3_takeBack_34 ?_
    refine az_iload_n C 0 dX3_takeBack_37 rfl ?_
    refine az_sipush (v := 145) C dX3_takeBack_38 (by decide) ?_
    refine az_imul C dX3_takeBack_41 ?_
    refine az_aload_n C 2 dX3_takeBack_42 rfl ?_
    refine az_getr (r := (a0 + 1)) C ha0.1 fl_X3_25 rfl rfl dX3_takeBack_43 ?_
    refine az_iconst (v := 0) C dX3_takeBack_46 (by decide) ?_
    refine az_sipush (v := 145) C dX3_takeBack_47 (by decide) ?_
    obtain ⟨g2, h⟩ := az_g h
    obtain ⟨g3, h⟩ := az_g2 h
    refine az_copy (i := ((az_rem (((az_i M o 3 ((M.1 o 3) - 1)).1 o 2) + ((az_i M o 3 ((M.1 o 3) - 1)).1 o 3)) 16) * 145).toNatClampNeg) (j := 0) (k := 145) C (by decide) la_X3_30 ho.2.2 ha0.2 g2 (by decide) (by decide) g3 (by decide) rfl (by decide) (by decide) (Nat.le_of_ble_eq_true rfl) dX3_takeBack_50 ?_
    refine az_aload_n C 1 dX3_takeBack_53 rfl ?_
    refine az_getr (r := (o + 1)) C ho.1 fl_X3_9 rfl rfl dX3_takeBack_54 ?_
    refine az_iload_n C 0 dX3_takeBack_57 rfl ?_
    obtain ⟨g4, h⟩ := az_g h
    refine az_ild (k := (az_rem (((az_i M o 3 ((M.1 o 3) - 1)).1 o 2) + ((az_i M o 3 ((M.1 o 3) - 1)).1 o 3)) 16).toNatClampNeg) C ho.2.1 g4 rfl dX3_takeBack_58 ?_
    obtain rfl := Option.some.inj h
    exact az_iret C dX3_takeBack_59 hp
  · have h := az_f c1 h
    refine az_iconst (v := (-1)) C dX3_takeBack_8 (by decide) ?_
    obtain rfl := Option.some.inj h
    exact az_iret C dX3_takeBack_9 hp
theorem c_X3_takeBack {l : Launch} {V : az_V} (hL : az_L V) (o : Nat) (ho : az_pa V o) (a0 : Nat) (ha0 : az_pv V a0)  (M : az_M) {r : (Int32 × az_M)} (h : f_X3_takeBack o a0 M = some r) : az_Ct l V yX3_takeBack cX3_takeBack 3 (some .int) 2 [.ref (az_ad V o), .ref (az_ad V a0)] M (fun v M' => v = some (.int r.1) ∧ M' = r.2) :=
  az_Ct.of (by decide) (Nat.le_of_ble_eq_true rfl) (fun Y _ _ C => s_X3_takeBack_e C o ho a0 ha0 M r h ⟨rfl, rfl⟩)
set_option maxHeartbeats 4000000 in
set_option maxRecDepth 100000 in
theorem s_X3_copy_e {Y : az_Y} {V : az_V} {post : Option Value → az_M → Prop} (C : az_C Y V cX3_copy 2 RX3 none 2) (o : Nat) (ho : az_pa V o) (a0 : Nat) (ha0 : az_pa V a0)  (M : az_M) (r : az_M) (h : f_X3_copy o a0 M = some r) (hp : post none r) : AW Y V (az_end Y V post) 2 M 0 [(0, .ref (az_ad V o)), (1, .ref (az_ad V a0))] [] := by
  unfold f_X3_copy at h
  refine az_aload_n C 1 dX3_copy_0 rfl ?_
  refine az_getr (r := (a0 + 1)) C ha0.1 fl_X3_9 rfl rfl dX3_copy_1 ?_
  refine az_iconst (v := 0) C dX3_copy_4 (by decide) ?_
  refine az_aload_n C 0 dX3_copy_5 rfl ?_
  refine az_getr (r := (o + 1)) C ho.1 fl_X3_9 rfl rfl dX3_copy_6 ?_
  refine az_iconst (v := 0) C dX3_copy_9 (by decide) ?_
  refine az_bipush (v := 16) C dX3_copy_10 (by decide) ?_
  refine az_copy (i := 0) (j := 0) (k := 16) C (by decide) la_X3_30 ha0.2.1 ho.2.1 (by decide) (by decide) (by decide) (by decide) (by decide) (by decide) (by decide) (by decide) (Nat.le_of_ble_eq_true rfl) dX3_copy_12 ?_
  refine az_aload_n C 1 dX3_copy_15 rfl ?_
  refine az_getr (r := (a0 + 2)) C ha0.1 fl_X3_15 rfl rfl dX3_copy_16 ?_
  refine az_iconst (v := 0) C dX3_copy_19 (by decide) ?_
  refine az_aload_n C 0 dX3_copy_20 rfl ?_
  refine az_getr (r := (o + 2)) C ho.1 fl_X3_15 rfl rfl dX3_copy_21 ?_
  refine az_iconst (v := 0) C dX3_copy_24 (by decide) ?_
  refine az_aload_n C 0 dX3_copy_25 rfl ?_
  refine az_getr (r := (o + 2)) C ho.1 fl_X3_15 rfl rfl dX3_copy_26 ?_
  refine az_alen (v := 2320) C ho.2.2 rfl (by decide) dX3_copy_29 ?_
  refine az_copy (i := 0) (j := 0) (k := 2320) C (by decide) la_X3_30 ha0.2.2 ho.2.2 (by decide) (by decide) (by decide) (by decide) (by decide) (by decide) (by decide) (by decide) (Nat.le_of_ble_eq_true rfl) dX3_copy_30 ?_
  refine az_aload_n C 0 dX3_copy_33 rfl ?_
  refine az_aload_n C 1 dX3_copy_34 rfl ?_
  refine az_geti C ha0.1 fl_X3_18 rfl dX3_copy_35 ?_
  refine az_puti C ho.1 fl_X3_18 rfl rfl rfl rfl dX3_copy_38 ?_
  refine az_aload_n C 0 dX3_copy_41 rfl ?_
  refine az_aload_n C 1 dX3_copy_42 rfl ?_
  refine az_geti C ha0.1 fl_X3_22 rfl dX3_copy_43 ?_
  refine az_puti C ho.1 fl_X3_22 rfl rfl rfl rfl dX3_copy_46 ?_
  obtain rfl := Option.some.inj h
  exact az_vret C rfl dX3_copy_49 hp
theorem c_X3_copy {l : Launch} {V : az_V} (hL : az_L V) (o : Nat) (ho : az_pa V o) (a0 : Nat) (ha0 : az_pa V a0)  (M : az_M) {r : az_M} (h : f_X3_copy o a0 M = some r) : az_Ct l V yX3_copy cX3_copy 2 none 2 [.ref (az_ad V o), .ref (az_ad V a0)] M (fun v M' => v = none ∧ M' = r) :=
  az_Ct.of (by decide) (Nat.le_of_ble_eq_true rfl) (fun Y _ _ C => s_X3_copy_e C o ho a0 ha0 M r h ⟨rfl, rfl⟩)
set_option maxHeartbeats 4000000 in
set_option maxRecDepth 100000 in
theorem s_X9_hasRoomFor_17 {Y : az_Y} {V : az_V} {post : Option Value → az_M → Prop} (C : az_C Y V cX9_hasRoomFor 2 RX9 (some .boolean) 1) (s0 : Int32) (M : az_M) (r : Int32) (h : f_X9_hasRoomFor_17 s0 M = some r) (hp : post (some (.int r)) M) : AW Y V (az_end Y V post) 2 M 17 [] [.int s0] := by
  unfold f_X9_hasRoomFor_17 at h
  obtain ⟨g2, h⟩ := az_g2 h
  obtain rfl := Option.some.inj h
  exact az_zret C dX9_hasRoomFor_17 (az_nz g2) hp
set_option maxHeartbeats 4000000 in
set_option maxRecDepth 100000 in
theorem s_X9_hasRoomFor_e {Y : az_Y} {V : az_V} {post : Option Value → az_M → Prop} (C : az_C Y V cX9_hasRoomFor 2 RX9 (some .boolean) 1) (p0 : Int32) (M : az_M) (r : Int32) (h : f_X9_hasRoomFor p0 M = some r) (hp : post (some (.int r)) M) : AW Y V (az_end Y V post) 2 M 0 [(0, .ref (az_ad V 5)), (1, .int p0)] [] := by
  have o5 := C.hL.at 5 (ci := 9) rfl
  unfold f_X9_hasRoomFor at h
  refine az_aload_n C 0 dX9_hasRoomFor_0 rfl ?_
  refine az_geti C o5 fl_X9_15 rfl dX9_hasRoomFor_1 ?_
  refine az_iload_n C 1 dX9_hasRoomFor_4 rfl ?_
  refine az_iadd C dX9_hasRoomFor_5 ?_
  refine az_sipush (v := 400) C dX9_hasRoomFor_6 (by decide) ?_
  refine az_icmp_gt C 16 dX9_hasRoomFor_9 (by decide) (fun c1 => ?_) (fun c1 => ?_)
  · have h := az_t c1 h
    refine az_iconst (v := 0) C dX9_hasRoomFor_16 (by decide) ?_
    refine az_sub [] rfl ?_
    exact s_X9_hasRoomFor_17 C 0 M r h hp
  · have h := az_f c1 h
    refine az_iconst (v := 1) C dX9_hasRoomFor_12 (by decide) ?_
    refine az_goto C 17 dX9_hasRoomFor_13 (by decide) ?_
    refine az_sub [] rfl ?_
    exact s_X9_hasRoomFor_17 C 1 M r h hp
theorem c_X9_hasRoomFor {l : Launch} {V : az_V} (hL : az_L V) (p0 : Int32) (M : az_M) {r : Int32} (h : f_X9_hasRoomFor p0 M = some r) : az_Ct l V yX9_hasRoomFor cX9_hasRoomFor 2 (some .boolean) 1 [.ref (az_ad V 5), .int p0] M (fun v M' => v = some (.int r) ∧ M' = M) :=
  az_Ct.of (by decide) (Nat.le_of_ble_eq_true rfl) (fun Y _ _ C => s_X9_hasRoomFor_e C p0 M r h ⟨rfl, rfl⟩)
set_option maxHeartbeats 4000000 in
set_option maxRecDepth 100000 in
theorem s_X9_take_49 {Y : az_Y} {V : az_V} {post : Option Value → az_M → Prop} (C : az_C Y V cX9_take 3 RX9 none 1) (G : Nat)  (M : az_M) (r : az_M) (h : f_X9_take_49 G M = some r) (hp : post none r) : AW Y V (az_end Y V post) 3 M 49 [] [] := by
  unfold f_X9_take_49 at h
  obtain rfl := Option.some.inj h
  exact az_vret C rfl dX9_take_49 hp
set_option maxHeartbeats 4000000 in
set_option maxRecDepth 100000 in
theorem s_X9_take_3 {Y : az_Y} {V : az_V} {post : Option Value → az_M → Prop} (C : az_C Y V cX9_take 3 RX9 none 1) (G : Nat) : ∀ (F : Nat) (x1 : Int32) (x2 : Int32) (M : az_M) (r : az_M), f_X9_take_3 G F x1 x2 M = some r → post none r → AW Y V (az_end Y V post) 3 M 3 [(0, .ref (az_ad V 5)), (1, .int x1), (2, .int x2)] [] := by
  have o5 := C.hL.at 5 (ci := 9) rfl
  have a6 := C.hL.ar 6 (t := 0) (len := 400) rfl
  intro F
  induction F with
  | zero =>
    intro x1 x2 M r h
    exact absurd (show (none : Option az_M) = some r from h) (fun q => by cases q)
  | succ F ih =>
    intro x1 x2 M r h hp
    rw [f_X9_take_3] at h
    refine az_iload_n C 2 dX9_take_3 rfl ?_
    refine az_if_lt C 49 dX9_take_4 (by decide) (fun c1 => ?_) (fun c1 => ?_)
    · have h := az_t c1 h
      refine az_sub [] rfl ?_
      exact s_X9_take_49 C G M r h hp
    · have h := az_f c1 h
      refine az_aload_n C 0 dX9_take_7 rfl ?_
      refine az_geti C o5 fl_X9_15 rfl dX9_take_8 ?_
      refine az_sipush (v := 400) C dX9_take_11 (by decide) ?_
      refine az_icmp_ge C 49 dX9_take_14 (by decide) (fun c2 => ?_) (fun c2 => ?_)
      · have h := az_t c2 h
        refine az_sub [] rfl ?_
        exact s_X9_take_49 C G M r h hp
      · have h := az_f c2 h
        refine az_aload_n C 0 dX9_take_17 rfl ?_
        refine az_getr (r := 6) C o5 fl_X9_9 rfl rfl dX9_take_18 ?_
        refine az_aload_n C 0 dX9_take_21 rfl ?_
        refine az_geti C o5 fl_X9_15 rfl dX9_take_22 ?_
        refine az_iload_n C 1 dX9_take_25 rfl ?_
        refine az_iload_n C 2 dX9_take_26 rfl ?_
        refine az_ishr C dX9_take_27 ?_
        refine az_sipush (v := 255) C dX9_take_28 (by decide) ?_
        refine az_iand C dX9_take_31 ?_
        obtain ⟨g3, h⟩ := az_g h
        refine az_ist (k := (M.1 5 1).toNatClampNeg) C a6 g3 rfl dX9_take_32 ?_
        refine az_aload_n C 0 dX9_take_33 rfl ?_
        refine az_dup C dX9_take_34 rfl ?_
        refine az_geti C o5 fl_X9_15 rfl dX9_take_35 ?_
        refine az_iconst (v := 1) C dX9_take_38 (by decide) ?_
        refine az_iadd C dX9_take_39 ?_
        refine az_puti C o5 fl_X9_15 rfl rfl rfl rfl dX9_take_40 ?_
        refine az_iinc (v := (x2 + (-8))) C 2 dX9_take_43 rfl rfl (by decide) rfl ?_
        refine az_goto C 3 dX9_take_46 (by decide) ?_
        refine az_sub [1, 2, 0] rfl ?_
        exact ih x1 (x2 + (-8)) (az_i (az_i M 6 ((M.1 5 1).toNatClampNeg) ((x1 >>> (x2 &&& 31)) &&& 255)) 5 1 (((az_i M 6 ((M.1 5 1).toNatClampNeg) ((x1 >>> (x2 &&& 31)) &&& 255)).1 5 1) + 1)) r h hp
set_option maxHeartbeats 4000000 in
set_option maxRecDepth 100000 in
theorem s_X9_take_e {Y : az_Y} {V : az_V} {post : Option Value → az_M → Prop} (C : az_C Y V cX9_take 3 RX9 none 1) (G : Nat) (p0 : Int32) (M : az_M) (r : az_M) (h : f_X9_take G p0 M = some r) (hp : post none r) : AW Y V (az_end Y V post) 3 M 0 [(0, .ref (az_ad V 5)), (1, .int p0)] [] := by
  unfold f_X9_take at h
  refine az_bipush (v := 24) C dX9_take_0 (by decide) ?_
  refine az_istore_n C dX9_take_2 rfl (by decide) rfl ?_
  refine az_sub [1, 2, 0] rfl ?_
  exact s_X9_take_3 C G G p0 24 M r h hp
theorem c_X9_take {l : Launch} {V : az_V} (hL : az_L V) (G : Nat) (p0 : Int32) (M : az_M) {r : az_M} (h : f_X9_take G p0 M = some r) : az_Ct l V yX9_take cX9_take 3 none 1 [.ref (az_ad V 5), .int p0] M (fun v M' => v = none ∧ M' = r) :=
  az_Ct.of (by decide) (Nat.le_of_ble_eq_true rfl) (fun Y _ _ C => s_X9_take_e C G p0 M r h ⟨rfl, rfl⟩)
set_option maxHeartbeats 4000000 in
set_option maxRecDepth 100000 in
theorem s_X10_get_e {Y : az_Y} {V : az_V} {post : Option Value → az_M → Prop} (C : az_C Y V cX10_get 3 RX10 (some .int) 1) (o : Nat) (ho : az_tx V o) (p0 : Int32) (p1 : Int32) (M : az_M) (r : Int32) (h : f_X10_get (az_z V) o p0 p1 M = some r) (hp : post (some (.int r)) M) : AW Y V (az_end Y V post) 3 M 0 [(0, .ref (az_ad V o)), (1, .int p0), (2, .int p1)] [] := by
  unfold f_X10_get at h
  refine az_aload_n C 0 dX10_get_0 rfl ?_
  refine az_getr (r := (o + 2)) C ho.1 fl_X10_15 rfl rfl dX10_get_1 ?_
  refine az_iload_n C 1 dX10_get_4 rfl ?_
  refine az_bipush (v := 6) C dX10_get_5 (by decide) ?_
  refine az_imul C dX10_get_7 ?_
  refine az_iload_n C 2 dX10_get_8 rfl ?_
  refine az_iadd C dX10_get_9 ?_
  obtain ⟨g1, h⟩ := az_g h
  refine az_ild (k := ((p0 * 6) + p1).toNatClampNeg) C ho.2.2 g1 rfl dX10_get_10 ?_
  obtain rfl := Option.some.inj h
  exact az_iret C dX10_get_11 hp
theorem c_X10_get {l : Launch} {V : az_V} (hL : az_L V) (o : Nat) (ho : az_tx V o) (p0 : Int32) (p1 : Int32) (M : az_M) {r : Int32} (h : f_X10_get (az_z V) o p0 p1 M = some r) : az_Ct l V yX10_get cX10_get 3 (some .int) 1 [.ref (az_ad V o), .int p0, .int p1] M (fun v M' => v = some (.int r) ∧ M' = M) :=
  az_Ct.of (by decide) (Nat.le_of_ble_eq_true rfl) (fun Y _ _ C => s_X10_get_e C o ho p0 p1 M r h ⟨rfl, rfl⟩)
set_option maxHeartbeats 4000000 in
set_option maxRecDepth 100000 in
theorem s_X10_set_e {Y : az_Y} {V : az_V} {post : Option Value → az_M → Prop} (C : az_C Y V cX10_set 4 RX10 none 1) (o : Nat) (ho : az_tx V o) (p0 : Int32) (p1 : Int32) (p2 : Int32) (M : az_M) (r : az_M) (h : f_X10_set (az_z V) o p0 p1 p2 M = some r) (hp : post none r) : AW Y V (az_end Y V post) 4 M 0 [(0, .ref (az_ad V o)), (1, .int p0), (2, .int p1), (3, .int p2)] [] := by
  unfold f_X10_set at h
  refine az_aload_n C 0 dX10_set_0 rfl ?_
  refine az_getr (r := (o + 2)) C ho.1 fl_X10_15 rfl rfl dX10_set_1 ?_
  refine az_iload_n C 1 dX10_set_4 rfl ?_
  refine az_bipush (v := 6) C dX10_set_5 (by decide) ?_
  refine az_imul C dX10_set_7 ?_
  refine az_iload_n C 2 dX10_set_8 rfl ?_
  refine az_iadd C dX10_set_9 ?_
  refine az_iload_n C 3 dX10_set_10 rfl ?_
  obtain ⟨g1, h⟩ := az_g h
  refine az_ist (k := ((p0 * 6) + p1).toNatClampNeg) C ho.2.2 g1 rfl dX10_set_11 ?_
  obtain rfl := Option.some.inj h
  exact az_vret C rfl dX10_set_12 hp
theorem c_X10_set {l : Launch} {V : az_V} (hL : az_L V) (o : Nat) (ho : az_tx V o) (p0 : Int32) (p1 : Int32) (p2 : Int32) (M : az_M) {r : az_M} (h : f_X10_set (az_z V) o p0 p1 p2 M = some r) : az_Ct l V yX10_set cX10_set 4 none 1 [.ref (az_ad V o), .int p0, .int p1, .int p2] M (fun v M' => v = none ∧ M' = r) :=
  az_Ct.of (by decide) (Nat.le_of_ble_eq_true rfl) (fun Y _ _ C => s_X10_set_e C o ho p0 p1 p2 M r h ⟨rfl, rfl⟩)
set_option maxHeartbeats 4000000 in
set_option maxRecDepth 100000 in
theorem s_X10_addStep_36 {Y : az_Y} {V : az_V} {post : Option Value → az_M → Prop} (C : az_C Y V cX10_addStep 3 RX10 none 1) (o : Nat) (ho : az_tx V o)  (M : az_M) (r : az_M) (h : f_X10_addStep_36 (az_z V) o M = some r) (hp : post none r) : AW Y V (az_end Y V post) 3 M 36 [] [] := by
  unfold f_X10_addStep_36 at h
  obtain rfl := Option.some.inj h
  exact az_vret C rfl dX10_addStep_36 hp
set_option maxHeartbeats 4000000 in
set_option maxRecDepth 100000 in
theorem s_X10_addStep_e {Y : az_Y} {V : az_V} {post : Option Value → az_M → Prop} (C : az_C Y V cX10_addStep 3 RX10 none 1) (o : Nat) (ho : az_tx V o) (p0 : Int32) (p1 : Int32) (M : az_M) (r : az_M) (h : f_X10_addStep (az_z V) o p0 p1 M = some r) (hp : post none r) : AW Y V (az_end Y V post) 3 M 0 [(0, .ref (az_ad V o)), (1, .int p0), (2, .int p1)] [] := by
  unfold f_X10_addStep at h
  refine az_aload_n C 0 dX10_addStep_0 rfl ?_
  refine az_geti C ho.1 fl_X10_18 rfl dX10_addStep_1 ?_
  refine az_aload_n C 0 dX10_addStep_4 rfl ?_
  refine az_getr (r := (o + 1)) C ho.1 fl_X10_9 rfl rfl dX10_addStep_5 ?_
  refine az_alen C ho.2.1 rfl rfl dX10_addStep_8 ?_
  refine az_icmp_ge C 36 dX10_addStep_9 (by decide) (fun c1 => ?_) (fun c1 => ?_)
  · have h := az_t c1 h
    refine az_sub [] rfl ?_
    exact s_X10_addStep_36 C o ho M r h hp
  · have h := az_f c1 h
    refine az_aload_n C 0 dX10_addStep_12 rfl ?_
    refine az_getr (r := (o + 1)) C ho.1 fl_X10_9 rfl rfl dX10_addStep_13 ?_
    refine az_aload_n C 0 dX10_addStep_16 rfl ?_
    refine az_geti C ho.1 fl_X10_18 rfl dX10_addStep_17 ?_
    refine az_iload_n C 2 dX10_addStep_20 rfl ?_
    refine az_iconst (v := 4) C dX10_addStep_21 (by decide) ?_
    refine az_ishl C dX10_addStep_22 ?_
    refine az_iload_n C 1 dX10_addStep_23 rfl ?_
    refine az_ior C dX10_addStep_24 ?_
    obtain ⟨g2, h⟩ := az_g h
    refine az_ist (k := (M.1 o 2).toNatClampNeg) C ho.2.1 g2 rfl dX10_addStep_25 ?_
    refine az_aload_n C 0 dX10_addStep_26 rfl ?_
    refine az_dup C dX10_addStep_27 rfl ?_
    refine az_geti C ho.1 fl_X10_18 rfl dX10_addStep_28 ?_
    refine az_iconst (v := 1) C dX10_addStep_31 (by decide) ?_
    refine az_iadd C dX10_addStep_32 ?_
    refine az_puti C ho.1 fl_X10_18 rfl rfl rfl rfl dX10_addStep_33 ?_
    refine az_sub [] rfl ?_
    exact s_X10_addStep_36 C o ho (az_i (az_i M (o + 1) ((M.1 o 2).toNatClampNeg) ((p1 <<< (4 &&& 31)) ||| p0)) o 2 (((az_i M (o + 1) ((M.1 o 2).toNatClampNeg) ((p1 <<< (4 &&& 31)) ||| p0)).1 o 2) + 1)) r h hp
theorem c_X10_addStep {l : Launch} {V : az_V} (hL : az_L V) (o : Nat) (ho : az_tx V o) (p0 : Int32) (p1 : Int32) (M : az_M) {r : az_M} (h : f_X10_addStep (az_z V) o p0 p1 M = some r) : az_Ct l V yX10_addStep cX10_addStep 3 none 1 [.ref (az_ad V o), .int p0, .int p1] M (fun v M' => v = none ∧ M' = r) :=
  az_Ct.of (by decide) (Nat.le_of_ble_eq_true rfl) (fun Y _ _ C => s_X10_addStep_e C o ho p0 p1 M r h ⟨rfl, rfl⟩)
