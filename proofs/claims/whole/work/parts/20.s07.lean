set_option maxHeartbeats 4000000 in
set_option maxRecDepth 100000 in
theorem s_X12_sumOf_24 {Y : az_Y} {V : az_V} {post : Option Value → az_M → Prop} (C : az_C Y V cX12_sumOf 2 RX12 (some .long) 4) (G : Nat)  (M : az_M) (r : (Int64 × az_M)) (h : f_X12_sumOf_24 G M = some r) (hp : post (some (.long r.1)) r.2) : AW Y V (az_end Y V post) 2 M 24 [] [] := by
  unfold f_X12_sumOf_24 at h
  refine az_lconst (v := 0) C dX12_sumOf_24 (by decide) ?_
  obtain rfl := Option.some.inj h
  exact az_lret C dX12_sumOf_25 hp
set_option maxHeartbeats 4000000 in
set_option maxRecDepth 100000 in
theorem s_X12_sumOf_e {Y : az_Y} {V : az_V} {post : Option Value → az_M → Prop} (C : az_C Y V cX12_sumOf 2 RX12 (some .long) 4) (G : Nat) (p0 : Int32) (M : az_M) (r : (Int64 × az_M)) (h : f_X12_sumOf G p0 M = some r) (hp : post (some (.long r.1)) r.2) : AW Y V (az_end Y V post) 2 M 0 [(0, .ref (az_ad V 40)), (1, .int p0)] [] := by
  have o40 := C.hL.at 40 (ci := 12) rfl
  have a69 := C.hL.ar 69 (t := 0) (len := 96) rfl
  unfold f_X12_sumOf at h
  refine az_aload_n C 0 dX12_sumOf_0 rfl ?_
  refine az_geti C o40 fl_X12_545 rfl dX12_sumOf_1 ?_
  refine az_if_ne C 24 dX12_sumOf_4 (by decide) (fun c1 => ?_) (fun c1 => ?_)
  · have h := az_f c1 h
    refine az_sub [] rfl ?_
    exact s_X12_sumOf_24 C G M r h hp
  · have h := az_t c1 h
    refine az_aload_n C 0 dX12_sumOf_7 rfl ?_
    refine az_getr (r := 69) C o40 fl_X12_140 rfl rfl dX12_sumOf_8 ?_
    refine az_iload_n C 1 dX12_sumOf_11 rfl ?_
    obtain ⟨g2, h⟩ := az_g h
    refine az_ild (k := p0.toNatClampNeg) C a69 g2 rfl dX12_sumOf_12 ?_
    refine az_aload_n C 0 dX12_sumOf_13 rfl ?_
    refine az_getr (r := 69) C o40 fl_X12_140 rfl rfl dX12_sumOf_14 ?_
    refine az_iload_n C 1 dX12_sumOf_17 rfl ?_
    refine az_iconst (v := 1) C dX12_sumOf_18 (by decide) ?_
    refine az_iadd C dX12_sumOf_19 ?_
    obtain ⟨g3, h⟩ := az_g h
    refine az_ild (k := (p0 + 1).toNatClampNeg) C a69 g3 rfl dX12_sumOf_20 ?_
    refine az_icmp_ne C 26 dX12_sumOf_21 (by decide) (fun c4 => ?_) (fun c4 => ?_)
    · have h := az_f c4 h
      refine az_aload_n C 0 dX12_sumOf_26 rfl ?_
      refine az_iconst (v := 1) C dX12_sumOf_27 (by decide) ?_
      refine az_puti C o40 fl_X12_345 rfl rfl rfl rfl dX12_sumOf_28 ?_
      refine az_aload_n C 0 dX12_sumOf_31 rfl ?_
      refine az_aload_n C 0 dX12_sumOf_32 rfl ?_
      refine az_getr (r := 69) C o40 fl_X12_140 rfl rfl dX12_sumOf_33 ?_
      refine az_iload_n C 1 dX12_sumOf_36 rfl ?_
      obtain ⟨g5, h⟩ := az_g h
      refine az_ild (k := p0.toNatClampNeg) C a69 g5 rfl dX12_sumOf_37 ?_
      refine az_aload_n C 0 dX12_sumOf_38 rfl ?_
      refine az_getr (r := 69) C o40 fl_X12_140 rfl rfl dX12_sumOf_39 ?_
      refine az_iload_n C 1 dX12_sumOf_42 rfl ?_
      refine az_iconst (v := 1) C dX12_sumOf_43 (by decide) ?_
      refine az_iadd C dX12_sumOf_44 ?_
      obtain ⟨g6, h⟩ := az_g h
      refine az_ild (k := (p0 + 1).toNatClampNeg) C a69 g6 rfl dX12_sumOf_45 ?_
      obtain ⟨q7, e8, h⟩ := az_b h
      refine az_cV (rest := []) (st2 := []) C [.int ((az_i M 40 20 1).1 69 p0.toNatClampNeg), .int ((az_i M 40 20 1).1 69 ((p0 + 1).toNatClampNeg))] (c_X12_reckonAll C.hL G ((az_i M 40 20 1).1 69 p0.toNatClampNeg) ((az_i M 40 20 1).1 69 ((p0 + 1).toNatClampNeg)) (az_i M 40 20 1) e8) (by decide) li_X12_432 o40 (by decide) rfl rfl (Nat.le_of_ble_eq_true rfl) dX12_sumOf_46 rfl ?_
      refine az_aload_n C 0 dX12_sumOf_49 rfl ?_
      refine az_iconst (v := 0) C dX12_sumOf_50 (by decide) ?_
      refine az_puti C o40 fl_X12_345 rfl rfl rfl rfl dX12_sumOf_51 ?_
      refine az_aload_n C 0 dX12_sumOf_54 rfl ?_
      refine az_aload_n C 0 dX12_sumOf_55 rfl ?_
      refine az_geti C o40 fl_X12_415 rfl dX12_sumOf_56 ?_
      obtain ⟨g9, h⟩ := az_g2 h
      refine az_puti C o40 fl_X12_545 rfl rfl (az_nz g9) (az_fz g9) dX12_sumOf_59 ?_
      refine az_aload_n C 0 dX12_sumOf_62 rfl ?_
      refine az_getl C o40 fl_X12_429 rfl dX12_sumOf_63 ?_
      obtain rfl := Option.some.inj h
      exact az_lret C dX12_sumOf_66 hp
    · have h := az_t c4 h
      refine az_sub [] rfl ?_
      exact s_X12_sumOf_24 C G M r h hp
theorem c_X12_sumOf {l : Launch} {V : az_V} (hL : az_L V) (G : Nat) (p0 : Int32) (M : az_M) {r : (Int64 × az_M)} (h : f_X12_sumOf G p0 M = some r) : az_Ct l V yX12_sumOf cX12_sumOf 2 (some .long) 4 [.ref (az_ad V 40), .int p0] M (fun v M' => v = some (.long r.1) ∧ M' = r.2) :=
  az_Ct.of (by decide) (Nat.le_of_ble_eq_true rfl) (fun Y _ _ C => s_X12_sumOf_e C G p0 M r h ⟨rfl, rfl⟩)
set_option maxHeartbeats 4000000 in
set_option maxRecDepth 100000 in
theorem s_X12_run_117 {Y : az_Y} {V : az_V} {post : Option Value → az_M → Prop} (C : az_C Y V cX12_run 5 RX12 (some .int) 10) (G : Nat)  (M : az_M) (r : (Int32 × az_M)) (h : f_X12_run_117 G M = some r) (hp : post (some (.int r.1)) r.2) : AW Y V (az_end Y V post) 5 M 117 [] [] := by
  unfold f_X12_run_117 at h
  refine az_iconst (v := 0) C dX12_run_117 (by decide) ?_
  obtain rfl := Option.some.inj h
  exact az_iret C dX12_run_118 hp
set_option maxHeartbeats 4000000 in
set_option maxRecDepth 100000 in
theorem s_X12_run_219 {Y : az_Y} {V : az_V} {post : Option Value → az_M → Prop} (C : az_C Y V cX12_run 5 RX12 (some .int) 10) (G : Nat) (s0 : Int32) (M : az_M) (r : (Int32 × az_M)) (h : f_X12_run_219 G s0 M = some r) (hp : post (some (.int r.1)) r.2) : AW Y V (az_end Y V post) 5 M 219 [(0, .ref (az_ad V 40))] [.int s0, .ref (az_ad V 40)] := by
  have o40 := C.hL.at 40 (ci := 12) rfl
  unfold f_X12_run_219 at h
  refine az_puti C o40 fl_X12_551 rfl rfl rfl rfl dX12_run_219 ?_
  refine az_aload_n C 0 dX12_run_222 rfl ?_
  refine az_dup C dX12_run_223 rfl ?_
  refine az_geti C o40 fl_X12_548 rfl dX12_run_224 ?_
  refine az_iconst (v := 1) C dX12_run_227 (by decide) ?_
  refine az_iadd C dX12_run_228 ?_
  refine az_puti C o40 fl_X12_548 rfl rfl rfl rfl dX12_run_229 ?_
  refine az_iconst (v := 0) C dX12_run_232 (by decide) ?_
  obtain rfl := Option.some.inj h
  exact az_iret C dX12_run_233 hp
set_option maxHeartbeats 4000000 in
set_option maxRecDepth 100000 in
theorem s_X12_run_189 {Y : az_Y} {V : az_V} {post : Option Value → az_M → Prop} (C : az_C Y V cX12_run 5 RX12 (some .int) 10) (G : Nat) (x1 : Int32) (s0 : Int32) (M : az_M) (r : (Int32 × az_M)) (h : f_X12_run_189 G x1 s0 M = some r) (hp : post (some (.int r.1)) r.2) : AW Y V (az_end Y V post) 5 M 189 [(0, .ref (az_ad V 40)), (1, .int x1)] [.int s0] := by
  have o40 := C.hL.at 40 (ci := 12) rfl
  have a69 := C.hL.ar 69 (t := 0) (len := 96) rfl
  unfold f_X12_run_189 at h
  refine az_istore C dX12_run_189 (by decide) rfl ?_
  refine az_iload C 0 dX12_run_191 rfl ?_
  refine az_if_ge C 199 dX12_run_193 (by decide) (fun c31 => ?_) (fun c31 => ?_)
  · have h := az_t c31 h
    refine az_aload_n C 1 dX12_run_199 rfl ?_
    refine az_aload_n C 1 dX12_run_200 rfl ?_
    refine az_getr (r := 69) C o40 fl_X12_140 rfl rfl dX12_run_201 ?_
    refine az_iload_n C 2 dX12_run_204 rfl ?_
    obtain ⟨g32, h⟩ := az_g h
    refine az_ild (k := x1.toNatClampNeg) C a69 g32 rfl dX12_run_205 ?_
    refine az_iconst (v := 1) C dX12_run_206 (by decide) ?_
    refine az_icmp_ne C 215 dX12_run_207 (by decide) (fun c33 => ?_) (fun c33 => ?_)
    · have h := az_f c33 h
      refine az_aload_n C 1 dX12_run_215 rfl ?_
      refine az_geti C o40 fl_X12_551 rfl dX12_run_216 ?_
      refine az_sub [1] rfl ?_
      exact s_X12_run_219 C G (M.1 40 54) M r h hp
    · have h := az_t c33 h
      refine az_iload C 0 dX12_run_210 rfl ?_
      refine az_goto C 219 dX12_run_212 (by decide) ?_
      refine az_sub [1] rfl ?_
      exact s_X12_run_219 C G s0 M r h hp
  · have h := az_f c31 h
    refine az_bipush (v := (-3)) C dX12_run_196 (by decide) ?_
    obtain rfl := Option.some.inj h
    exact az_iret C dX12_run_198 hp
set_option maxHeartbeats 4000000 in
set_option maxRecDepth 100000 in
theorem s_X12_run_119 {Y : az_Y} {V : az_V} {post : Option Value → az_M → Prop} (C : az_C Y V cX12_run 5 RX12 (some .int) 10) (G : Nat) (x1 : Int32) (M : az_M) (r : (Int32 × az_M)) (h : f_X12_run_119 G x1 M = some r) (hp : post (some (.int r.1)) r.2) : AW Y V (az_end Y V post) 5 M 119 [(0, .ref (az_ad V 40)), (1, .int x1)] [] := by
  have o40 := C.hL.at 40 (ci := 12) rfl
  have a69 := C.hL.ar 69 (t := 0) (len := 96) rfl
  unfold f_X12_run_119 at h
  refine az_aload_n C 0 dX12_run_119 rfl ?_
  refine az_iload_n C 1 dX12_run_120 rfl ?_
  refine az_iconst (v := 1) C dX12_run_121 (by decide) ?_
  refine az_iadd C dX12_run_122 ?_
  obtain ⟨q16, e17, h⟩ := az_b h
  refine az_cV (rest := []) (st2 := [.long q16.1]) C [.int (x1 + 1)] (c_X12_sumOf C.hL G (x1 + 1) M e17) (by decide) li_X12_554 o40 (by decide) rfl rfl (Nat.le_of_ble_eq_true rfl) dX12_run_123 rfl ?_
  refine az_l2i C dX12_run_126 ?_
  refine az_istore_n C dX12_run_127 rfl (by decide) rfl ?_
  refine az_aload_n C 1 dX12_run_128 rfl ?_
  refine az_iload_n C 2 dX12_run_129 rfl ?_
  refine az_iconst (v := 3) C dX12_run_130 (by decide) ?_
  refine az_iadd C dX12_run_131 ?_
  obtain ⟨q18, e19, h⟩ := az_b h
  refine az_cV (rest := []) (st2 := [.long q18.1]) C [.int (x1 + 3)] (c_X12_sumOf C.hL G (x1 + 3) q16.2 e19) (by decide) li_X12_554 o40 (by decide) rfl rfl (Nat.le_of_ble_eq_true rfl) dX12_run_132 rfl ?_
  refine az_l2i C dX12_run_135 ?_
  refine az_istore_n C dX12_run_136 rfl (by decide) rfl ?_
  refine az_aload_n C 2 dX12_run_137 rfl ?_
  refine az_geti C o40 fl_X12_545 rfl dX12_run_138 ?_
  refine az_if_eq C 147 dX12_run_141 (by decide) (fun c20 => ?_) (fun c20 => ?_)
  · have h := az_t c20 h
    refine az_aload_n C 2 dX12_run_147 rfl ?_
    refine az_getr (r := 69) C o40 fl_X12_140 rfl rfl dX12_run_148 ?_
    refine az_iload_n C 3 dX12_run_151 rfl ?_
    obtain ⟨g21, h⟩ := az_g h
    refine az_ild (k := x1.toNatClampNeg) C a69 g21 rfl dX12_run_152 ?_
    refine az_if_ne C 165 dX12_run_153 (by decide) (fun c22 => ?_) (fun c22 => ?_)
    · have h := az_f c22 h
      refine az_aload_n C 2 dX12_run_165 rfl ?_
      refine az_getr (r := 69) C o40 fl_X12_140 rfl rfl dX12_run_166 ?_
      refine az_iload_n C 3 dX12_run_169 rfl ?_
      obtain ⟨g23, h⟩ := az_g h
      refine az_ild (k := x1.toNatClampNeg) C a69 g23 rfl dX12_run_170 ?_
      refine az_iconst (v := 1) C dX12_run_171 (by decide) ?_
      refine az_icmp_ne C 184 dX12_run_172 (by decide) (fun c24 => ?_) (fun c24 => ?_)
      · have h := az_f c24 h
        refine az_aload_n C 2 dX12_run_184 rfl ?_
        refine az_iload_n C 1 dX12_run_185 rfl ?_
        obtain ⟨q25, e26, h⟩ := az_b h
        refine az_cV (rest := []) (st2 := [.int q25.1]) C [.int q16.1.toInt32] (c_X12_restNow C.hL G q16.1.toInt32 q18.2 e26) (by decide) li_X12_487 o40 (by decide) rfl rfl (Nat.le_of_ble_eq_true rfl) dX12_run_186 rfl ?_
        refine az_sub [2, 3] rfl ?_
        exact s_X12_run_189 C G x1 q25.1 q25.2 r h hp
      · have h := az_t c24 h
        refine az_aload_n C 2 dX12_run_175 rfl ?_
        refine az_iload_n C 1 dX12_run_176 rfl ?_
        refine az_iload_n C 0 dX12_run_177 rfl ?_
        obtain ⟨q27, e28, h⟩ := az_b h
        refine az_cV (rest := []) (st2 := [.int q27.1]) C [.int q16.1.toInt32, .int q18.1.toInt32] (c_X12_duelNow C.hL G q16.1.toInt32 q18.1.toInt32 q18.2 e28) (by decide) li_X12_484 o40 (by decide) rfl rfl (Nat.le_of_ble_eq_true rfl) dX12_run_178 rfl ?_
        refine az_goto C 189 dX12_run_181 (by decide) ?_
        refine az_sub [2, 3] rfl ?_
        exact s_X12_run_189 C G x1 q27.1 q27.2 r h hp
    · have h := az_t c22 h
      refine az_aload_n C 2 dX12_run_156 rfl ?_
      refine az_iload_n C 1 dX12_run_157 rfl ?_
      refine az_iload_n C 0 dX12_run_158 rfl ?_
      obtain ⟨q29, e30, h⟩ := az_b h
      refine az_cV (rest := []) (st2 := [.int q29.1]) C [.int q16.1.toInt32, .int q18.1.toInt32] (c_X12_fireNow C.hL G q16.1.toInt32 q18.1.toInt32 q18.2 e30) (by decide) li_X12_463 o40 (by decide) rfl rfl (Nat.le_of_ble_eq_true rfl) dX12_run_159 rfl ?_
      refine az_goto C 189 dX12_run_162 (by decide) ?_
      refine az_sub [2, 3] rfl ?_
      exact s_X12_run_189 C G x1 q29.1 q29.2 r h hp
  · have h := az_f c20 h
    refine az_bipush (v := (-3)) C dX12_run_144 (by decide) ?_
    obtain rfl := Option.some.inj h
    exact az_iret C dX12_run_146 hp
set_option maxHeartbeats 4000000 in
set_option maxRecDepth 100000 in
theorem s_X12_run_e {Y : az_Y} {V : az_V} {post : Option Value → az_M → Prop} (C : az_C Y V cX12_run 5 RX12 (some .int) 10) (G : Nat) (p0 : Int32) (M : az_M) (r : (Int32 × az_M)) (h : f_X12_run G p0 M = some r) (hp : post (some (.int r.1)) r.2) : AW Y V (az_end Y V post) 5 M 0 [(0, .ref (az_ad V 40)), (1, .int p0)] [] := by
  have o40 := C.hL.at 40 (ci := 12) rfl
  have a59 := C.hL.ar 59 (t := 1) (len := 13) rfl
  have a69 := C.hL.ar 69 (t := 0) (len := 96) rfl
  unfold f_X12_run at h
  refine az_aload_n C 0 dX12_run_0 rfl ?_
  refine az_getr (r := 59) C o40 fl_X12_110 rfl rfl dX12_run_1 ?_
  refine az_iconst (v := 1) C dX12_run_4 (by decide) ?_
  refine az_aload_n C 0 dX12_run_5 rfl ?_
  refine az_iconst (v := 0) C dX12_run_6 (by decide) ?_
  obtain ⟨q1, e2, h⟩ := az_b h
  refine az_cV (rest := [.int 1, .ref (az_ad V 59)]) (st2 := [.int q1, .int 1, .ref (az_ad V 59)]) C [.int 0] (c_X12_term C.hL 0 M e2) (by decide) li_X12_189 o40 (by decide) rfl rfl (Nat.le_of_ble_eq_true rfl) dX12_run_7 rfl ?_
  refine az_i2l C dX12_run_10 ?_
  refine az_lst (k := 1) C a59 (az_vin (by decide)) (by decide) dX12_run_11 ?_
  refine az_aload_n C 0 dX12_run_12 rfl ?_
  refine az_getr (r := 59) C o40 fl_X12_110 rfl rfl dX12_run_13 ?_
  refine az_iconst (v := 2) C dX12_run_16 (by decide) ?_
  refine az_aload_n C 0 dX12_run_17 rfl ?_
  refine az_iconst (v := 0) C dX12_run_18 (by decide) ?_
  obtain ⟨q3, e4, h⟩ := az_b h
  refine az_cV (rest := [.int 2, .ref (az_ad V 59)]) (st2 := [.int q3, .int 2, .ref (az_ad V 59)]) C [.int 0] (c_X12_bulletOf C.hL 0 (az_l M 59 1 q1.toInt64) e4) (by decide) li_X12_186 o40 (by decide) rfl rfl (Nat.le_of_ble_eq_true rfl) dX12_run_19 rfl ?_
  refine az_i2l C dX12_run_22 ?_
  refine az_lst (k := 2) C a59 (az_vin (by decide)) (by decide) dX12_run_23 ?_
  refine az_aload_n C 0 dX12_run_24 rfl ?_
  refine az_getr (r := 59) C o40 fl_X12_110 rfl rfl dX12_run_25 ?_
  refine az_iconst (v := 3) C dX12_run_28 (by decide) ?_
  refine az_aload_n C 0 dX12_run_29 rfl ?_
  refine az_iconst (v := 1) C dX12_run_30 (by decide) ?_
  obtain ⟨q5, e6, h⟩ := az_b h
  refine az_cV (rest := [.int 3, .ref (az_ad V 59)]) (st2 := [.int q5, .int 3, .ref (az_ad V 59)]) C [.int 1] (c_X12_bulletOf C.hL 1 (az_l (az_l M 59 1 q1.toInt64) 59 2 q3.toInt64) e6) (by decide) li_X12_186 o40 (by decide) rfl rfl (Nat.le_of_ble_eq_true rfl) dX12_run_31 rfl ?_
  refine az_i2l C dX12_run_34 ?_
  refine az_lst (k := 3) C a59 (az_vin (by decide)) (by decide) dX12_run_35 ?_
  refine az_aload_n C 0 dX12_run_36 rfl ?_
  refine az_getr (r := 59) C o40 fl_X12_110 rfl rfl dX12_run_37 ?_
  refine az_iconst (v := 4) C dX12_run_40 (by decide) ?_
  refine az_aload_n C 0 dX12_run_41 rfl ?_
  refine az_iconst (v := 2) C dX12_run_42 (by decide) ?_
  obtain ⟨q7, e8, h⟩ := az_b h
  refine az_cV (rest := [.int 4, .ref (az_ad V 59)]) (st2 := [.int q7, .int 4, .ref (az_ad V 59)]) C [.int 2] (c_X12_bulletOf C.hL 2 (az_l (az_l (az_l M 59 1 q1.toInt64) 59 2 q3.toInt64) 59 3 q5.toInt64) e8) (by decide) li_X12_186 o40 (by decide) rfl rfl (Nat.le_of_ble_eq_true rfl) dX12_run_43 rfl ?_
  refine az_i2l C dX12_run_46 ?_
  refine az_lst (k := 4) C a59 (az_vin (by decide)) (by decide) dX12_run_47 ?_
  refine az_aload_n C 0 dX12_run_48 rfl ?_
  refine az_getr (r := 59) C o40 fl_X12_110 rfl rfl dX12_run_49 ?_
  refine az_iconst (v := 5) C dX12_run_52 (by decide) ?_
  refine az_aload_n C 0 dX12_run_53 rfl ?_
  refine az_geti C o40 fl_X12_548 rfl dX12_run_54 ?_
  refine az_i2l C dX12_run_57 ?_
  refine az_lst (k := 5) C a59 (az_vin (by decide)) (by decide) dX12_run_58 ?_
  refine az_aload_n C 0 dX12_run_59 rfl ?_
  refine az_getr (r := 59) C o40 fl_X12_110 rfl rfl dX12_run_60 ?_
  refine az_bipush (v := 6) C dX12_run_63 (by decide) ?_
  refine az_aload_n C 0 dX12_run_65 rfl ?_
  refine az_geti C o40 fl_X12_551 rfl dX12_run_66 ?_
  refine az_i2l C dX12_run_69 ?_
  refine az_lst (k := 6) C a59 (az_vin (by decide)) (by decide) dX12_run_70 ?_
  refine az_aload_n C 0 dX12_run_71 rfl ?_
  refine az_iconst (v := 0) C dX12_run_72 (by decide) ?_
  refine az_puti C o40 fl_X12_545 rfl rfl rfl rfl dX12_run_73 ?_
  refine az_aload_n C 0 dX12_run_76 rfl ?_
  refine az_getr (r := 69) C o40 fl_X12_140 rfl rfl dX12_run_77 ?_
  refine az_iload_n C 1 dX12_run_80 rfl ?_
  refine az_iconst (v := 5) C dX12_run_81 (by decide) ?_
  refine az_iadd C dX12_run_82 ?_
  obtain ⟨g9, h⟩ := az_g h
  refine az_ild (k := (p0 + 5).toNatClampNeg) C a69 g9 rfl dX12_run_83 ?_
  refine az_aload_n C 0 dX12_run_84 rfl ?_
  refine az_getr (r := 69) C o40 fl_X12_140 rfl rfl dX12_run_85 ?_
  refine az_iload_n C 1 dX12_run_88 rfl ?_
  refine az_bipush (v := 6) C dX12_run_89 (by decide) ?_
  refine az_iadd C dX12_run_91 ?_
  obtain ⟨g10, h⟩ := az_g h
  refine az_ild (k := (p0 + 6).toNatClampNeg) C a69 g10 rfl dX12_run_92 ?_
  refine az_icmp_ge C 119 dX12_run_93 (by decide) (fun c11 => ?_) (fun c11 => ?_)
  · have h := az_t c11 h
    exact s_X12_run_119 C G p0 (az_i (az_l (az_l (az_l (az_l (az_l (az_l M 59 1 q1.toInt64) 59 2 q3.toInt64) 59 3 q5.toInt64) 59 4 q7.toInt64) 59 5 (((az_l (az_l (az_l (az_l M 59 1 q1.toInt64) 59 2 q3.toInt64) 59 3 q5.toInt64) 59 4 q7.toInt64).1 40 53).toInt64)) 59 6 (((az_l (az_l (az_l (az_l (az_l M 59 1 q1.toInt64) 59 2 q3.toInt64) 59 3 q5.toInt64) 59 4 q7.toInt64) 59 5 (((az_l (az_l (az_l (az_l M 59 1 q1.toInt64) 59 2 q3.toInt64) 59 3 q5.toInt64) 59 4 q7.toInt64).1 40 53).toInt64)).1 40 54).toInt64)) 40 56 0) r h hp
  · have h := az_f c11 h
    refine az_aload_n C 0 dX12_run_96 rfl ?_
    refine az_iload_n C 1 dX12_run_97 rfl ?_
    refine az_iconst (v := 5) C dX12_run_98 (by decide) ?_
    refine az_iadd C dX12_run_99 ?_
    obtain ⟨q12, e13, h⟩ := az_b h
    refine az_cV (rest := []) (st2 := [.long q12.1]) C [.int (p0 + 5)] (c_X12_sumOf C.hL G (p0 + 5) (az_i (az_l (az_l (az_l (az_l (az_l (az_l M 59 1 q1.toInt64) 59 2 q3.toInt64) 59 3 q5.toInt64) 59 4 q7.toInt64) 59 5 (((az_l (az_l (az_l (az_l M 59 1 q1.toInt64) 59 2 q3.toInt64) 59 3 q5.toInt64) 59 4 q7.toInt64).1 40 53).toInt64)) 59 6 (((az_l (az_l (az_l (az_l (az_l M 59 1 q1.toInt64) 59 2 q3.toInt64) 59 3 q5.toInt64) 59 4 q7.toInt64) 59 5 (((az_l (az_l (az_l (az_l M 59 1 q1.toInt64) 59 2 q3.toInt64) 59 3 q5.toInt64) 59 4 q7.toInt64).1 40 53).toInt64)).1 40 54).toInt64)) 40 56 0) e13) (by decide) li_X12_554 o40 (by decide) rfl rfl (Nat.le_of_ble_eq_true rfl) dX12_run_100 rfl ?_
    refine az_lstore_n C dX12_run_103 rfl (by decide) rfl ?_
    refine az_aload_n C 1 dX12_run_104 rfl ?_
    refine az_geti C o40 fl_X12_545 rfl dX12_run_105 ?_
    refine az_if_ne C 117 dX12_run_108 (by decide) (fun c14 => ?_) (fun c14 => ?_)
    · have h := az_f c14 h
      refine az_sub [] rfl ?_
      exact s_X12_run_117 C G q12.2 r h hp
    · have h := az_t c14 h
      refine az_lload_n C 0 dX12_run_111 rfl ?_
      refine az_lconst (v := 0) C dX12_run_112 (by decide) ?_
      refine az_lcmp C dX12_run_113 ?_
      refine az_if_ne C 119 dX12_run_114 (by decide) (fun c15 => ?_) (fun c15 => ?_)
      · have h := az_f (fun z => c15 (az_c_eq.mpr z)) h
        refine az_sub [1, 2] rfl ?_
        exact s_X12_run_119 C G p0 q12.2 r h hp
      · have h := az_t (az_c_eq.mp c15) h
        refine az_sub [] rfl ?_
        exact s_X12_run_117 C G q12.2 r h hp
theorem c_X12_run {l : Launch} {V : az_V} (hL : az_L V) (G : Nat) (p0 : Int32) (M : az_M) {r : (Int32 × az_M)} (h : f_X12_run G p0 M = some r) : az_Ct l V yX12_run cX12_run 5 (some .int) 10 [.ref (az_ad V 40), .int p0] M (fun v M' => v = some (.int r.1) ∧ M' = r.2) :=
  az_Ct.of (by decide) (Nat.le_of_ble_eq_true rfl) (fun Y _ _ C => s_X12_run_e C G p0 M r h ⟨rfl, rfl⟩)
set_option maxHeartbeats 4000000 in
set_option maxRecDepth 100000 in
theorem s_X12_giveBack_35 {Y : az_Y} {V : az_V} {post : Option Value → az_M → Prop} (C : az_C Y V cX12_giveBack 3 RX12 none 2) (G : Nat) : ∀ (F : Nat) (x1 : Int32) (x2 : Int32) (M : az_M) (r : az_M), f_X12_giveBack_35 G F x1 x2 M = some r → post none r → AW Y V (az_end Y V post) 3 M 35 [(0, .ref (az_ad V 40)), (1, .int x1), (2, .int x2)] [] := by
  have o40 := C.hL.at 40 (ci := 12) rfl
  have a46 := C.hL.ar 46 (t := 0) (len := 16) rfl
  have a48 := C.hL.ar 48 (t := 0) (len := 16) rfl
  intro F
  induction F with
  | zero =>
    intro x1 x2 M r h
    exact absurd (show (none : Option az_M) = some r from h) (fun q => by cases q)
  | succ F ih =>
    intro x1 x2 M r h hp
    rw [f_X12_giveBack_35] at h
    refine az_iload_n C 2 dX12_giveBack_35 rfl ?_
    refine az_bipush (v := 16) C dX12_giveBack_36 (by decide) ?_
    refine az_icmp_ge C 59 dX12_giveBack_38 (by decide) (fun c6 => ?_) (fun c6 => ?_)
    · have h := az_t c6 h
      refine az_aload_n C 0 dX12_giveBack_59 rfl ?_
      refine az_iload_n C 1 dX12_giveBack_60 rfl ?_
      refine az_puti C o40 fl_X12_155 rfl rfl rfl rfl dX12_giveBack_61 ?_
      obtain rfl := Option.some.inj h
      exact az_vret C rfl dX12_giveBack_64 hp
    · have h := az_f c6 h
      refine az_aload_n C 0 dX12_giveBack_41 rfl ?_
      refine az_getr (r := 46) C o40 fl_X12_26 rfl rfl dX12_giveBack_42 ?_
      refine az_iload_n C 2 dX12_giveBack_45 rfl ?_
      refine az_aload_n C 0 dX12_giveBack_46 rfl ?_
      refine az_getr (r := 48) C o40 fl_X12_32 rfl rfl dX12_giveBack_47 ?_
      refine az_iload_n C 2 dX12_giveBack_50 rfl ?_
      obtain ⟨g7, h⟩ := az_g h
      refine az_ild (k := x2.toNatClampNeg) C a48 g7 rfl dX12_giveBack_51 ?_
      obtain ⟨g8, h⟩ := az_g h
      refine az_ist (k := x2.toNatClampNeg) C a46 g8 rfl dX12_giveBack_52 ?_
      refine az_iinc (v := (x2 + 1)) C 2 dX12_giveBack_53 rfl rfl (by decide) rfl ?_
      refine az_goto C 35 dX12_giveBack_56 (by decide) ?_
      refine az_sub [1, 2, 0] rfl ?_
      exact ih x1 (x2 + 1) (az_i M 46 x2.toNatClampNeg (M.1 48 x2.toNatClampNeg)) r h hp
set_option maxHeartbeats 4000000 in
set_option maxRecDepth 100000 in
theorem s_X12_giveBack_8 {Y : az_Y} {V : az_V} {post : Option Value → az_M → Prop} (C : az_C Y V cX12_giveBack 3 RX12 none 2) (G : Nat) : ∀ (F : Nat) (x1 : Int32) (x2 : Int32) (M : az_M) (r : az_M), f_X12_giveBack_8 G F x1 x2 M = some r → post none r → AW Y V (az_end Y V post) 3 M 8 [(0, .ref (az_ad V 40)), (1, .int x1), (2, .int x2)] [] := by
  have o40 := C.hL.at 40 (ci := 12) rfl
  have a45 := C.hL.ar 45 (t := 0) (len := 3150) rfl
  have a47 := C.hL.ar 47 (t := 0) (len := 2400) rfl
  intro F
  induction F with
  | zero =>
    intro x1 x2 M r h
    exact absurd (show (none : Option az_M) = some r from h) (fun q => by cases q)
  | succ F ih =>
    intro x1 x2 M r h hp
    rw [f_X12_giveBack_8] at h
    refine az_iload_n C 2 dX12_giveBack_8 rfl ?_
    refine az_sipush (v := 2400) C dX12_giveBack_9 (by decide) ?_
    refine az_icmp_ge C 33 dX12_giveBack_12 (by decide) (fun c3 => ?_) (fun c3 => ?_)
    · have h := az_t c3 h
      refine az_iconst (v := 0) C dX12_giveBack_33 (by decide) ?_
      refine az_istore_n C dX12_giveBack_34 rfl (by decide) rfl ?_
      refine az_sub [1, 2, 0] rfl ?_
      exact s_X12_giveBack_35 C G G x1 0 M r h hp
    · have h := az_f c3 h
      refine az_aload_n C 0 dX12_giveBack_15 rfl ?_
      refine az_getr (r := 45) C o40 fl_X12_23 rfl rfl dX12_giveBack_16 ?_
      refine az_iload_n C 2 dX12_giveBack_19 rfl ?_
      refine az_aload_n C 0 dX12_giveBack_20 rfl ?_
      refine az_getr (r := 47) C o40 fl_X12_29 rfl rfl dX12_giveBack_21 ?_
      refine az_iload_n C 2 dX12_giveBack_24 rfl ?_
      obtain ⟨g4, h⟩ := az_g h
      refine az_ild (k := x2.toNatClampNeg) C a47 g4 rfl dX12_giveBack_25 ?_
      obtain ⟨g5, h⟩ := az_g h
      refine az_ist (k := x2.toNatClampNeg) C a45 g5 rfl dX12_giveBack_26 ?_
      refine az_iinc (v := (x2 + 1)) C 2 dX12_giveBack_27 rfl rfl (by decide) rfl ?_
      refine az_goto C 8 dX12_giveBack_30 (by decide) ?_
      refine az_sub [1, 2, 0] rfl ?_
      exact ih x1 (x2 + 1) (az_i M 45 x2.toNatClampNeg (M.1 47 x2.toNatClampNeg)) r h hp
set_option maxHeartbeats 4000000 in
set_option maxRecDepth 100000 in
theorem s_X12_giveBack_e {Y : az_Y} {V : az_V} {post : Option Value → az_M → Prop} (C : az_C Y V cX12_giveBack 3 RX12 none 2) (G : Nat) (p0 : Int32) (M : az_M) (r : az_M) (h : f_X12_giveBack G p0 M = some r) (hp : post none r) : AW Y V (az_end Y V post) 3 M 0 [(0, .ref (az_ad V 40)), (1, .int p0)] [] := by
  have o40 := C.hL.at 40 (ci := 12) rfl
  unfold f_X12_giveBack at h
  refine az_aload_n C 0 dX12_giveBack_0 rfl ?_
  refine az_bipush (v := 20) C dX12_giveBack_1 (by decide) ?_
  obtain ⟨q1, e2, h⟩ := az_b h
  refine az_cV (rest := []) (st2 := []) C [.int 20] (c_X12_putBack C.hL G 20 M e2) (by decide) li_X12_166 o40 (by decide) rfl rfl (Nat.le_of_ble_eq_true rfl) dX12_giveBack_3 rfl ?_
  refine az_iconst (v := 0) C dX12_giveBack_6 (by decide) ?_
  refine az_istore_n C dX12_giveBack_7 rfl (by decide) rfl ?_
  refine az_sub [1, 2, 0] rfl ?_
  exact s_X12_giveBack_8 C G G p0 0 q1 r h hp
theorem c_X12_giveBack {l : Launch} {V : az_V} (hL : az_L V) (G : Nat) (p0 : Int32) (M : az_M) {r : az_M} (h : f_X12_giveBack G p0 M = some r) : az_Ct l V yX12_giveBack cX12_giveBack 3 none 2 [.ref (az_ad V 40), .int p0] M (fun v M' => v = none ∧ M' = r) :=
  az_Ct.of (by decide) (Nat.le_of_ble_eq_true rfl) (fun Y _ _ C => s_X12_giveBack_e C G p0 M r h ⟨rfl, rfl⟩)
set_option maxHeartbeats 4000000 in
set_option maxRecDepth 100000 in
theorem s_X12_orders_150 {Y : az_Y} {V : az_V} {post : Option Value → az_M → Prop} (C : az_C Y V cX12_orders 4 RX12 (some .int) 11) (G : Nat) (K140 : (Int32 → Int32 → az_M → Option (Int32 × az_M))) (hK140 : ∀ (x1 : Int32) (x2 : Int32) (M : az_M) (r : (Int32 × az_M)), K140 x1 x2 M = some r → post (some (.int r.1)) r.2 → AW Y V (az_end Y V post) 4 M 140 [(0, .ref (az_ad V 40)), (1, .int x1), (2, .int x2)] []) : ∀ (F : Nat) (x1 : Int32) (x2 : Int32) (x3 : Int32) (M : az_M) (r : (Int32 × az_M)), f_X12_orders_150 G K140 F x1 x2 x3 M = some r → post (some (.int r.1)) r.2 → AW Y V (az_end Y V post) 4 M 150 [(0, .ref (az_ad V 40)), (1, .int x1), (2, .int x2), (3, .int x3)] [] := by
  have o40 := C.hL.at 40 (ci := 12) rfl
  have a69 := C.hL.ar 69 (t := 0) (len := 96) rfl
  intro F
  induction F with
  | zero =>
    intro x1 x2 x3 M r h
    exact absurd (show (none : Option (Int32 × az_M)) = some r from h) (fun q => by cases q)
  | succ F ih =>
    intro x1 x2 x3 M r h hp
    rw [f_X12_orders_150] at h
    refine az_iload_n C 3 dX12_orders_150 rfl ?_
    refine az_aload_n C 0 dX12_orders_151 rfl ?_
    refine az_getr (r := 69) C o40 fl_X12_140 rfl rfl dX12_orders_152 ?_
    refine az_bipush (v := 8) C dX12_orders_155 (by decide) ?_
    refine az_iload_n C 2 dX12_orders_157 rfl ?_
    refine az_imul C dX12_orders_158 ?_
    refine az_bipush (v := 7) C dX12_orders_159 (by decide) ?_
    refine az_iadd C dX12_orders_161 ?_
    obtain ⟨g29, h⟩ := az_g h
    refine az_ild (k := ((8 * x2) + 7).toNatClampNeg) C a69 g29 rfl dX12_orders_162 ?_
    refine az_icmp_ge C 200 dX12_orders_163 (by decide) (fun c30 => ?_) (fun c30 => ?_)
    · have h := az_t c30 h
      refine az_iinc (v := (x2 + 1)) C 2 dX12_orders_200 rfl rfl (by decide) rfl ?_
      refine az_goto C 140 dX12_orders_203 (by decide) ?_
      refine az_sub [1, 2, 0] rfl ?_
      exact hK140 x1 (x2 + 1) M r h hp
    · have h := az_f c30 h
      refine az_aload_n C 0 dX12_orders_166 rfl ?_
      refine az_bipush (v := 8) C dX12_orders_167 (by decide) ?_
      refine az_iload_n C 2 dX12_orders_169 rfl ?_
      refine az_imul C dX12_orders_170 ?_
      obtain ⟨q31, e32, h⟩ := az_b h
      refine az_cV (rest := []) (st2 := [.int q31.1]) C [.int (8 * x2)] (c_X12_run C.hL G (8 * x2) M e32) (by decide) li_X12_561 o40 (by decide) rfl rfl (Nat.le_of_ble_eq_true rfl) dX12_orders_171 rfl ?_
      refine az_if_ge C 194 dX12_orders_174 (by decide) (fun c33 => ?_) (fun c33 => ?_)
      · have h := az_t c33 h
        refine az_iinc (v := (x3 + 1)) C 3 dX12_orders_194 rfl rfl (by decide) rfl ?_
        refine az_goto C 150 dX12_orders_197 (by decide) ?_
        refine az_sub [1, 2, 3, 0] rfl ?_
        exact ih x1 x2 (x3 + 1) q31.2 r h hp
      · have h := az_f c33 h
        refine az_aload_n C 0 dX12_orders_177 rfl ?_
        refine az_iload_n C 1 dX12_orders_178 rfl ?_
        obtain ⟨q34, e35, h⟩ := az_b h
        refine az_cV (rest := []) (st2 := []) C [.int x1] (c_X12_giveBack C.hL G x1 q31.2 e35) (by decide) li_X12_564 o40 (by decide) rfl rfl (Nat.le_of_ble_eq_true rfl) dX12_orders_179 rfl ?_
        refine az_aload_n C 0 dX12_orders_182 rfl ?_
        refine az_iload_n C 2 dX12_orders_183 rfl ?_
        refine az_puti C o40 fl_X12_143 rfl rfl rfl rfl dX12_orders_184 ?_
        refine az_aload_n C 0 dX12_orders_187 rfl ?_
        refine az_bipush (v := (-3)) C dX12_orders_188 (by decide) ?_
        obtain ⟨q36, e37, h⟩ := az_b h
        refine az_cV (rest := []) (st2 := [.int q36.1]) C [.int (-3)] (c_X12_tell C.hL (-3) (az_i q34 40 55 x2) e37) (by decide) li_X12_158 o40 (by decide) rfl rfl (Nat.le_of_ble_eq_true rfl) dX12_orders_190 rfl ?_
        obtain rfl := Option.some.inj h
        exact az_iret C dX12_orders_193 hp
set_option maxHeartbeats 4000000 in
set_option maxRecDepth 100000 in
theorem s_X12_orders_140 {Y : az_Y} {V : az_V} {post : Option Value → az_M → Prop} (C : az_C Y V cX12_orders 4 RX12 (some .int) 11) (G : Nat) : ∀ (F : Nat) (x1 : Int32) (x2 : Int32) (M : az_M) (r : (Int32 × az_M)), f_X12_orders_140 G F x1 x2 M = some r → post (some (.int r.1)) r.2 → AW Y V (az_end Y V post) 4 M 140 [(0, .ref (az_ad V 40)), (1, .int x1), (2, .int x2)] [] := by
  have o40 := C.hL.at 40 (ci := 12) rfl
  intro F
  induction F with
  | zero =>
    intro x1 x2 M r h
    exact absurd (show (none : Option (Int32 × az_M)) = some r from h) (fun q => by cases q)
  | succ F ih =>
    intro x1 x2 M r h hp
    rw [f_X12_orders_140] at h
    refine az_iload_n C 2 dX12_orders_140 rfl ?_
    refine az_aload_n C 0 dX12_orders_141 rfl ?_
    refine az_geti C o40 fl_X12_398 rfl dX12_orders_142 ?_
    refine az_icmp_ge C 206 dX12_orders_145 (by decide) (fun c26 => ?_) (fun c26 => ?_)
    · have h := az_t c26 h
      refine az_aload_n C 0 dX12_orders_206 rfl ?_
      refine az_aload_n C 0 dX12_orders_207 rfl ?_
      refine az_geti C o40 fl_X12_548 rfl dX12_orders_208 ?_
      obtain ⟨q27, e28, h⟩ := az_b h
      refine az_cV (rest := []) (st2 := [.int q27.1]) C [.int (M.1 40 53)] (c_X12_tell C.hL (M.1 40 53) M e28) (by decide) li_X12_158 o40 (by decide) rfl rfl (Nat.le_of_ble_eq_true rfl) dX12_orders_211 rfl ?_
      obtain rfl := Option.some.inj h
      exact az_iret C dX12_orders_214 hp
    · have h := az_f c26 h
      refine az_iconst (v := 0) C dX12_orders_148 (by decide) ?_
      refine az_istore_n C dX12_orders_149 rfl (by decide) rfl ?_
      refine az_sub [1, 2, 3, 0] rfl ?_
      exact s_X12_orders_150 C G (f_X12_orders_140 G F) ih G x1 x2 0 M r h hp
set_option maxHeartbeats 4000000 in
set_option maxRecDepth 100000 in
theorem s_X12_orders_104 {Y : az_Y} {V : az_V} {post : Option Value → az_M → Prop} (C : az_C Y V cX12_orders 4 RX12 (some .int) 11) (G : Nat) : ∀ (F : Nat) (x1 : Int32) (x2 : Int32) (M : az_M) (r : (Int32 × az_M)), f_X12_orders_104 G F x1 x2 M = some r → post (some (.int r.1)) r.2 → AW Y V (az_end Y V post) 4 M 104 [(0, .ref (az_ad V 40)), (1, .int x1), (2, .int x2)] [] := by
  have o40 := C.hL.at 40 (ci := 12) rfl
  have a46 := C.hL.ar 46 (t := 0) (len := 16) rfl
  have a48 := C.hL.ar 48 (t := 0) (len := 16) rfl
  intro F
  induction F with
  | zero =>
    intro x1 x2 M r h
    exact absurd (show (none : Option (Int32 × az_M)) = some r from h) (fun q => by cases q)
  | succ F ih =>
    intro x1 x2 M r h hp
    rw [f_X12_orders_104] at h
    refine az_iload_n C 2 dX12_orders_104 rfl ?_
    refine az_bipush (v := 16) C dX12_orders_105 (by decide) ?_
    refine az_icmp_ge C 128 dX12_orders_107 (by decide) (fun c23 => ?_) (fun c23 => ?_)
    · have h := az_t c23 h
      refine az_aload_n C 0 dX12_orders_128 rfl ?_
      refine az_iconst (v := 0) C dX12_orders_129 (by decide) ?_
      refine az_puti C o40 fl_X12_548 rfl rfl rfl rfl dX12_orders_130 ?_
      refine az_aload_n C 0 dX12_orders_133 rfl ?_
      refine az_iconst (v := (-1)) C dX12_orders_134 (by decide) ?_
      refine az_puti C o40 fl_X12_551 rfl rfl rfl rfl dX12_orders_135 ?_
      refine az_iconst (v := 0) C dX12_orders_138 (by decide) ?_
      refine az_istore_n C dX12_orders_139 rfl (by decide) rfl ?_
      refine az_sub [1, 2, 0] rfl ?_
      exact s_X12_orders_140 C G G x1 0 (az_i (az_i M 40 53 0) 40 54 (-1)) r h hp
    · have h := az_f c23 h
      refine az_aload_n C 0 dX12_orders_110 rfl ?_
      refine az_getr (r := 48) C o40 fl_X12_32 rfl rfl dX12_orders_111 ?_
      refine az_iload_n C 2 dX12_orders_114 rfl ?_
      refine az_aload_n C 0 dX12_orders_115 rfl ?_
      refine az_getr (r := 46) C o40 fl_X12_26 rfl rfl dX12_orders_116 ?_
      refine az_iload_n C 2 dX12_orders_119 rfl ?_
      obtain ⟨g24, h⟩ := az_g h
      refine az_ild (k := x2.toNatClampNeg) C a46 g24 rfl dX12_orders_120 ?_
      obtain ⟨g25, h⟩ := az_g h
      refine az_ist (k := x2.toNatClampNeg) C a48 g25 rfl dX12_orders_121 ?_
      refine az_iinc (v := (x2 + 1)) C 2 dX12_orders_122 rfl rfl (by decide) rfl ?_
      refine az_goto C 104 dX12_orders_125 (by decide) ?_
      refine az_sub [1, 2, 0] rfl ?_
      exact ih x1 (x2 + 1) (az_i M 48 x2.toNatClampNeg (M.1 46 x2.toNatClampNeg)) r h hp
set_option maxHeartbeats 4000000 in
set_option maxRecDepth 100000 in
theorem s_X12_orders_77 {Y : az_Y} {V : az_V} {post : Option Value → az_M → Prop} (C : az_C Y V cX12_orders 4 RX12 (some .int) 11) (G : Nat) : ∀ (F : Nat) (x1 : Int32) (x2 : Int32) (M : az_M) (r : (Int32 × az_M)), f_X12_orders_77 G F x1 x2 M = some r → post (some (.int r.1)) r.2 → AW Y V (az_end Y V post) 4 M 77 [(0, .ref (az_ad V 40)), (1, .int x1), (2, .int x2)] [] := by
  have o40 := C.hL.at 40 (ci := 12) rfl
  have a45 := C.hL.ar 45 (t := 0) (len := 3150) rfl
  have a47 := C.hL.ar 47 (t := 0) (len := 2400) rfl
  intro F
  induction F with
  | zero =>
    intro x1 x2 M r h
    exact absurd (show (none : Option (Int32 × az_M)) = some r from h) (fun q => by cases q)
  | succ F ih =>
    intro x1 x2 M r h hp
    rw [f_X12_orders_77] at h
    refine az_iload_n C 2 dX12_orders_77 rfl ?_
    refine az_sipush (v := 2400) C dX12_orders_78 (by decide) ?_
    refine az_icmp_ge C 102 dX12_orders_81 (by decide) (fun c20 => ?_) (fun c20 => ?_)
    · have h := az_t c20 h
      refine az_iconst (v := 0) C dX12_orders_102 (by decide) ?_
      refine az_istore_n C dX12_orders_103 rfl (by decide) rfl ?_
      refine az_sub [1, 2, 0] rfl ?_
      exact s_X12_orders_104 C G G x1 0 M r h hp
    · have h := az_f c20 h
      refine az_aload_n C 0 dX12_orders_84 rfl ?_
      refine az_getr (r := 47) C o40 fl_X12_29 rfl rfl dX12_orders_85 ?_
      refine az_iload_n C 2 dX12_orders_88 rfl ?_
      refine az_aload_n C 0 dX12_orders_89 rfl ?_
      refine az_getr (r := 45) C o40 fl_X12_23 rfl rfl dX12_orders_90 ?_
      refine az_iload_n C 2 dX12_orders_93 rfl ?_
      obtain ⟨g21, h⟩ := az_g h
      refine az_ild (k := x2.toNatClampNeg) C a45 g21 rfl dX12_orders_94 ?_
      obtain ⟨g22, h⟩ := az_g h
      refine az_ist (k := x2.toNatClampNeg) C a47 g22 rfl dX12_orders_95 ?_
      refine az_iinc (v := (x2 + 1)) C 2 dX12_orders_96 rfl rfl (by decide) rfl ?_
      refine az_goto C 77 dX12_orders_99 (by decide) ?_
      refine az_sub [1, 2, 0] rfl ?_
      exact ih x1 (x2 + 1) (az_i M 47 x2.toNatClampNeg (M.1 45 x2.toNatClampNeg)) r h hp
set_option maxHeartbeats 4000000 in
set_option maxRecDepth 100000 in
theorem s_X12_orders_46 {Y : az_Y} {V : az_V} {post : Option Value → az_M → Prop} (C : az_C Y V cX12_orders 4 RX12 (some .int) 11) (G : Nat)  (M : az_M) (r : (Int32 × az_M)) (h : f_X12_orders_46 G M = some r) (hp : post (some (.int r.1)) r.2) : AW Y V (az_end Y V post) 4 M 46 [(0, .ref (az_ad V 40))] [] := by
  have o40 := C.hL.at 40 (ci := 12) rfl
  unfold f_X12_orders_46 at h
  refine az_aload_n C 0 dX12_orders_46 rfl ?_
  obtain ⟨q13, e14, h⟩ := az_b h
  refine az_cV (rest := []) (st2 := []) C [] (c_X12_endText C.hL G M e14) (by decide) li_X12_412 o40 (by decide) rfl rfl (Nat.le_of_ble_eq_true rfl) dX12_orders_47 rfl ?_
  refine az_aload_n C 0 dX12_orders_50 rfl ?_
  refine az_geti C o40 fl_X12_270 rfl dX12_orders_51 ?_
  refine az_if_eq C 64 dX12_orders_54 (by decide) (fun c15 => ?_) (fun c15 => ?_)
  · have h := az_t c15 h
    refine az_aload_n C 0 dX12_orders_64 rfl ?_
    refine az_bipush (v := 20) C dX12_orders_65 (by decide) ?_
    obtain ⟨q16, e17, h⟩ := az_b h
    refine az_cV (rest := []) (st2 := []) C [.int 20] (c_X12_keepAll C.hL G 20 q13 e17) (by decide) li_X12_162 o40 (by decide) rfl rfl (Nat.le_of_ble_eq_true rfl) dX12_orders_67 rfl ?_
    refine az_aload_n C 0 dX12_orders_70 rfl ?_
    refine az_geti C o40 fl_X12_155 rfl dX12_orders_71 ?_
    refine az_istore_n C dX12_orders_74 rfl (by decide) rfl ?_
    refine az_iconst (v := 0) C dX12_orders_75 (by decide) ?_
    refine az_istore_n C dX12_orders_76 rfl (by decide) rfl ?_
    refine az_sub [2, 1, 0] rfl ?_
    exact s_X12_orders_77 C G G (q16.1 40 8) 0 q16 r h hp
  · have h := az_f c15 h
    refine az_aload_n C 0 dX12_orders_57 rfl ?_
    refine az_bipush (v := (-6)) C dX12_orders_58 (by decide) ?_
    obtain ⟨q18, e19, h⟩ := az_b h
    refine az_cV (rest := []) (st2 := [.int q18.1]) C [.int (-6)] (c_X12_tell C.hL (-6) q13 e19) (by decide) li_X12_158 o40 (by decide) rfl rfl (Nat.le_of_ble_eq_true rfl) dX12_orders_60 rfl ?_
    obtain rfl := Option.some.inj h
    exact az_iret C dX12_orders_63 hp
set_option maxHeartbeats 4000000 in
set_option maxRecDepth 100000 in
theorem s_X12_orders_19 {Y : az_Y} {V : az_V} {post : Option Value → az_M → Prop} (C : az_C Y V cX12_orders 4 RX12 (some .int) 11) (G : Nat) : ∀ (F : Nat)  (M : az_M) (r : (Int32 × az_M)), f_X12_orders_19 G F M = some r → post (some (.int r.1)) r.2 → AW Y V (az_end Y V post) 4 M 19 [(0, .ref (az_ad V 40))] [] := by
  have o40 := C.hL.at 40 (ci := 12) rfl
  intro F
  induction F with
  | zero =>
    intro  M r h
    exact absurd (show (none : Option (Int32 × az_M)) = some r from h) (fun q => by cases q)
  | succ F ih =>
    intro  M r h hp
    rw [f_X12_orders_19] at h
    refine az_aload_n C 0 dX12_orders_19 rfl ?_
    refine az_geti C o40 fl_X12_270 rfl dX12_orders_20 ?_
    refine az_if_ne C 46 dX12_orders_23 (by decide) (fun c5 => ?_) (fun c5 => ?_)
    · have h := az_f c5 h
      exact s_X12_orders_46 C G M r h hp
    · have h := az_t c5 h
      refine az_aload_n C 0 dX12_orders_26 rfl ?_
      refine az_bipush (v := 59) C dX12_orders_27 (by decide) ?_
      obtain ⟨q6, e7, h⟩ := az_b h
      refine az_cV (rest := []) (st2 := [.int q6]) C [.int 59] (c_X12_isSign C.hL 59 M e7) (by decide) li_X12_339 o40 (by decide) rfl rfl (Nat.le_of_ble_eq_true rfl) dX12_orders_29 rfl ?_
      refine az_if_eq C 46 dX12_orders_32 (by decide) (fun c8 => ?_) (fun c8 => ?_)
      · have h := az_t c8 h
        exact s_X12_orders_46 C G M r h hp
      · have h := az_f c8 h
        refine az_aload_n C 0 dX12_orders_35 rfl ?_
        obtain ⟨q9, e10, h⟩ := az_b h
        refine az_cV (rest := []) (st2 := []) C [] (c_X12_next C.hL G M e10) (by decide) li_X12_274 o40 (by decide) rfl rfl (Nat.le_of_ble_eq_true rfl) dX12_orders_36 rfl ?_
        refine az_aload_n C 0 dX12_orders_39 rfl ?_
        obtain ⟨q11, e12, h⟩ := az_b h
        refine az_cV (rest := []) (st2 := []) C [] (c_X12_readOrder C.hL G q9 e12) (by decide) li_X12_558 o40 (by decide) rfl rfl (Nat.le_of_ble_eq_true rfl) dX12_orders_40 rfl ?_
        refine az_goto C 19 dX12_orders_43 (by decide) ?_
        exact ih q11 r h hp
set_option maxHeartbeats 4000000 in
set_option maxRecDepth 100000 in
theorem s_X12_orders_e {Y : az_Y} {V : az_V} {post : Option Value → az_M → Prop} (C : az_C Y V cX12_orders 4 RX12 (some .int) 11) (G : Nat)  (M : az_M) (r : (Int32 × az_M)) (h : f_X12_orders G M = some r) (hp : post (some (.int r.1)) r.2) : AW Y V (az_end Y V post) 4 M 0 [(0, .ref (az_ad V 40))] [] := by
  have o40 := C.hL.at 40 (ci := 12) rfl
  unfold f_X12_orders at h
  refine az_aload_n C 0 dX12_orders_0 rfl ?_
  refine az_iconst (v := 0) C dX12_orders_1 (by decide) ?_
  refine az_puti C o40 fl_X12_149 rfl rfl rfl rfl dX12_orders_2 ?_
  refine az_aload_n C 0 dX12_orders_5 rfl ?_
  refine az_iconst (v := (-1)) C dX12_orders_6 (by decide) ?_
  refine az_puti C o40 fl_X12_143 rfl rfl rfl rfl dX12_orders_7 ?_
  refine az_aload_n C 0 dX12_orders_10 rfl ?_
  refine az_iconst (v := 1) C dX12_orders_11 (by decide) ?_
  obtain ⟨q1, e2, h⟩ := az_b h
  refine az_cV (rest := []) (st2 := []) C [.int 1] (c_X12_beginText C.hL G 1 (az_i (az_i M 40 0 0) 40 55 (-1)) e2) (by decide) li_X12_406 o40 (by decide) rfl rfl (Nat.le_of_ble_eq_true rfl) dX12_orders_12 rfl ?_
  refine az_aload_n C 0 dX12_orders_15 rfl ?_
  obtain ⟨q3, e4, h⟩ := az_b h
  refine az_cV (rest := []) (st2 := []) C [] (c_X12_readOrder C.hL G q1 e4) (by decide) li_X12_558 o40 (by decide) rfl rfl (Nat.le_of_ble_eq_true rfl) dX12_orders_16 rfl ?_
  exact s_X12_orders_19 C G G q3 r h hp
theorem c_X12_orders {l : Launch} {V : az_V} (hL : az_L V) (G : Nat)  (M : az_M) {r : (Int32 × az_M)} (h : f_X12_orders G M = some r) : az_Ct l V yX12_orders cX12_orders 4 (some .int) 11 [.ref (az_ad V 40)] M (fun v M' => v = some (.int r.1) ∧ M' = r.2) :=
  az_Ct.of (by decide) (Nat.le_of_ble_eq_true rfl) (fun Y _ _ C => s_X12_orders_e C G M r h ⟨rfl, rfl⟩)
set_option maxHeartbeats 4000000 in
set_option maxRecDepth 100000 in
theorem s_X12_stopped_e {Y : az_Y} {V : az_V} {post : Option Value → az_M → Prop} (C : az_C Y V cX12_stopped 1 RX12 (some .int) 1)  (M : az_M) (r : (Int32 × az_M)) (h : f_X12_stopped M = some r) (hp : post (some (.int r.1)) r.2) : AW Y V (az_end Y V post) 1 M 0 [(0, .ref (az_ad V 40))] [] := by
  have o40 := C.hL.at 40 (ci := 12) rfl
  unfold f_X12_stopped at h
  refine az_aload_n C 0 dX12_stopped_0 rfl ?_
  refine az_iconst (v := 0) C dX12_stopped_1 (by decide) ?_
  refine az_puti C o40 fl_X12_149 rfl rfl rfl rfl dX12_stopped_2 ?_
  refine az_aload_n C 0 dX12_stopped_5 rfl ?_
  refine az_geti C o40 fl_X12_143 rfl dX12_stopped_6 ?_
  obtain rfl := Option.some.inj h
  exact az_iret C dX12_stopped_9 hp
theorem c_X12_stopped {l : Launch} {V : az_V} (hL : az_L V)  (M : az_M) {r : (Int32 × az_M)} (h : f_X12_stopped M = some r) : az_Ct l V yX12_stopped cX12_stopped 1 (some .int) 1 [.ref (az_ad V 40)] M (fun v M' => v = some (.int r.1) ∧ M' = r.2) :=
  az_Ct.of (by decide) (Nat.le_of_ble_eq_true rfl) (fun Y _ _ C => s_X12_stopped_e C M r h ⟨rfl, rfl⟩)
set_option maxHeartbeats 4000000 in
set_option maxRecDepth 100000 in
theorem s_X12_season_29 {Y : az_Y} {V : az_V} {post : Option Value → az_M → Prop} (C : az_C Y V cX12_season 7 RX12 (some .int) 9) (G : Nat)  (M : az_M) (r : (Int32 × az_M)) (h : f_X12_season_29 G M = some r) (hp : post (some (.int r.1)) r.2) : AW Y V (az_end Y V post) 7 M 29 [(0, .ref (az_ad V 40))] [] := by
  have o40 := C.hL.at 40 (ci := 12) rfl
  unfold f_X12_season_29 at h
  refine az_aload_n C 0 dX12_season_29 rfl ?_
  refine az_iconst (v := (-1)) C dX12_season_30 (by decide) ?_
  obtain ⟨q33, e34, h⟩ := az_b h
  refine az_cV (rest := []) (st2 := [.int q33.1]) C [.int (-1)] (c_X12_tell C.hL (-1) M e34) (by decide) li_X12_158 o40 (by decide) rfl rfl (Nat.le_of_ble_eq_true rfl) dX12_season_31 rfl ?_
  obtain rfl := Option.some.inj h
  exact az_iret C dX12_season_34 hp
set_option maxHeartbeats 4000000 in
set_option maxRecDepth 100000 in
theorem s_X12_season_139 {Y : az_Y} {V : az_V} {post : Option Value → az_M → Prop} (C : az_C Y V cX12_season 7 RX12 (some .int) 9) (G : Nat) (K57 : (Int32 → Int32 → Int32 → az_M → Option (Int32 × az_M))) (hK57 : ∀ (x2 : Int32) (x3 : Int32) (x4 : Int32) (M : az_M) (r : (Int32 × az_M)), K57 x2 x3 x4 M = some r → post (some (.int r.1)) r.2 → AW Y V (az_end Y V post) 7 M 57 [(0, .ref (az_ad V 40)), (2, .int x2), (3, .int x3), (4, .int x4)] []) (x2 : Int32) (x3 : Int32) (x4 : Int32) (M : az_M) (r : (Int32 × az_M)) (h : f_X12_season_139 G K57 x2 x3 x4 M = some r) (hp : post (some (.int r.1)) r.2) : AW Y V (az_end Y V post) 7 M 139 [(0, .ref (az_ad V 40)), (2, .int x2), (3, .int x3), (4, .int x4)] [] := by
  unfold f_X12_season_139 at h
  refine az_iinc (v := (x4 + 1)) C 3 dX12_season_139 rfl rfl (by decide) rfl ?_
  refine az_goto C 57 dX12_season_142 (by decide) ?_
  refine az_sub [1, 2, 3, 0] rfl ?_
  exact hK57 x2 x3 (x4 + 1) M r h hp
set_option maxHeartbeats 4000000 in
set_option maxRecDepth 100000 in
theorem s_X12_season_129 {Y : az_Y} {V : az_V} {post : Option Value → az_M → Prop} (C : az_C Y V cX12_season 7 RX12 (some .int) 9) (G : Nat) (K57 : (Int32 → Int32 → Int32 → az_M → Option (Int32 × az_M))) (hK57 : ∀ (x2 : Int32) (x3 : Int32) (x4 : Int32) (M : az_M) (r : (Int32 × az_M)), K57 x2 x3 x4 M = some r → post (some (.int r.1)) r.2 → AW Y V (az_end Y V post) 7 M 57 [(0, .ref (az_ad V 40)), (2, .int x2), (3, .int x3), (4, .int x4)] []) (x2 : Int32) (x4 : Int32) (s0 : Int32) (s1 : Int32) (M : az_M) (r : (Int32 × az_M)) (h : f_X12_season_129 G K57 x2 x4 s0 s1 M = some r) (hp : post (some (.int r.1)) r.2) : AW Y V (az_end Y V post) 7 M 129 [(0, .ref (az_ad V 40)), (2, .int x2), (4, .int x4)] [.int s0, .int s1] := by
  unfold f_X12_season_129 at h
  refine az_iadd C dX12_season_129 ?_
  refine az_istore_n C dX12_season_130 rfl (by decide) rfl ?_
  refine az_goto C 139 dX12_season_131 (by decide) ?_
  refine az_sub [1, 2, 0, 3] rfl ?_
  exact s_X12_season_139 C G K57 hK57 x2 (s1 + s0) x4 M r h hp
set_option maxHeartbeats 4000000 in
set_option maxRecDepth 100000 in
theorem s_X12_season_124 {Y : az_Y} {V : az_V} {post : Option Value → az_M → Prop} (C : az_C Y V cX12_season 7 RX12 (some .int) 9) (G : Nat) (K57 : (Int32 → Int32 → Int32 → az_M → Option (Int32 × az_M))) (hK57 : ∀ (x2 : Int32) (x3 : Int32) (x4 : Int32) (M : az_M) (r : (Int32 × az_M)), K57 x2 x3 x4 M = some r → post (some (.int r.1)) r.2 → AW Y V (az_end Y V post) 7 M 57 [(0, .ref (az_ad V 40)), (2, .int x2), (3, .int x3), (4, .int x4)] []) (x2 : Int32) (x4 : Int32) (s0 : Int32) (M : az_M) (r : (Int32 × az_M)) (h : f_X12_season_124 G K57 x2 x4 s0 M = some r) (hp : post (some (.int r.1)) r.2) : AW Y V (az_end Y V post) 7 M 124 [(0, .ref (az_ad V 40)), (2, .int x2), (4, .int x4)] [.int s0] := by
  unfold f_X12_season_124 at h
  refine az_iconst (v := 1) C dX12_season_124 (by decide) ?_
  refine az_goto C 129 dX12_season_125 (by decide) ?_
  exact s_X12_season_129 C G K57 hK57 x2 x4 1 s0 M r h hp
set_option maxHeartbeats 4000000 in
set_option maxRecDepth 100000 in
theorem s_X12_season_134 {Y : az_Y} {V : az_V} {post : Option Value → az_M → Prop} (C : az_C Y V cX12_season 7 RX12 (some .int) 9) (G : Nat) (K57 : (Int32 → Int32 → Int32 → az_M → Option (Int32 × az_M))) (hK57 : ∀ (x2 : Int32) (x3 : Int32) (x4 : Int32) (M : az_M) (r : (Int32 × az_M)), K57 x2 x3 x4 M = some r → post (some (.int r.1)) r.2 → AW Y V (az_end Y V post) 7 M 57 [(0, .ref (az_ad V 40)), (2, .int x2), (3, .int x3), (4, .int x4)] []) (x2 : Int32) (x3 : Int32) (x4 : Int32) (M : az_M) (r : (Int32 × az_M)) (h : f_X12_season_134 G K57 x2 x3 x4 M = some r) (hp : post (some (.int r.1)) r.2) : AW Y V (az_end Y V post) 7 M 134 [(0, .ref (az_ad V 40)), (2, .int x2), (3, .int x3), (4, .int x4)] [] := by
  have o40 := C.hL.at 40 (ci := 12) rfl
  unfold f_X12_season_134 at h
  refine az_aload_n C 0 dX12_season_134 rfl ?_
  refine az_iconst (v := 3) C dX12_season_135 (by decide) ?_
  obtain ⟨q21, e22, h⟩ := az_b h
  refine az_cV (rest := []) (st2 := []) C [.int 3] (c_X12_goDays C.hL 3 M e22) (by decide) li_X12_454 o40 (by decide) rfl rfl (Nat.le_of_ble_eq_true rfl) dX12_season_136 rfl ?_
  exact s_X12_season_139 C G K57 hK57 x2 x3 x4 q21 r h hp
set_option maxHeartbeats 4000000 in
set_option maxRecDepth 100000 in
theorem s_X12_season_86 {Y : az_Y} {V : az_V} {post : Option Value → az_M → Prop} (C : az_C Y V cX12_season 7 RX12 (some .int) 9) (G : Nat) (K57 : (Int32 → Int32 → Int32 → az_M → Option (Int32 × az_M))) (hK57 : ∀ (x2 : Int32) (x3 : Int32) (x4 : Int32) (M : az_M) (r : (Int32 × az_M)), K57 x2 x3 x4 M = some r → post (some (.int r.1)) r.2 → AW Y V (az_end Y V post) 7 M 57 [(0, .ref (az_ad V 40)), (2, .int x2), (3, .int x3), (4, .int x4)] []) (x2 : Int32) (x3 : Int32) (x4 : Int32) (s0 : Int32) (M : az_M) (r : (Int32 × az_M)) (h : f_X12_season_86 G K57 x2 x3 x4 s0 M = some r) (hp : post (some (.int r.1)) r.2) : AW Y V (az_end Y V post) 7 M 86 [(0, .ref (az_ad V 40)), (2, .int x2), (3, .int x3), (4, .int x4)] [.int s0] := by
  have o40 := C.hL.at 40 (ci := 12) rfl
  unfold f_X12_season_86 at h
  refine az_istore C dX12_season_86 (by decide) rfl ?_
  refine az_iload C 0 dX12_season_88 rfl ?_
  refine az_iconst (v := (-1)) C dX12_season_90 (by decide) ?_
  refine az_icmp_eq C 134 dX12_season_91 (by decide) (fun c13 => ?_) (fun c13 => ?_)
  · have h := az_t c13 h
    refine az_sub [1, 2, 3, 4] rfl ?_
    exact s_X12_season_134 C G K57 hK57 x2 x3 x4 M r h hp
  · have h := az_f c13 h
    refine az_aload_n C 1 dX12_season_94 rfl ?_
    refine az_iload C 0 dX12_season_95 rfl ?_
    obtain ⟨q14, e15, h⟩ := az_b h
    refine az_cV (rest := []) (st2 := [.int q14.1]) C [.int s0] (c_X12_canHave C.hL G s0 M e15) (by decide) li_X12_250 o40 (by decide) rfl rfl (Nat.le_of_ble_eq_true rfl) dX12_season_97 rfl ?_
    refine az_if_eq C 134 dX12_season_100 (by decide) (fun c16 => ?_) (fun c16 => ?_)
    · have h := az_t c16 h
      refine az_sub [1, 2, 3, 4] rfl ?_
      exact s_X12_season_134 C G K57 hK57 x2 x3 x4 q14.2 r h hp
    · have h := az_f c16 h
      refine az_aload_n C 1 dX12_season_103 rfl ?_
      refine az_iload C 0 dX12_season_104 rfl ?_
      obtain ⟨q17, e18, h⟩ := az_b h
      refine az_cV (rest := []) (st2 := [.int q17.1]) C [.int s0] (c_X12_have C.hL G s0 q14.2 e18) (by decide) li_X12_481 o40 (by decide) rfl rfl (Nat.le_of_ble_eq_true rfl) dX12_season_106 rfl ?_
      refine az_istore C dX12_season_109 (by decide) rfl ?_
      refine az_iload_n C 4 dX12_season_111 rfl ?_
      refine az_iload C 0 dX12_season_112 rfl ?_
      refine az_iconst (v := 1) C dX12_season_114 (by decide) ?_
      refine az_icmp_eq C 124 dX12_season_115 (by decide) (fun c19 => ?_) (fun c19 => ?_)
      · have h := az_t c19 h
        refine az_sub [2, 3, 5] rfl ?_
        exact s_X12_season_124 C G K57 hK57 x2 x4 x3 q17.2 r h hp
      · have h := az_f c19 h
        refine az_iload C 0 dX12_season_118 rfl ?_
        refine az_iconst (v := 2) C dX12_season_120 (by decide) ?_
        refine az_icmp_ne C 128 dX12_season_121 (by decide) (fun c20 => ?_) (fun c20 => ?_)
        · have h := az_f c20 h
          refine az_iconst (v := 0) C dX12_season_128 (by decide) ?_
          refine az_sub [2, 3, 5] rfl ?_
          exact s_X12_season_129 C G K57 hK57 x2 x4 0 x3 q17.2 r h hp
        · have h := az_t c20 h
          refine az_sub [2, 3, 5] rfl ?_
          exact s_X12_season_124 C G K57 hK57 x2 x4 x3 q17.2 r h hp
set_option maxHeartbeats 4000000 in
set_option maxRecDepth 100000 in
theorem s_X12_season_148 {Y : az_Y} {V : az_V} {post : Option Value → az_M → Prop} (C : az_C Y V cX12_season 7 RX12 (some .int) 9) (G : Nat) : ∀ (F : Nat) (x3 : Int32) (x4 : Int32) (M : az_M) (r : (Int32 × az_M)), f_X12_season_148 G F x3 x4 M = some r → post (some (.int r.1)) r.2 → AW Y V (az_end Y V post) 7 M 148 [(0, .ref (az_ad V 40)), (3, .int x3), (4, .int x4)] [] := by
  have o40 := C.hL.at 40 (ci := 12) rfl
  have a42 := C.hL.ar 42 (t := 0) (len := 5550) rfl
  have a70 := C.hL.ar 70 (t := 0) (len := 6) rfl
  intro F
  induction F with
  | zero =>
    intro x3 x4 M r h
    exact absurd (show (none : Option (Int32 × az_M)) = some r from h) (fun q => by cases q)
  | succ F ih =>
    intro x3 x4 M r h hp
    rw [f_X12_season_148] at h
    refine az_iload C 2 dX12_season_148 rfl ?_
    refine az_iconst (v := 4) C dX12_season_150 (by decide) ?_
    refine az_icmp_ge C 173 dX12_season_151 (by decide) (fun c23 => ?_) (fun c23 => ?_)
    · have h := az_t c23 h
      refine az_aload_n C 0 dX12_season_173 rfl ?_
      refine az_getr (r := 70) C o40 fl_X12_146 rfl rfl dX12_season_174 ?_
      refine az_iconst (v := 4) C dX12_season_177 (by decide) ?_
      refine az_aload_n C 0 dX12_season_178 rfl ?_
      refine az_iconst (v := 0) C dX12_season_179 (by decide) ?_
      obtain ⟨q24, e25, h⟩ := az_b h
      refine az_cV (rest := [.int 4, .ref (az_ad V 70)]) (st2 := [.int q24, .int 4, .ref (az_ad V 70)]) C [.int 0] (c_X12_term C.hL 0 M e25) (by decide) li_X12_189 o40 (by decide) rfl rfl (Nat.le_of_ble_eq_true rfl) dX12_season_180 rfl ?_
      refine az_ist (k := 4) C a70 (az_vin (by decide)) (by decide) dX12_season_183 ?_
      refine az_aload_n C 0 dX12_season_184 rfl ?_
      refine az_getr (r := 70) C o40 fl_X12_146 rfl rfl dX12_season_185 ?_
      refine az_iconst (v := 5) C dX12_season_188 (by decide) ?_
      refine az_aload_n C 0 dX12_season_189 rfl ?_
      refine az_getr (r := 42) C o40 fl_X12_13 rfl rfl dX12_season_190 ?_
      refine az_iconst (v := 2) C dX12_season_193 (by decide) ?_
      refine az_ild (k := 2) C a42 (az_vin (by decide)) (by decide) dX12_season_194 ?_
      refine az_ist (k := 5) C a70 (az_vin (by decide)) (by decide) dX12_season_195 ?_
      refine az_aload_n C 0 dX12_season_196 rfl ?_
      refine az_bipush (v := 16) C dX12_season_197 (by decide) ?_
      obtain ⟨q26, e27, h⟩ := az_b h
      refine az_cV (rest := []) (st2 := []) C [.int 16] (c_X12_putBack C.hL G 16 (az_i (az_i M 70 4 q24) 70 5 ((az_i M 70 4 q24).1 42 2)) e27) (by decide) li_X12_166 o40 (by decide) rfl rfl (Nat.le_of_ble_eq_true rfl) dX12_season_199 rfl ?_
      refine az_aload_n C 0 dX12_season_202 rfl ?_
      refine az_iload_n C 1 dX12_season_203 rfl ?_
      obtain ⟨q28, e29, h⟩ := az_b h
      refine az_cV (rest := []) (st2 := [.int q28.1]) C [.int x3] (c_X12_tell C.hL x3 q26 e29) (by decide) li_X12_158 o40 (by decide) rfl rfl (Nat.le_of_ble_eq_true rfl) dX12_season_204 rfl ?_
      obtain rfl := Option.some.inj h
      exact az_iret C dX12_season_207 hp
    · have h := az_f c23 h
      refine az_aload_n C 0 dX12_season_154 rfl ?_
      refine az_getr (r := 70) C o40 fl_X12_146 rfl rfl dX12_season_155 ?_
      refine az_iload C 2 dX12_season_158 rfl ?_
      refine az_aload_n C 0 dX12_season_160 rfl ?_
      refine az_iload C 2 dX12_season_161 rfl ?_
      obtain ⟨q30, e31, h⟩ := az_b h
      refine az_cV (rest := [.int x4, .ref (az_ad V 70)]) (st2 := [.int q30, .int x4, .ref (az_ad V 70)]) C [.int x4] (c_X12_bulletOf C.hL x4 M e31) (by decide) li_X12_186 o40 (by decide) rfl rfl (Nat.le_of_ble_eq_true rfl) dX12_season_163 rfl ?_
      obtain ⟨g32, h⟩ := az_g h
      refine az_ist (k := x4.toNatClampNeg) C a70 g32 rfl dX12_season_166 ?_
      refine az_iinc (v := (x4 + 1)) C 2 dX12_season_167 rfl rfl (by decide) rfl ?_
      refine az_goto C 148 dX12_season_170 (by decide) ?_
      refine az_sub [1, 2, 0] rfl ?_
      exact ih x3 (x4 + 1) (az_i M 70 x4.toNatClampNeg q30) r h hp
set_option maxHeartbeats 4000000 in
set_option maxRecDepth 100000 in
theorem s_X12_season_57 {Y : az_Y} {V : az_V} {post : Option Value → az_M → Prop} (C : az_C Y V cX12_season 7 RX12 (some .int) 9) (G : Nat) : ∀ (F : Nat) (x2 : Int32) (x3 : Int32) (x4 : Int32) (M : az_M) (r : (Int32 × az_M)), f_X12_season_57 G F x2 x3 x4 M = some r → post (some (.int r.1)) r.2 → AW Y V (az_end Y V post) 7 M 57 [(0, .ref (az_ad V 40)), (2, .int x2), (3, .int x3), (4, .int x4)] [] := by
  have o40 := C.hL.at 40 (ci := 12) rfl
  have a42 := C.hL.ar 42 (t := 0) (len := 5550) rfl
  intro F
  induction F with
  | zero =>
    intro x2 x3 x4 M r h
    exact absurd (show (none : Option (Int32 × az_M)) = some r from h) (fun q => by cases q)
  | succ F ih =>
    intro x2 x3 x4 M r h hp
    rw [f_X12_season_57] at h
    refine az_iload C 3 dX12_season_57 rfl ?_
    refine az_iload_n C 1 dX12_season_59 rfl ?_
    refine az_icmp_ge C 145 dX12_season_60 (by decide) (fun c9 => ?_) (fun c9 => ?_)
    · have h := az_t c9 h
      refine az_iconst (v := 0) C dX12_season_145 (by decide) ?_
      refine az_istore C dX12_season_146 (by decide) rfl ?_
      refine az_sub [1, 3, 0] rfl ?_
      exact s_X12_season_148 C G G x3 0 M r h hp
    · have h := az_f c9 h
      refine az_aload_n C 0 dX12_season_63 rfl ?_
      refine az_getr (r := 42) C o40 fl_X12_13 rfl rfl dX12_season_64 ?_
      refine az_iconst (v := 2) C dX12_season_67 (by decide) ?_
      refine az_ild (k := 2) C a42 (az_vin (by decide)) (by decide) dX12_season_68 ?_
      refine az_if_le C 85 dX12_season_69 (by decide) (fun c10 => ?_) (fun c10 => ?_)
      · have h := az_t c10 h
        refine az_iconst (v := (-1)) C dX12_season_85 (by decide) ?_
        exact s_X12_season_86 C G (f_X12_season_57 G F) ih x2 x3 x4 (-1) M r h hp
      · have h := az_f c10 h
        refine az_aload_n C 0 dX12_season_72 rfl ?_
        refine az_aload_n C 0 dX12_season_73 rfl ?_
        refine az_getr (r := 42) C o40 fl_X12_13 rfl rfl dX12_season_74 ?_
        refine az_iconst (v := 2) C dX12_season_77 (by decide) ?_
        refine az_ild (k := 2) C a42 (az_vin (by decide)) (by decide) dX12_season_78 ?_
        obtain ⟨q11, e12, h⟩ := az_b h
        refine az_cV (rest := []) (st2 := [.int q11.1]) C [.int (M.1 42 2)] (c_X12_draw C.hL (M.1 42 2) M e12) (by decide) li_X12_475 o40 (by decide) rfl rfl (Nat.le_of_ble_eq_true rfl) dX12_season_79 rfl ?_
        refine az_goto C 86 dX12_season_82 (by decide) ?_
        exact s_X12_season_86 C G (f_X12_season_57 G F) ih x2 x3 x4 q11.1 q11.2 r h hp
set_option maxHeartbeats 4000000 in
set_option maxRecDepth 100000 in
theorem s_X12_season_e {Y : az_Y} {V : az_V} {post : Option Value → az_M → Prop} (C : az_C Y V cX12_season 7 RX12 (some .int) 9) (G : Nat) (p0 : Int32) (p1 : Int32) (M : az_M) (r : (Int32 × az_M)) (h : f_X12_season G p0 p1 M = some r) (hp : post (some (.int r.1)) r.2) : AW Y V (az_end Y V post) 7 M 0 [(0, .ref (az_ad V 40)), (1, .int p0), (2, .int p1)] [] := by
  have o40 := C.hL.at 40 (ci := 12) rfl
  unfold f_X12_season at h
  refine az_aload_n C 0 dX12_season_0 rfl ?_
  refine az_iconst (v := 0) C dX12_season_1 (by decide) ?_
  refine az_puti C o40 fl_X12_149 rfl rfl rfl rfl dX12_season_2 ?_
  refine az_iload_n C 1 dX12_season_5 rfl ?_
  refine az_i2l C dX12_season_6 ?_
  refine az_lconst (v := 0) C dX12_season_7 (by decide) ?_
  refine az_ldc2 C ck_X12_299 dX12_season_8 ?_
  obtain ⟨q1, e2, h⟩ := az_b h
  refine az_cS (rest := []) (st2 := [.int q1]) C [.long p0.toInt64, .long 0, .long 1000000] (c_X12_in C.hL p0.toInt64 0 1000000 (az_i M 40 0 0) e2) (by decide) li_X12_169 rfl rfl (Nat.le_of_ble_eq_true rfl) dX12_season_11 rfl ?_
  refine az_if_eq C 29 dX12_season_14 (by decide) (fun c3 => ?_) (fun c3 => ?_)
  · have h := az_t c3 h
    refine az_sub [0] rfl ?_
    exact s_X12_season_29 C G (az_i M 40 0 0) r h hp
  · have h := az_f c3 h
    refine az_iload_n C 2 dX12_season_17 rfl ?_
    refine az_i2l C dX12_season_18 ?_
    refine az_lconst (v := 1) C dX12_season_19 (by decide) ?_
    refine az_ldc2 C ck_X12_567 dX12_season_20 ?_
    obtain ⟨q4, e5, h⟩ := az_b h
    refine az_cS (rest := []) (st2 := [.int q4]) C [.long p1.toInt64, .long 1, .long 30] (c_X12_in C.hL p1.toInt64 1 30 (az_i M 40 0 0) e5) (by decide) li_X12_169 rfl rfl (Nat.le_of_ble_eq_true rfl) dX12_season_23 rfl ?_
    refine az_if_ne C 35 dX12_season_26 (by decide) (fun c6 => ?_) (fun c6 => ?_)
    · have h := az_f c6 h
      refine az_aload_n C 0 dX12_season_35 rfl ?_
      refine az_bipush (v := 16) C dX12_season_36 (by decide) ?_
      obtain ⟨q7, e8, h⟩ := az_b h
      refine az_cV (rest := []) (st2 := []) C [.int 16] (c_X12_keepAll C.hL G 16 (az_i M 40 0 0) e8) (by decide) li_X12_162 o40 (by decide) rfl rfl (Nat.le_of_ble_eq_true rfl) dX12_season_38 rfl ?_
      refine az_aload_n C 0 dX12_season_41 rfl ?_
      refine az_iload_n C 1 dX12_season_42 rfl ?_
      refine az_i2l C dX12_season_43 ?_
      refine az_putl C o40 fl_X12_466 rfl rfl rfl rfl dX12_season_44 ?_
      refine az_aload_n C 0 dX12_season_47 rfl ?_
      refine az_iconst (v := 1) C dX12_season_48 (by decide) ?_
      refine az_puti C o40 fl_X12_569 rfl rfl rfl rfl dX12_season_49 ?_
      refine az_iconst (v := 0) C dX12_season_52 (by decide) ?_
      refine az_istore_n C dX12_season_53 rfl (by decide) rfl ?_
      refine az_iconst (v := 0) C dX12_season_54 (by decide) ?_
      refine az_istore C dX12_season_55 (by decide) rfl ?_
      refine az_sub [2, 4, 1, 0] rfl ?_
      exact s_X12_season_57 C G G p1 0 0 (az_i (az_l q7 40 41 p0.toInt64) 40 58 1) r h hp
    · have h := az_t c6 h
      refine az_sub [0] rfl ?_
      exact s_X12_season_29 C G (az_i M 40 0 0) r h hp
theorem c_X12_season {l : Launch} {V : az_V} (hL : az_L V) (G : Nat) (p0 : Int32) (p1 : Int32) (M : az_M) {r : (Int32 × az_M)} (h : f_X12_season G p0 p1 M = some r) : az_Ct l V yX12_season cX12_season 7 (some .int) 9 [.ref (az_ad V 40), .int p0, .int p1] M (fun v M' => v = some (.int r.1) ∧ M' = r.2) :=
  az_Ct.of (by decide) (Nat.le_of_ble_eq_true rfl) (fun Y _ _ C => s_X12_season_e C G p0 p1 M r h ⟨rfl, rfl⟩)
set_option maxHeartbeats 4000000 in
set_option maxRecDepth 100000 in
theorem s_X12_drawn_34 {Y : az_Y} {V : az_V} {post : Option Value → az_M → Prop} (C : az_C Y V cX12_drawn 2 RX12 (some .int) 2) (s0 : Int32) (M : az_M) (r : (Int32 × az_M)) (h : f_X12_drawn_34 s0 M = some r) (hp : post (some (.int r.1)) r.2) : AW Y V (az_end Y V post) 2 M 34 [] [.int s0] := by
  unfold f_X12_drawn_34 at h
  obtain rfl := Option.some.inj h
  exact az_iret C dX12_drawn_34 hp
set_option maxHeartbeats 4000000 in
set_option maxRecDepth 100000 in
theorem s_X12_drawn_33 {Y : az_Y} {V : az_V} {post : Option Value → az_M → Prop} (C : az_C Y V cX12_drawn 2 RX12 (some .int) 2)  (M : az_M) (r : (Int32 × az_M)) (h : f_X12_drawn_33 M = some r) (hp : post (some (.int r.1)) r.2) : AW Y V (az_end Y V post) 2 M 33 [] [] := by
  unfold f_X12_drawn_33 at h
  refine az_iconst (v := (-1)) C dX12_drawn_33 (by decide) ?_
  exact s_X12_drawn_34 C (-1) M r h hp
set_option maxHeartbeats 4000000 in
set_option maxRecDepth 100000 in
theorem s_X12_drawn_e {Y : az_Y} {V : az_V} {post : Option Value → az_M → Prop} (C : az_C Y V cX12_drawn 2 RX12 (some .int) 2) (p0 : Int32) (M : az_M) (r : (Int32 × az_M)) (h : f_X12_drawn p0 M = some r) (hp : post (some (.int r.1)) r.2) : AW Y V (az_end Y V post) 2 M 0 [(0, .ref (az_ad V 40)), (1, .int p0)] [] := by
  have o40 := C.hL.at 40 (ci := 12) rfl
  have a70 := C.hL.ar 70 (t := 0) (len := 6) rfl
  unfold f_X12_drawn at h
  refine az_aload_n C 0 dX12_drawn_0 rfl ?_
  refine az_iconst (v := 0) C dX12_drawn_1 (by decide) ?_
  refine az_puti C o40 fl_X12_149 rfl rfl rfl rfl dX12_drawn_2 ?_
  refine az_aload_n C 0 dX12_drawn_5 rfl ?_
  refine az_geti C o40 fl_X12_569 rfl dX12_drawn_6 ?_
  refine az_if_eq C 33 dX12_drawn_9 (by decide) (fun c1 => ?_) (fun c1 => ?_)
  · have h := az_t c1 h
    refine az_sub [] rfl ?_
    exact s_X12_drawn_33 C (az_i M 40 0 0) r h hp
  · have h := az_f c1 h
    refine az_iload_n C 1 dX12_drawn_12 rfl ?_
    refine az_i2l C dX12_drawn_13 ?_
    refine az_lconst (v := 0) C dX12_drawn_14 (by decide) ?_
    refine az_ldc2 C ck_X12_192 dX12_drawn_15 ?_
    obtain ⟨q2, e3, h⟩ := az_b h
    refine az_cS (rest := []) (st2 := [.int q2]) C [.long p0.toInt64, .long 0, .long 5] (c_X12_in C.hL p0.toInt64 0 5 (az_i M 40 0 0) e3) (by decide) li_X12_169 rfl rfl (Nat.le_of_ble_eq_true rfl) dX12_drawn_18 rfl ?_
    refine az_if_eq C 33 dX12_drawn_21 (by decide) (fun c4 => ?_) (fun c4 => ?_)
    · have h := az_t c4 h
      refine az_sub [] rfl ?_
      exact s_X12_drawn_33 C (az_i M 40 0 0) r h hp
    · have h := az_f c4 h
      refine az_aload_n C 0 dX12_drawn_24 rfl ?_
      refine az_getr (r := 70) C o40 fl_X12_146 rfl rfl dX12_drawn_25 ?_
      refine az_iload_n C 1 dX12_drawn_28 rfl ?_
      obtain ⟨g5, h⟩ := az_g h
      refine az_ild (k := p0.toNatClampNeg) C a70 g5 rfl dX12_drawn_29 ?_
      refine az_goto C 34 dX12_drawn_30 (by decide) ?_
      refine az_sub [] rfl ?_
      exact s_X12_drawn_34 C ((az_i M 40 0 0).1 70 p0.toNatClampNeg) (az_i M 40 0 0) r h hp
theorem c_X12_drawn {l : Launch} {V : az_V} (hL : az_L V) (p0 : Int32) (M : az_M) {r : (Int32 × az_M)} (h : f_X12_drawn p0 M = some r) : az_Ct l V yX12_drawn cX12_drawn 2 (some .int) 2 [.ref (az_ad V 40), .int p0] M (fun v M' => v = some (.int r.1) ∧ M' = r.2) :=
  az_Ct.of (by decide) (Nat.le_of_ble_eq_true rfl) (fun Y _ _ C => s_X12_drawn_e C p0 M r h ⟨rfl, rfl⟩)
set_option maxHeartbeats 4000000 in
set_option maxRecDepth 100000 in
theorem s_X12_count_234 {Y : az_Y} {V : az_V} {post : Option Value → az_M → Prop} (C : az_C Y V cX12_count 2 RX12 (some .int) 2) (s0 : Int32) (M : az_M) (r : (Int32 × az_M)) (h : f_X12_count_234 s0 M = some r) (hp : post (some (.int r.1)) r.2) : AW Y V (az_end Y V post) 2 M 234 [] [.int s0] := by
  unfold f_X12_count_234 at h
  obtain rfl := Option.some.inj h
  exact az_iret C dX12_count_234 hp
set_option maxHeartbeats 4000000 in
set_option maxRecDepth 100000 in
theorem s_X12_count_204 {Y : az_Y} {V : az_V} {post : Option Value → az_M → Prop} (C : az_C Y V cX12_count 2 RX12 (some .int) 2) (x1 : Int32) (M : az_M) (r : (Int32 × az_M)) (h : f_X12_count_204 x1 M = some r) (hp : post (some (.int r.1)) r.2) : AW Y V (az_end Y V post) 2 M 204 [(0, .ref (az_ad V 40)), (1, .int x1)] [] := by
  have o40 := C.hL.at 40 (ci := 12) rfl
  have a42 := C.hL.ar 42 (t := 0) (len := 5550) rfl
  unfold f_X12_count_204 at h
  refine az_iload_n C 1 dX12_count_204 rfl ?_
  refine az_i2l C dX12_count_205 ?_
  refine az_ldc2 C ck_X12_572 dX12_count_206 ?_
  refine az_ldc2 C ck_X12_574 dX12_count_209 ?_
  obtain ⟨q21, e22, h⟩ := az_b h
  refine az_cS (rest := []) (st2 := [.int q21]) C [.long x1.toInt64, .long 13, .long 17] (c_X12_in C.hL x1.toInt64 13 17 M e22) (by decide) li_X12_169 rfl rfl (Nat.le_of_ble_eq_true rfl) dX12_count_212 rfl ?_
  refine az_if_eq C 233 dX12_count_215 (by decide) (fun c23 => ?_) (fun c23 => ?_)
  · have h := az_t c23 h
    refine az_iconst (v := (-1)) C dX12_count_233 (by decide) ?_
    refine az_sub [] rfl ?_
    exact s_X12_count_234 C (-1) M r h hp
  · have h := az_f c23 h
    refine az_aload_n C 0 dX12_count_218 rfl ?_
    refine az_getr (r := 42) C o40 fl_X12_13 rfl rfl dX12_count_219 ?_
    refine az_bipush (v := 6) C dX12_count_222 (by decide) ?_
    refine az_iload_n C 1 dX12_count_224 rfl ?_
    refine az_iadd C dX12_count_225 ?_
    refine az_bipush (v := 13) C dX12_count_226 (by decide) ?_
    refine az_isub C dX12_count_228 ?_
    obtain ⟨g24, h⟩ := az_g h
    refine az_ild (k := ((6 + x1) - 13).toNatClampNeg) C a42 g24 rfl dX12_count_229 ?_
    refine az_goto C 234 dX12_count_230 (by decide) ?_
    refine az_sub [] rfl ?_
    exact s_X12_count_234 C (M.1 42 (((6 + x1) - 13).toNatClampNeg)) M r h hp
set_option maxHeartbeats 4000000 in
set_option maxRecDepth 100000 in
theorem s_X12_count_e {Y : az_Y} {V : az_V} {post : Option Value → az_M → Prop} (C : az_C Y V cX12_count 2 RX12 (some .int) 2) (p0 : Int32) (M : az_M) (r : (Int32 × az_M)) (h : f_X12_count p0 M = some r) (hp : post (some (.int r.1)) r.2) : AW Y V (az_end Y V post) 2 M 0 [(0, .ref (az_ad V 40)), (1, .int p0)] [] := by
  have o40 := C.hL.at 40 (ci := 12) rfl
  have a41 := C.hL.ar 41 (t := 0) (len := 7) rfl
  have a42 := C.hL.ar 42 (t := 0) (len := 5550) rfl
  unfold f_X12_count at h
  refine az_aload_n C 0 dX12_count_0 rfl ?_
  refine az_iconst (v := 0) C dX12_count_1 (by decide) ?_
  refine az_puti C o40 fl_X12_149 rfl rfl rfl rfl dX12_count_2 ?_
  refine az_iload_n C 1 dX12_count_5 rfl ?_
  by_cases c1 : p0 = 0
  · have h := az_t c1 h
    refine az_tabIn (off := 94) C 100 dX12_count_6 (by rw [c1]; decide) (by rw [c1]; decide) (by rw [c1]; decide) (by decide) ?_
    refine az_aload_n C 0 dX12_count_100 rfl ?_
    refine az_getr (r := 42) C o40 fl_X12_13 rfl rfl dX12_count_101 ?_
    refine az_iconst (v := 0) C dX12_count_104 (by decide) ?_
    refine az_ild (k := 0) C a42 (az_vin (by decide)) (by decide) dX12_count_105 ?_
    obtain rfl := Option.some.inj h
    exact az_iret C dX12_count_106 hp
  have h := az_f c1 h
  have nc1 := lv_neT c1 (a := 0) (by decide)
  by_cases c2 : p0 = 1
  · have h := az_t c2 h
    refine az_tabIn (off := 101) C 107 dX12_count_6 (by rw [c2]; decide) (by rw [c2]; decide) (by rw [c2]; decide) (by decide) ?_
    refine az_aload_n C 0 dX12_count_107 rfl ?_
    refine az_getr (r := 42) C o40 fl_X12_13 rfl rfl dX12_count_108 ?_
    refine az_iconst (v := 1) C dX12_count_111 (by decide) ?_
    refine az_ild (k := 1) C a42 (az_vin (by decide)) (by decide) dX12_count_112 ?_
    obtain rfl := Option.some.inj h
    exact az_iret C dX12_count_113 hp
  have h := az_f c2 h
  have nc2 := lv_neT c2 (a := 1) (by decide)
  by_cases c3 : p0 = 2
  · have h := az_t c3 h
    refine az_tabIn (off := 108) C 114 dX12_count_6 (by rw [c3]; decide) (by rw [c3]; decide) (by rw [c3]; decide) (by decide) ?_
    refine az_aload_n C 0 dX12_count_114 rfl ?_
    refine az_getr (r := 42) C o40 fl_X12_13 rfl rfl dX12_count_115 ?_
    refine az_iconst (v := 2) C dX12_count_118 (by decide) ?_
    refine az_ild (k := 2) C a42 (az_vin (by decide)) (by decide) dX12_count_119 ?_
    obtain rfl := Option.some.inj h
    exact az_iret C dX12_count_120 hp
  have h := az_f c3 h
  have nc3 := lv_neT c3 (a := 2) (by decide)
  by_cases c4 : p0 = 3
  · have h := az_t c4 h
    refine az_tabIn (off := 115) C 121 dX12_count_6 (by rw [c4]; decide) (by rw [c4]; decide) (by rw [c4]; decide) (by decide) ?_
    refine az_aload_n C 0 dX12_count_121 rfl ?_
    refine az_getr (r := 42) C o40 fl_X12_13 rfl rfl dX12_count_122 ?_
    refine az_iconst (v := 3) C dX12_count_125 (by decide) ?_
    refine az_ild (k := 3) C a42 (az_vin (by decide)) (by decide) dX12_count_126 ?_
    obtain rfl := Option.some.inj h
    exact az_iret C dX12_count_127 hp
  have h := az_f c4 h
  have nc4 := lv_neT c4 (a := 3) (by decide)
  by_cases c5 : p0 = 4
  · have h := az_t c5 h
    refine az_tabIn (off := 122) C 128 dX12_count_6 (by rw [c5]; decide) (by rw [c5]; decide) (by rw [c5]; decide) (by decide) ?_
    refine az_aload_n C 0 dX12_count_128 rfl ?_
    refine az_getr (r := 42) C o40 fl_X12_13 rfl rfl dX12_count_129 ?_
    refine az_iconst (v := 4) C dX12_count_132 (by decide) ?_
    refine az_ild (k := 4) C a42 (az_vin (by decide)) (by decide) dX12_count_133 ?_
    obtain rfl := Option.some.inj h
    exact az_iret C dX12_count_134 hp
  have h := az_f c5 h
  have nc5 := lv_neT c5 (a := 4) (by decide)
  by_cases c6 : p0 = 5
  · have h := az_t c6 h
    refine az_tabIn (off := 129) C 135 dX12_count_6 (by rw [c6]; decide) (by rw [c6]; decide) (by rw [c6]; decide) (by decide) ?_
    refine az_aload_n C 0 dX12_count_135 rfl ?_
    refine az_geti C o40 fl_X12_155 rfl dX12_count_136 ?_
    obtain rfl := Option.some.inj h
    exact az_iret C dX12_count_139 hp
  have h := az_f c6 h
  have nc6 := lv_neT c6 (a := 5) (by decide)
  by_cases c7 : p0 = 6
  · have h := az_t c7 h
    refine az_tabIn (off := 134) C 140 dX12_count_6 (by rw [c7]; decide) (by rw [c7]; decide) (by rw [c7]; decide) (by decide) ?_
    refine az_aload_n C 0 dX12_count_140 rfl ?_
    refine az_geti C o40 fl_X12_258 rfl dX12_count_141 ?_
    obtain rfl := Option.some.inj h
    exact az_iret C dX12_count_144 hp
  have h := az_f c7 h
  have nc7 := lv_neT c7 (a := 6) (by decide)
  by_cases c8 : p0 = 7
  · have h := az_t c8 h
    refine az_tabIn (off := 139) C 145 dX12_count_6 (by rw [c8]; decide) (by rw [c8]; decide) (by rw [c8]; decide) (by decide) ?_
    refine az_aload_n C 0 dX12_count_145 rfl ?_
    refine az_getr (r := 41) C o40 fl_X12_7 rfl rfl dX12_count_146 ?_
    refine az_iconst (v := 1) C dX12_count_149 (by decide) ?_
    refine az_ild (k := 1) C a41 (az_vin (by decide)) (by decide) dX12_count_150 ?_
    obtain rfl := Option.some.inj h
    exact az_iret C dX12_count_151 hp
  have h := az_f c8 h
  have nc8 := lv_neT c8 (a := 7) (by decide)
  by_cases c9 : p0 = 8
  · have h := az_t c9 h
    refine az_tabIn (off := 146) C 152 dX12_count_6 (by rw [c9]; decide) (by rw [c9]; decide) (by rw [c9]; decide) (by decide) ?_
    refine az_aload_n C 0 dX12_count_152 rfl ?_
    refine az_getr (r := 41) C o40 fl_X12_7 rfl rfl dX12_count_153 ?_
    refine az_iconst (v := 2) C dX12_count_156 (by decide) ?_
    refine az_ild (k := 2) C a41 (az_vin (by decide)) (by decide) dX12_count_157 ?_
    obtain rfl := Option.some.inj h
    exact az_iret C dX12_count_158 hp
  have h := az_f c9 h
  have nc9 := lv_neT c9 (a := 8) (by decide)
  by_cases c10 : p0 = 9
  · have h := az_t c10 h
    refine az_tabIn (off := 153) C 159 dX12_count_6 (by rw [c10]; decide) (by rw [c10]; decide) (by rw [c10]; decide) (by decide) ?_
    refine az_aload_n C 0 dX12_count_159 rfl ?_
    refine az_getr (r := 41) C o40 fl_X12_7 rfl rfl dX12_count_160 ?_
    refine az_iconst (v := 3) C dX12_count_163 (by decide) ?_
    refine az_ild (k := 3) C a41 (az_vin (by decide)) (by decide) dX12_count_164 ?_
    obtain rfl := Option.some.inj h
    exact az_iret C dX12_count_165 hp
  have h := az_f c10 h
  have nc10 := lv_neT c10 (a := 9) (by decide)
  by_cases c11 : p0 = 10
  · have h := az_t c11 h
    refine az_tabIn (off := 160) C 166 dX12_count_6 (by rw [c11]; decide) (by rw [c11]; decide) (by rw [c11]; decide) (by decide) ?_
    refine az_aload_n C 0 dX12_count_166 rfl ?_
    refine az_getr (r := 41) C o40 fl_X12_7 rfl rfl dX12_count_167 ?_
    refine az_iconst (v := 5) C dX12_count_170 (by decide) ?_
    refine az_ild (k := 5) C a41 (az_vin (by decide)) (by decide) dX12_count_171 ?_
    obtain rfl := Option.some.inj h
    exact az_iret C dX12_count_172 hp
  have h := az_f c11 h
  have nc11 := lv_neT c11 (a := 10) (by decide)
  by_cases c12 : p0 = 11
  · have h := az_t c12 h
    refine az_tabIn (off := 167) C 173 dX12_count_6 (by rw [c12]; decide) (by rw [c12]; decide) (by rw [c12]; decide) (by decide) ?_
    refine az_aload_n C 0 dX12_count_173 rfl ?_
    refine az_getr (r := 41) C o40 fl_X12_7 rfl rfl dX12_count_174 ?_
    refine az_bipush (v := 6) C dX12_count_177 (by decide) ?_
    refine az_ild (k := 6) C a41 (az_vin (by decide)) (by decide) dX12_count_179 ?_
    obtain rfl := Option.some.inj h
    exact az_iret C dX12_count_180 hp
  have h := az_f c12 h
  have nc12 := lv_neT c12 (a := 11) (by decide)
  by_cases c13 : p0 = 12
  · have h := az_t c13 h
    refine az_tabIn (off := 175) C 181 dX12_count_6 (by rw [c13]; decide) (by rw [c13]; decide) (by rw [c13]; decide) (by decide) ?_
    refine az_aload_n C 0 dX12_count_181 rfl ?_
    refine az_getr (r := 42) C o40 fl_X12_13 rfl rfl dX12_count_182 ?_
    refine az_iconst (v := 5) C dX12_count_185 (by decide) ?_
    refine az_ild (k := 5) C a42 (az_vin (by decide)) (by decide) dX12_count_186 ?_
    obtain rfl := Option.some.inj h
    exact az_iret C dX12_count_187 hp
  have h := az_f c13 h
  have nc13 := lv_neT c13 (a := 12) (by decide)
  by_cases c14 : p0 = 13
  · have h := az_t c14 h
    refine az_tabIn (off := 198) C 204 dX12_count_6 (by rw [c14]; decide) (by rw [c14]; decide) (by rw [c14]; decide) (by decide) ?_
    exact s_X12_count_204 C p0 (az_i M 40 0 0) r h hp
  have h := az_f c14 h
  have nc14 := lv_neT c14 (a := 13) (by decide)
  by_cases c15 : p0 = 14
  · have h := az_t c15 h
    refine az_tabIn (off := 198) C 204 dX12_count_6 (by rw [c15]; decide) (by rw [c15]; decide) (by rw [c15]; decide) (by decide) ?_
    exact s_X12_count_204 C p0 (az_i M 40 0 0) r h hp
  have h := az_f c15 h
  have nc15 := lv_neT c15 (a := 14) (by decide)
  by_cases c16 : p0 = 15
  · have h := az_t c16 h
    refine az_tabIn (off := 198) C 204 dX12_count_6 (by rw [c16]; decide) (by rw [c16]; decide) (by rw [c16]; decide) (by decide) ?_
    exact s_X12_count_204 C p0 (az_i M 40 0 0) r h hp
  have h := az_f c16 h
  have nc16 := lv_neT c16 (a := 15) (by decide)
  by_cases c17 : p0 = 16
  · have h := az_t c17 h
    refine az_tabIn (off := 198) C 204 dX12_count_6 (by rw [c17]; decide) (by rw [c17]; decide) (by rw [c17]; decide) (by decide) ?_
    exact s_X12_count_204 C p0 (az_i M 40 0 0) r h hp
  have h := az_f c17 h
  have nc17 := lv_neT c17 (a := 16) (by decide)
  by_cases c18 : p0 = 17
  · have h := az_t c18 h
    refine az_tabIn (off := 198) C 204 dX12_count_6 (by rw [c18]; decide) (by rw [c18]; decide) (by rw [c18]; decide) (by decide) ?_
    exact s_X12_count_204 C p0 (az_i M 40 0 0) r h hp
  have h := az_f c18 h
  have nc18 := lv_neT c18 (a := 17) (by decide)
  by_cases c19 : p0 = 18
  · have h := az_t c19 h
    refine az_tabIn (off := 182) C 188 dX12_count_6 (by rw [c19]; decide) (by rw [c19]; decide) (by rw [c19]; decide) (by decide) ?_
    refine az_aload_n C 0 dX12_count_188 rfl ?_
    refine az_getr (r := 42) C o40 fl_X12_13 rfl rfl dX12_count_189 ?_
    refine az_bipush (v := 15) C dX12_count_192 (by decide) ?_
    refine az_ild (k := 15) C a42 (az_vin (by decide)) (by decide) dX12_count_194 ?_
    obtain rfl := Option.some.inj h
    exact az_iret C dX12_count_195 hp
  have h := az_f c19 h
  have nc19 := lv_neT c19 (a := 18) (by decide)
  by_cases c20 : p0 = 19
  · have h := az_t c20 h
    refine az_tabIn (off := 190) C 196 dX12_count_6 (by rw [c20]; decide) (by rw [c20]; decide) (by rw [c20]; decide) (by decide) ?_
    refine az_aload_n C 0 dX12_count_196 rfl ?_
    refine az_getr (r := 42) C o40 fl_X12_13 rfl rfl dX12_count_197 ?_
    refine az_bipush (v := 16) C dX12_count_200 (by decide) ?_
    refine az_ild (k := 16) C a42 (az_vin (by decide)) (by decide) dX12_count_202 ?_
    obtain rfl := Option.some.inj h
    exact az_iret C dX12_count_203 hp
  have h := az_f c20 h
  have nc20 := lv_neT c20 (a := 19) (by decide)
  refine az_tabOut C 204 dX12_count_6 (by omega) (by decide) ?_
  exact s_X12_count_204 C p0 (az_i M 40 0 0) r h hp
theorem c_X12_count {l : Launch} {V : az_V} (hL : az_L V) (p0 : Int32) (M : az_M) {r : (Int32 × az_M)} (h : f_X12_count p0 M = some r) : az_Ct l V yX12_count cX12_count 2 (some .int) 2 [.ref (az_ad V 40), .int p0] M (fun v M' => v = some (.int r.1) ∧ M' = r.2) :=
  az_Ct.of (by decide) (Nat.le_of_ble_eq_true rfl) (fun Y _ _ C => s_X12_count_e C p0 M r h ⟨rfl, rfl⟩)
set_option maxHeartbeats 4000000 in
set_option maxRecDepth 100000 in
theorem s_X12_status_e {Y : az_Y} {V : az_V} {post : Option Value → az_M → Prop} (C : az_C Y V cX12_status 1 RX12 (some .int) 1)  (M : az_M) (r : (Int32 × az_M)) (h : f_X12_status M = some r) (hp : post (some (.int r.1)) r.2) : AW Y V (az_end Y V post) 1 M 0 [(0, .ref (az_ad V 40))] [] := by
  have o40 := C.hL.at 40 (ci := 12) rfl
  unfold f_X12_status at h
  refine az_aload_n C 0 dX12_status_0 rfl ?_
  refine az_iconst (v := 0) C dX12_status_1 (by decide) ?_
  refine az_puti C o40 fl_X12_149 rfl rfl rfl rfl dX12_status_2 ?_
  refine az_aload_n C 0 dX12_status_5 rfl ?_
  refine az_geti C o40 fl_X12_152 rfl dX12_status_6 ?_
  obtain rfl := Option.some.inj h
  exact az_iret C dX12_status_9 hp
theorem c_X12_status {l : Launch} {V : az_V} (hL : az_L V)  (M : az_M) {r : (Int32 × az_M)} (h : f_X12_status M = some r) : az_Ct l V yX12_status cX12_status 1 (some .int) 1 [.ref (az_ad V 40)] M (fun v M' => v = some (.int r.1) ∧ M' = r.2) :=
  az_Ct.of (by decide) (Nat.le_of_ble_eq_true rfl) (fun Y _ _ C => s_X12_status_e C M r h ⟨rfl, rfl⟩)
