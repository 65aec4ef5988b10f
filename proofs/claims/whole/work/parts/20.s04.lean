set_option maxHeartbeats 4000000 in
set_option maxRecDepth 100000 in
theorem s_X12_readExpression_72 {Y : az_Y} {V : az_V} {post : Option Value → az_M → Prop} (C : az_C Y V cX12_readExpression 3 RX12 none 7) (G : Nat) (K20 : (Int32 → Int32 → az_M → Option az_M)) (hK20 : ∀ (x1 : Int32) (x2 : Int32) (M : az_M) (r : az_M), K20 x1 x2 M = some r → post none r → AW Y V (az_end Y V post) 3 M 20 [(0, .ref (az_ad V 40)), (1, .int x1), (2, .int x2)] []) (x1 : Int32) (s0 : Int32) (M : az_M) (r : az_M) (h : f_X12_readExpression_72 G K20 x1 s0 M = some r) (hp : post none r) : AW Y V (az_end Y V post) 3 M 72 [(0, .ref (az_ad V 40)), (1, .int x1)] [.int s0] := by
  unfold f_X12_readExpression_72 at h
  refine az_istore_n C dX12_readExpression_72 rfl (by decide) rfl ?_
  refine az_goto C 20 dX12_readExpression_73 (by decide) ?_
  refine az_sub [1, 2, 0] rfl ?_
  exact hK20 x1 s0 M r h hp
set_option maxHeartbeats 4000000 in
set_option maxRecDepth 100000 in
theorem s_X12_readExpression_76 {Y : az_Y} {V : az_V} {post : Option Value → az_M → Prop} (C : az_C Y V cX12_readExpression 3 RX12 none 7) (G : Nat)  (M : az_M) (r : az_M) (h : f_X12_readExpression_76 G M = some r) (hp : post none r) : AW Y V (az_end Y V post) 3 M 76 [(0, .ref (az_ad V 40))] [] := by
  have o40 := C.hL.at 40 (ci := 12) rfl
  unfold f_X12_readExpression_76 at h
  refine az_aload_n C 0 dX12_readExpression_76 rfl ?_
  refine az_iconst (v := 1) C dX12_readExpression_77 (by decide) ?_
  obtain ⟨q15, e16, h⟩ := az_b h
  refine az_cV (rest := []) (st2 := []) C [.int 1] (c_X12_settle C.hL G 1 M e16) (by decide) li_X12_372 o40 (by decide) rfl rfl (Nat.le_of_ble_eq_true rfl) dX12_readExpression_78 rfl ?_
  obtain rfl := Option.some.inj h
  exact az_vret C rfl dX12_readExpression_81 hp
set_option maxHeartbeats 4000000 in
set_option maxRecDepth 100000 in
theorem s_X12_readExpression_20 {Y : az_Y} {V : az_V} {post : Option Value → az_M → Prop} (C : az_C Y V cX12_readExpression 3 RX12 none 7) (G : Nat) : ∀ (F : Nat) (x1 : Int32) (x2 : Int32) (M : az_M) (r : az_M), f_X12_readExpression_20 G F x1 x2 M = some r → post none r → AW Y V (az_end Y V post) 3 M 20 [(0, .ref (az_ad V 40)), (1, .int x1), (2, .int x2)] [] := by
  have o40 := C.hL.at 40 (ci := 12) rfl
  intro F
  induction F with
  | zero =>
    intro x1 x2 M r h
    exact absurd (show (none : Option az_M) = some r from h) (fun q => by cases q)
  | succ F ih =>
    intro x1 x2 M r h hp
    rw [f_X12_readExpression_20] at h
    refine az_aload_n C 0 dX12_readExpression_20 rfl ?_
    refine az_geti C o40 fl_X12_270 rfl dX12_readExpression_21 ?_
    refine az_if_ne C 76 dX12_readExpression_24 (by decide) (fun c2 => ?_) (fun c2 => ?_)
    · have h := az_f c2 h
      refine az_sub [0] rfl ?_
      exact s_X12_readExpression_76 C G M r h hp
    · have h := az_t c2 h
      refine az_iload_n C 2 dX12_readExpression_27 rfl ?_
      refine az_iconst (v := 4) C dX12_readExpression_28 (by decide) ?_
      refine az_icmp_eq C 76 dX12_readExpression_29 (by decide) (fun c3 => ?_) (fun c3 => ?_)
      · have h := az_t c3 h
        refine az_sub [0] rfl ?_
        exact s_X12_readExpression_76 C G M r h hp
      · have h := az_f c3 h
        refine az_iload_n C 2 dX12_readExpression_32 rfl ?_
        refine az_if_ne C 43 dX12_readExpression_33 (by decide) (fun c4 => ?_) (fun c4 => ?_)
        · have h := az_f c4 h
          refine az_iload_n C 2 dX12_readExpression_43 rfl ?_
          refine az_iconst (v := 1) C dX12_readExpression_44 (by decide) ?_
          refine az_icmp_ne C 55 dX12_readExpression_45 (by decide) (fun c5 => ?_) (fun c5 => ?_)
          · have h := az_f c5 h
            refine az_iload_n C 2 dX12_readExpression_55 rfl ?_
            refine az_iconst (v := 3) C dX12_readExpression_56 (by decide) ?_
            refine az_icmp_ne C 68 dX12_readExpression_57 (by decide) (fun c6 => ?_) (fun c6 => ?_)
            · have h := az_f c6 h
              refine az_aload_n C 0 dX12_readExpression_68 rfl ?_
              obtain ⟨q7, e8, h⟩ := az_b h
              refine az_cV (rest := []) (st2 := [.int q7.1]) C [] (c_X12_behindTest C.hL G M e8) (by decide) li_X12_392 o40 (by decide) rfl rfl (Nat.le_of_ble_eq_true rfl) dX12_readExpression_69 rfl ?_
              refine az_sub [0, 1] rfl ?_
              exact s_X12_readExpression_72 C G (f_X12_readExpression_20 G F) ih x1 q7.1 q7.2 r h hp
            · have h := az_t c6 h
              refine az_aload_n C 0 dX12_readExpression_60 rfl ?_
              refine az_iload_n C 1 dX12_readExpression_61 rfl ?_
              obtain ⟨q9, e10, h⟩ := az_b h
              refine az_cV (rest := []) (st2 := [.int q9.1]) C [.int x1] (c_X12_behindSum C.hL G x1 M e10) (by decide) li_X12_388 o40 (by decide) rfl rfl (Nat.le_of_ble_eq_true rfl) dX12_readExpression_62 rfl ?_
              refine az_goto C 72 dX12_readExpression_65 (by decide) ?_
              refine az_sub [0, 1] rfl ?_
              exact s_X12_readExpression_72 C G (f_X12_readExpression_20 G F) ih x1 q9.1 q9.2 r h hp
          · have h := az_t c5 h
            refine az_aload_n C 0 dX12_readExpression_48 rfl ?_
            obtain ⟨q11, e12, h⟩ := az_b h
            refine az_cV (rest := []) (st2 := [.int q11.1]) C [] (c_X12_readPart C.hL G M e12) (by decide) li_X12_369 o40 (by decide) rfl rfl (Nat.le_of_ble_eq_true rfl) dX12_readExpression_49 rfl ?_
            refine az_goto C 72 dX12_readExpression_52 (by decide) ?_
            refine az_sub [0, 1] rfl ?_
            exact s_X12_readExpression_72 C G (f_X12_readExpression_20 G F) ih x1 q11.1 q11.2 r h hp
        · have h := az_t c4 h
          refine az_aload_n C 0 dX12_readExpression_36 rfl ?_
          obtain ⟨q13, e14, h⟩ := az_b h
          refine az_cV (rest := []) (st2 := [.int q13.1]) C [] (c_X12_readPlain C.hL G M e14) (by decide) li_X12_385 o40 (by decide) rfl rfl (Nat.le_of_ble_eq_true rfl) dX12_readExpression_37 rfl ?_
          refine az_goto C 72 dX12_readExpression_40 (by decide) ?_
          refine az_sub [0, 1] rfl ?_
          exact s_X12_readExpression_72 C G (f_X12_readExpression_20 G F) ih x1 q13.1 q13.2 r h hp
set_option maxHeartbeats 4000000 in
set_option maxRecDepth 100000 in
theorem s_X12_readExpression_19 {Y : az_Y} {V : az_V} {post : Option Value → az_M → Prop} (C : az_C Y V cX12_readExpression 3 RX12 none 7) (G : Nat) (x1 : Int32) (s0 : Int32) (M : az_M) (r : az_M) (h : f_X12_readExpression_19 G x1 s0 M = some r) (hp : post none r) : AW Y V (az_end Y V post) 3 M 19 [(0, .ref (az_ad V 40)), (1, .int x1)] [.int s0] := by
  unfold f_X12_readExpression_19 at h
  refine az_istore_n C dX12_readExpression_19 rfl (by decide) rfl ?_
  refine az_sub [1, 2, 0] rfl ?_
  exact s_X12_readExpression_20 C G G x1 s0 M r h hp
set_option maxHeartbeats 4000000 in
set_option maxRecDepth 100000 in
theorem s_X12_readExpression_e {Y : az_Y} {V : az_V} {post : Option Value → az_M → Prop} (C : az_C Y V cX12_readExpression 3 RX12 none 7) (G : Nat) (p0 : Int32) (M : az_M) (r : az_M) (h : f_X12_readExpression G p0 M = some r) (hp : post none r) : AW Y V (az_end Y V post) 3 M 0 [(0, .ref (az_ad V 40)), (1, .int p0)] [] := by
  have o40 := C.hL.at 40 (ci := 12) rfl
  unfold f_X12_readExpression at h
  refine az_aload_n C 0 dX12_readExpression_0 rfl ?_
  refine az_iconst (v := 0) C dX12_readExpression_1 (by decide) ?_
  refine az_puti C o40 fl_X12_310 rfl rfl rfl rfl dX12_readExpression_2 ?_
  refine az_aload_n C 0 dX12_readExpression_5 rfl ?_
  refine az_iconst (v := 0) C dX12_readExpression_6 (by decide) ?_
  refine az_puti C o40 fl_X12_330 rfl rfl rfl rfl dX12_readExpression_7 ?_
  refine az_iload_n C 1 dX12_readExpression_10 rfl ?_
  refine az_if_eq C 18 dX12_readExpression_11 (by decide) (fun c1 => ?_) (fun c1 => ?_)
  · have h := az_t c1 h
    refine az_iconst (v := 1) C dX12_readExpression_18 (by decide) ?_
    exact s_X12_readExpression_19 C G p0 1 (az_i (az_i M 40 29 0) 40 30 0) r h hp
  · have h := az_f c1 h
    refine az_iconst (v := 0) C dX12_readExpression_14 (by decide) ?_
    refine az_goto C 19 dX12_readExpression_15 (by decide) ?_
    exact s_X12_readExpression_19 C G p0 0 (az_i (az_i M 40 29 0) 40 30 0) r h hp
theorem c_X12_readExpression {l : Launch} {V : az_V} (hL : az_L V) (G : Nat) (p0 : Int32) (M : az_M) {r : az_M} (h : f_X12_readExpression G p0 M = some r) : az_Ct l V yX12_readExpression cX12_readExpression 3 none 7 [.ref (az_ad V 40), .int p0] M (fun v M' => v = none ∧ M' = r) :=
  az_Ct.of (by decide) (Nat.le_of_ble_eq_true rfl) (fun Y _ _ C => s_X12_readExpression_e C G p0 M r h ⟨rfl, rfl⟩)
set_option maxHeartbeats 4000000 in
set_option maxRecDepth 100000 in
theorem s_X12_beginText_e {Y : az_Y} {V : az_V} {post : Option Value → az_M → Prop} (C : az_C Y V cX12_beginText 2 RX12 none 4) (G : Nat) (p0 : Int32) (M : az_M) (r : az_M) (h : f_X12_beginText G p0 M = some r) (hp : post none r) : AW Y V (az_end Y V post) 2 M 0 [(0, .ref (az_ad V 40)), (1, .int p0)] [] := by
  have o40 := C.hL.at 40 (ci := 12) rfl
  unfold f_X12_beginText at h
  refine az_aload_n C 0 dX12_beginText_0 rfl ?_
  refine az_iload_n C 1 dX12_beginText_1 rfl ?_
  obtain ⟨g1, h⟩ := az_g2 h
  refine az_puti C o40 fl_X12_345 rfl rfl (az_nz g1) (az_fz g1) dX12_beginText_2 ?_
  refine az_aload_n C 0 dX12_beginText_5 rfl ?_
  obtain ⟨q2, e3, h⟩ := az_b h
  refine az_cV (rest := []) (st2 := []) C [] (c_X12_begin C.hL G (az_i M 40 20 p0) e3) (by decide) li_X12_395 o40 (by decide) rfl rfl (Nat.le_of_ble_eq_true rfl) dX12_beginText_6 rfl ?_
  refine az_aload_n C 0 dX12_beginText_9 rfl ?_
  refine az_iconst (v := 0) C dX12_beginText_10 (by decide) ?_
  refine az_puti C o40 fl_X12_398 rfl rfl rfl rfl dX12_beginText_11 ?_
  refine az_aload_n C 0 dX12_beginText_14 rfl ?_
  refine az_iconst (v := 0) C dX12_beginText_15 (by decide) ?_
  refine az_puti C o40 fl_X12_307 rfl rfl rfl rfl dX12_beginText_16 ?_
  refine az_aload_n C 0 dX12_beginText_19 rfl ?_
  refine az_iconst (v := 0) C dX12_beginText_20 (by decide) ?_
  refine az_puti C o40 fl_X12_336 rfl rfl rfl rfl dX12_beginText_21 ?_
  obtain rfl := Option.some.inj h
  exact az_vret C rfl dX12_beginText_24 hp
theorem c_X12_beginText {l : Launch} {V : az_V} (hL : az_L V) (G : Nat) (p0 : Int32) (M : az_M) {r : az_M} (h : f_X12_beginText G p0 M = some r) : az_Ct l V yX12_beginText cX12_beginText 2 none 4 [.ref (az_ad V 40), .int p0] M (fun v M' => v = none ∧ M' = r) :=
  az_Ct.of (by decide) (Nat.le_of_ble_eq_true rfl) (fun Y _ _ C => s_X12_beginText_e C G p0 M r h ⟨rfl, rfl⟩)
set_option maxHeartbeats 4000000 in
set_option maxRecDepth 100000 in
theorem s_X12_endText_19 {Y : az_Y} {V : az_V} {post : Option Value → az_M → Prop} (C : az_C Y V cX12_endText 1 RX12 none 4) (G : Nat)  (M : az_M) (r : az_M) (h : f_X12_endText_19 G M = some r) (hp : post none r) : AW Y V (az_end Y V post) 1 M 19 [(0, .ref (az_ad V 40))] [] := by
  have o40 := C.hL.at 40 (ci := 12) rfl
  unfold f_X12_endText_19 at h
  refine az_aload_n C 0 dX12_endText_19 rfl ?_
  refine az_iconst (v := 0) C dX12_endText_20 (by decide) ?_
  refine az_puti C o40 fl_X12_345 rfl rfl rfl rfl dX12_endText_21 ?_
  refine az_aload_n C 0 dX12_endText_24 rfl ?_
  refine az_iconst (v := 0) C dX12_endText_25 (by decide) ?_
  refine az_puti C o40 fl_X12_258 rfl rfl rfl rfl dX12_endText_26 ?_
  obtain rfl := Option.some.inj h
  exact az_vret C rfl dX12_endText_29 hp
set_option maxHeartbeats 4000000 in
set_option maxRecDepth 100000 in
theorem s_X12_endText_e {Y : az_Y} {V : az_V} {post : Option Value → az_M → Prop} (C : az_C Y V cX12_endText 1 RX12 none 4) (G : Nat)  (M : az_M) (r : az_M) (h : f_X12_endText G M = some r) (hp : post none r) : AW Y V (az_end Y V post) 1 M 0 [(0, .ref (az_ad V 40))] [] := by
  have o40 := C.hL.at 40 (ci := 12) rfl
  unfold f_X12_endText at h
  refine az_aload_n C 0 dX12_endText_0 rfl ?_
  refine az_geti C o40 fl_X12_270 rfl dX12_endText_1 ?_
  refine az_if_ne C 19 dX12_endText_4 (by decide) (fun c1 => ?_) (fun c1 => ?_)
  · have h := az_f c1 h
    exact s_X12_endText_19 C G M r h hp
  · have h := az_t c1 h
    refine az_aload_n C 0 dX12_endText_7 rfl ?_
    refine az_geti C o40 fl_X12_290 rfl dX12_endText_8 ?_
    refine az_if_eq C 19 dX12_endText_11 (by decide) (fun c2 => ?_) (fun c2 => ?_)
    · have h := az_t c2 h
      exact s_X12_endText_19 C G M r h hp
    · have h := az_f c2 h
      refine az_aload_n C 0 dX12_endText_14 rfl ?_
      refine az_iconst (v := 0) C dX12_endText_15 (by decide) ?_
      obtain ⟨q3, e4, h⟩ := az_b h
      refine az_cV (rest := []) (st2 := []) C [.int 0] (c_X12_must C.hL G 0 M e4) (by decide) li_X12_303 o40 (by decide) rfl rfl (Nat.le_of_ble_eq_true rfl) dX12_endText_16 rfl ?_
      exact s_X12_endText_19 C G q3 r h hp
theorem c_X12_endText {l : Launch} {V : az_V} (hL : az_L V) (G : Nat)  (M : az_M) {r : az_M} (h : f_X12_endText G M = some r) : az_Ct l V yX12_endText cX12_endText 1 none 4 [.ref (az_ad V 40)] M (fun v M' => v = none ∧ M' = r) :=
  az_Ct.of (by decide) (Nat.le_of_ble_eq_true rfl) (fun Y _ _ C => s_X12_endText_e C G M r h ⟨rfl, rfl⟩)
set_option maxHeartbeats 4000000 in
set_option maxRecDepth 100000 in
theorem s_X12_readLaw_27 {Y : az_Y} {V : az_V} {post : Option Value → az_M → Prop} (C : az_C Y V cX12_readLaw 4 RX12 none 8) (G : Nat) (K4 : (Int32 → Int32 → az_M → Option az_M)) (hK4 : ∀ (x1 : Int32) (x2 : Int32) (M : az_M) (r : az_M), K4 x1 x2 M = some r → post none r → AW Y V (az_end Y V post) 4 M 4 [(0, .ref (az_ad V 40)), (1, .int x1), (2, .int x2)] []) (x2 : Int32) (s0 : Int32) (M : az_M) (r : az_M) (h : f_X12_readLaw_27 G K4 x2 s0 M = some r) (hp : post none r) : AW Y V (az_end Y V post) 4 M 27 [(0, .ref (az_ad V 40)), (2, .int x2)] [.int s0] := by
  unfold f_X12_readLaw_27 at h
  refine az_istore_n C dX12_readLaw_27 rfl (by decide) rfl ?_
  refine az_iinc (v := (x2 + 1)) C 2 dX12_readLaw_28 rfl rfl (by decide) rfl ?_
  refine az_goto C 4 dX12_readLaw_31 (by decide) ?_
  refine az_sub [2, 1, 0] rfl ?_
  exact hK4 s0 (x2 + 1) M r h hp
set_option maxHeartbeats 4000000 in
set_option maxRecDepth 100000 in
theorem s_X12_readLaw_185 {Y : az_Y} {V : az_V} {post : Option Value → az_M → Prop} (C : az_C Y V cX12_readLaw 4 RX12 none 8) (G : Nat) (x2 : Int32) (M : az_M) (r : az_M) (h : f_X12_readLaw_185 G x2 M = some r) (hp : post none r) : AW Y V (az_end Y V post) 4 M 185 [(0, .ref (az_ad V 40)), (2, .int x2)] [] := by
  have o40 := C.hL.at 40 (ci := 12) rfl
  have a50 := C.hL.ar 50 (t := 0) (len := 96) rfl
  unfold f_X12_readLaw_185 at h
  refine az_aload_n C 0 dX12_readLaw_185 rfl ?_
  refine az_getr (r := 50) C o40 fl_X12_42 rfl rfl dX12_readLaw_186 ?_
  refine az_iload_n C 1 dX12_readLaw_189 rfl ?_
  refine az_bipush (v := 6) C dX12_readLaw_190 (by decide) ?_
  refine az_iadd C dX12_readLaw_192 ?_
  refine az_aload_n C 0 dX12_readLaw_193 rfl ?_
  refine az_geti C o40 fl_X12_307 rfl dX12_readLaw_194 ?_
  obtain ⟨g28, h⟩ := az_g h
  refine az_ist (k := (x2 + 6).toNatClampNeg) C a50 g28 rfl dX12_readLaw_197 ?_
  obtain rfl := Option.some.inj h
  exact az_vret C rfl dX12_readLaw_198 hp
set_option maxHeartbeats 4000000 in
set_option maxRecDepth 100000 in
theorem s_X12_readLaw_135 {Y : az_Y} {V : az_V} {post : Option Value → az_M → Prop} (C : az_C Y V cX12_readLaw 4 RX12 none 8) (G : Nat) (x2 : Int32) (M : az_M) (r : az_M) (h : f_X12_readLaw_135 G x2 M = some r) (hp : post none r) : AW Y V (az_end Y V post) 4 M 135 [(0, .ref (az_ad V 40)), (2, .int x2)] [] := by
  have o40 := C.hL.at 40 (ci := 12) rfl
  have a50 := C.hL.ar 50 (t := 0) (len := 96) rfl
  unfold f_X12_readLaw_135 at h
  refine az_aload_n C 0 dX12_readLaw_135 rfl ?_
  refine az_getr (r := 50) C o40 fl_X12_42 rfl rfl dX12_readLaw_136 ?_
  refine az_iload_n C 1 dX12_readLaw_139 rfl ?_
  refine az_iconst (v := 4) C dX12_readLaw_140 (by decide) ?_
  refine az_iadd C dX12_readLaw_141 ?_
  refine az_aload_n C 0 dX12_readLaw_142 rfl ?_
  refine az_geti C o40 fl_X12_307 rfl dX12_readLaw_143 ?_
  obtain ⟨g18, h⟩ := az_g h
  refine az_ist (k := (x2 + 4).toNatClampNeg) C a50 g18 rfl dX12_readLaw_146 ?_
  refine az_aload_n C 0 dX12_readLaw_147 rfl ?_
  refine az_getr (r := 50) C o40 fl_X12_42 rfl rfl dX12_readLaw_148 ?_
  refine az_iload_n C 1 dX12_readLaw_151 rfl ?_
  refine az_iconst (v := 5) C dX12_readLaw_152 (by decide) ?_
  refine az_iadd C dX12_readLaw_153 ?_
  refine az_aload_n C 0 dX12_readLaw_154 rfl ?_
  refine az_geti C o40 fl_X12_307 rfl dX12_readLaw_155 ?_
  obtain ⟨g19, h⟩ := az_g h
  refine az_ist (k := (x2 + 5).toNatClampNeg) C a50 g19 rfl dX12_readLaw_158 ?_
  refine az_aload_n C 0 dX12_readLaw_159 rfl ?_
  refine az_geti C o40 fl_X12_270 rfl dX12_readLaw_160 ?_
  refine az_if_ne C 185 dX12_readLaw_163 (by decide) (fun c20 => ?_) (fun c20 => ?_)
  · have h := az_f c20 h
    exact s_X12_readLaw_185 C G x2 (az_i (az_i M 50 ((x2 + 4).toNatClampNeg) (M.1 40 23)) 50 ((x2 + 5).toNatClampNeg) ((az_i M 50 ((x2 + 4).toNatClampNeg) (M.1 40 23)).1 40 23)) r h hp
  · have h := az_t c20 h
    refine az_aload_n C 0 dX12_readLaw_166 rfl ?_
    refine az_ldc2 C ck_X12_404 dX12_readLaw_167 ?_
    obtain ⟨q21, e22, h⟩ := az_b h
    refine az_cV (rest := []) (st2 := [.int q21]) C [.long 294] (c_X12_isWord C.hL 294 (az_i (az_i M 50 ((x2 + 4).toNatClampNeg) (M.1 40 23)) 50 ((x2 + 5).toNatClampNeg) ((az_i M 50 ((x2 + 4).toNatClampNeg) (M.1 40 23)).1 40 23)) e22) (by decide) li_X12_326 o40 (by decide) rfl rfl (Nat.le_of_ble_eq_true rfl) dX12_readLaw_170 rfl ?_
    refine az_if_eq C 185 dX12_readLaw_173 (by decide) (fun c23 => ?_) (fun c23 => ?_)
    · have h := az_t c23 h
      exact s_X12_readLaw_185 C G x2 (az_i (az_i M 50 ((x2 + 4).toNatClampNeg) (M.1 40 23)) 50 ((x2 + 5).toNatClampNeg) ((az_i M 50 ((x2 + 4).toNatClampNeg) (M.1 40 23)).1 40 23)) r h hp
    · have h := az_f c23 h
      refine az_aload_n C 0 dX12_readLaw_176 rfl ?_
      obtain ⟨q24, e25, h⟩ := az_b h
      refine az_cV (rest := []) (st2 := []) C [] (c_X12_next C.hL G (az_i (az_i M 50 ((x2 + 4).toNatClampNeg) (M.1 40 23)) 50 ((x2 + 5).toNatClampNeg) ((az_i M 50 ((x2 + 4).toNatClampNeg) (M.1 40 23)).1 40 23)) e25) (by decide) li_X12_274 o40 (by decide) rfl rfl (Nat.le_of_ble_eq_true rfl) dX12_readLaw_177 rfl ?_
      refine az_aload_n C 0 dX12_readLaw_180 rfl ?_
      refine az_iconst (v := 1) C dX12_readLaw_181 (by decide) ?_
      obtain ⟨q26, e27, h⟩ := az_b h
      refine az_cV (rest := []) (st2 := []) C [.int 1] (c_X12_readExpression C.hL G 1 q24 e27) (by decide) li_X12_401 o40 (by decide) rfl rfl (Nat.le_of_ble_eq_true rfl) dX12_readLaw_182 rfl ?_
      exact s_X12_readLaw_185 C G x2 q26 r h hp
set_option maxHeartbeats 4000000 in
set_option maxRecDepth 100000 in
theorem s_X12_readLaw_75 {Y : az_Y} {V : az_V} {post : Option Value → az_M → Prop} (C : az_C Y V cX12_readLaw 4 RX12 none 8) (G : Nat) : ∀ (F : Nat) (x1 : Int32) (x2 : Int32) (x3 : Int32) (M : az_M) (r : az_M), f_X12_readLaw_75 G F x1 x2 x3 M = some r → post none r → AW Y V (az_end Y V post) 4 M 75 [(0, .ref (az_ad V 40)), (1, .int x1), (2, .int x2), (3, .int x3)] [] := by
  have o40 := C.hL.at 40 (ci := 12) rfl
  have a50 := C.hL.ar 50 (t := 0) (len := 96) rfl
  intro F
  induction F with
  | zero =>
    intro x1 x2 x3 M r h
    exact absurd (show (none : Option az_M) = some r from h) (fun q => by cases q)
  | succ F ih =>
    intro x1 x2 x3 M r h hp
    rw [f_X12_readLaw_75] at h
    refine az_iload_n C 3 dX12_readLaw_75 rfl ?_
    refine az_bipush (v := 8) C dX12_readLaw_76 (by decide) ?_
    refine az_icmp_ge C 96 dX12_readLaw_78 (by decide) (fun c11 => ?_) (fun c11 => ?_)
    · have h := az_t c11 h
      refine az_aload_n C 0 dX12_readLaw_96 rfl ?_
      refine az_getr (r := 50) C o40 fl_X12_42 rfl rfl dX12_readLaw_97 ?_
      refine az_iload_n C 2 dX12_readLaw_100 rfl ?_
      refine az_iload_n C 1 dX12_readLaw_101 rfl ?_
      obtain ⟨g12, h⟩ := az_g h
      refine az_ist (k := x2.toNatClampNeg) C a50 g12 rfl dX12_readLaw_102 ?_
      refine az_aload_n C 0 dX12_readLaw_103 rfl ?_
      refine az_dup C dX12_readLaw_104 rfl ?_
      refine az_geti C o40 fl_X12_398 rfl dX12_readLaw_105 ?_
      refine az_iconst (v := 1) C dX12_readLaw_108 (by decide) ?_
      refine az_iadd C dX12_readLaw_109 ?_
      refine az_puti C o40 fl_X12_398 rfl rfl rfl rfl dX12_readLaw_110 ?_
      refine az_aload_n C 0 dX12_readLaw_113 rfl ?_
      refine az_getr (r := 50) C o40 fl_X12_42 rfl rfl dX12_readLaw_114 ?_
      refine az_iload_n C 2 dX12_readLaw_117 rfl ?_
      refine az_iconst (v := 3) C dX12_readLaw_118 (by decide) ?_
      refine az_iadd C dX12_readLaw_119 ?_
      refine az_aload_n C 0 dX12_readLaw_120 rfl ?_
      refine az_geti C o40 fl_X12_307 rfl dX12_readLaw_121 ?_
      obtain ⟨g13, h⟩ := az_g h
      refine az_ist (k := (x2 + 3).toNatClampNeg) C a50 g13 rfl dX12_readLaw_124 ?_
      refine az_iload_n C 1 dX12_readLaw_125 rfl ?_
      refine az_iconst (v := 4) C dX12_readLaw_126 (by decide) ?_
      refine az_icmp_eq C 135 dX12_readLaw_127 (by decide) (fun c14 => ?_) (fun c14 => ?_)
      · have h := az_t c14 h
        refine az_sub [0, 2] rfl ?_
        exact s_X12_readLaw_135 C G x2 (az_i (az_i (az_i M 50 x2.toNatClampNeg x1) 40 21 (((az_i M 50 x2.toNatClampNeg x1).1 40 21) + 1)) 50 ((x2 + 3).toNatClampNeg) ((az_i (az_i M 50 x2.toNatClampNeg x1) 40 21 (((az_i M 50 x2.toNatClampNeg x1).1 40 21) + 1)).1 40 23)) r h hp
      · have h := az_f c14 h
        refine az_aload_n C 0 dX12_readLaw_130 rfl ?_
        refine az_iconst (v := 0) C dX12_readLaw_131 (by decide) ?_
        obtain ⟨q15, e16, h⟩ := az_b h
        refine az_cV (rest := []) (st2 := []) C [.int 0] (c_X12_readExpression C.hL G 0 (az_i (az_i (az_i M 50 x2.toNatClampNeg x1) 40 21 (((az_i M 50 x2.toNatClampNeg x1).1 40 21) + 1)) 50 ((x2 + 3).toNatClampNeg) ((az_i (az_i M 50 x2.toNatClampNeg x1) 40 21 (((az_i M 50 x2.toNatClampNeg x1).1 40 21) + 1)).1 40 23)) e16) (by decide) li_X12_401 o40 (by decide) rfl rfl (Nat.le_of_ble_eq_true rfl) dX12_readLaw_132 rfl ?_
        refine az_sub [0, 2] rfl ?_
        exact s_X12_readLaw_135 C G x2 q15 r h hp
    · have h := az_f c11 h
      refine az_aload_n C 0 dX12_readLaw_81 rfl ?_
      refine az_getr (r := 50) C o40 fl_X12_42 rfl rfl dX12_readLaw_82 ?_
      refine az_iload_n C 2 dX12_readLaw_85 rfl ?_
      refine az_iload_n C 3 dX12_readLaw_86 rfl ?_
      refine az_iadd C dX12_readLaw_87 ?_
      refine az_iconst (v := 0) C dX12_readLaw_88 (by decide) ?_
      obtain ⟨g17, h⟩ := az_g h
      refine az_ist (k := (x2 + x3).toNatClampNeg) C a50 g17 rfl dX12_readLaw_89 ?_
      refine az_iinc (v := (x3 + 1)) C 3 dX12_readLaw_90 rfl rfl (by decide) rfl ?_
      refine az_goto C 75 dX12_readLaw_93 (by decide) ?_
      refine az_sub [1, 2, 3, 0] rfl ?_
      exact ih x1 x2 (x3 + 1) (az_i M 50 ((x2 + x3).toNatClampNeg) 0) r h hp
set_option maxHeartbeats 4000000 in
set_option maxRecDepth 100000 in
theorem s_X12_readLaw_54 {Y : az_Y} {V : az_V} {post : Option Value → az_M → Prop} (C : az_C Y V cX12_readLaw 4 RX12 none 8) (G : Nat) (x1 : Int32) (s0 : Int32) (M : az_M) (r : az_M) (h : f_X12_readLaw_54 G x1 s0 M = some r) (hp : post none r) : AW Y V (az_end Y V post) 4 M 54 [(0, .ref (az_ad V 40)), (1, .int x1)] [.int s0, .ref (az_ad V 40)] := by
  have o40 := C.hL.at 40 (ci := 12) rfl
  unfold f_X12_readLaw_54 at h
  obtain ⟨q8, e9, h⟩ := az_b h
  refine az_cV (rest := []) (st2 := []) C [.int s0] (c_X12_must C.hL G s0 M e9) (by decide) li_X12_303 o40 (by decide) rfl rfl (Nat.le_of_ble_eq_true rfl) dX12_readLaw_54 rfl ?_
  refine az_aload_n C 0 dX12_readLaw_57 rfl ?_
  refine az_geti C o40 fl_X12_270 rfl dX12_readLaw_58 ?_
  refine az_if_eq C 65 dX12_readLaw_61 (by decide) (fun c10 => ?_) (fun c10 => ?_)
  · have h := az_t c10 h
    refine az_bipush (v := 8) C dX12_readLaw_65 (by decide) ?_
    refine az_aload_n C 0 dX12_readLaw_67 rfl ?_
    refine az_geti C o40 fl_X12_398 rfl dX12_readLaw_68 ?_
    refine az_imul C dX12_readLaw_71 ?_
    refine az_istore_n C dX12_readLaw_72 rfl (by decide) rfl ?_
    refine az_iconst (v := 0) C dX12_readLaw_73 (by decide) ?_
    refine az_istore_n C dX12_readLaw_74 rfl (by decide) rfl ?_
    refine az_sub [2, 3, 1, 0] rfl ?_
    exact s_X12_readLaw_75 C G G x1 (8 * (q8.1 40 21)) 0 q8 r h hp
  · have h := az_f c10 h
    obtain rfl := Option.some.inj h
    exact az_vret C rfl dX12_readLaw_64 hp
set_option maxHeartbeats 4000000 in
set_option maxRecDepth 100000 in
theorem s_X12_readLaw_53 {Y : az_Y} {V : az_V} {post : Option Value → az_M → Prop} (C : az_C Y V cX12_readLaw 4 RX12 none 8) (G : Nat) (x1 : Int32) (M : az_M) (r : az_M) (h : f_X12_readLaw_53 G x1 M = some r) (hp : post none r) : AW Y V (az_end Y V post) 4 M 53 [(0, .ref (az_ad V 40)), (1, .int x1)] [.ref (az_ad V 40)] := by
  unfold f_X12_readLaw_53 at h
  refine az_iconst (v := 0) C dX12_readLaw_53 (by decide) ?_
  exact s_X12_readLaw_54 C G x1 0 M r h hp
set_option maxHeartbeats 4000000 in
set_option maxRecDepth 100000 in
theorem s_X12_readLaw_4 {Y : az_Y} {V : az_V} {post : Option Value → az_M → Prop} (C : az_C Y V cX12_readLaw 4 RX12 none 8) (G : Nat) : ∀ (F : Nat) (x1 : Int32) (x2 : Int32) (M : az_M) (r : az_M), f_X12_readLaw_4 G F x1 x2 M = some r → post none r → AW Y V (az_end Y V post) 4 M 4 [(0, .ref (az_ad V 40)), (1, .int x1), (2, .int x2)] [] := by
  have o40 := C.hL.at 40 (ci := 12) rfl
  have a57 := C.hL.ar 57 (t := 1) (len := 5) rfl
  intro F
  induction F with
  | zero =>
    intro x1 x2 M r h
    exact absurd (show (none : Option az_M) = some r from h) (fun q => by cases q)
  | succ F ih =>
    intro x1 x2 M r h hp
    rw [f_X12_readLaw_4] at h
    refine az_iload_n C 2 dX12_readLaw_4 rfl ?_
    refine az_iconst (v := 5) C dX12_readLaw_5 (by decide) ?_
    refine az_icmp_ge C 34 dX12_readLaw_6 (by decide) (fun c1 => ?_) (fun c1 => ?_)
    · have h := az_t c1 h
      refine az_aload_n C 0 dX12_readLaw_34 rfl ?_
      refine az_iload_n C 1 dX12_readLaw_35 rfl ?_
      refine az_iconst (v := (-1)) C dX12_readLaw_36 (by decide) ?_
      refine az_icmp_eq C 53 dX12_readLaw_37 (by decide) (fun c2 => ?_) (fun c2 => ?_)
      · have h := az_t c2 h
        refine az_sub [0, 1] rfl ?_
        exact s_X12_readLaw_53 C G x1 M r h hp
      · have h := az_f c2 h
        refine az_aload_n C 0 dX12_readLaw_40 rfl ?_
        refine az_geti C o40 fl_X12_398 rfl dX12_readLaw_41 ?_
        refine az_bipush (v := 12) C dX12_readLaw_44 (by decide) ?_
        refine az_icmp_ge C 53 dX12_readLaw_46 (by decide) (fun c3 => ?_) (fun c3 => ?_)
        · have h := az_t c3 h
          refine az_sub [0, 1] rfl ?_
          exact s_X12_readLaw_53 C G x1 M r h hp
        · have h := az_f c3 h
          refine az_iconst (v := 1) C dX12_readLaw_49 (by decide) ?_
          refine az_goto C 54 dX12_readLaw_50 (by decide) ?_
          refine az_sub [0, 1] rfl ?_
          exact s_X12_readLaw_54 C G x1 1 M r h hp
    · have h := az_f c1 h
      refine az_aload_n C 0 dX12_readLaw_9 rfl ?_
      refine az_aload_n C 0 dX12_readLaw_10 rfl ?_
      refine az_getr (r := 57) C o40 fl_X12_104 rfl rfl dX12_readLaw_11 ?_
      refine az_iload_n C 2 dX12_readLaw_14 rfl ?_
      obtain ⟨g4, h⟩ := az_g h
      refine az_lld (k := x2.toNatClampNeg) C a57 g4 rfl dX12_readLaw_15 ?_
      obtain ⟨q5, e6, h⟩ := az_b h
      refine az_cV (rest := []) (st2 := [.int q5]) C [.long (M.2.1 57 x2.toNatClampNeg)] (c_X12_isWord C.hL (M.2.1 57 x2.toNatClampNeg) M e6) (by decide) li_X12_326 o40 (by decide) rfl rfl (Nat.le_of_ble_eq_true rfl) dX12_readLaw_16 rfl ?_
      refine az_if_eq C 26 dX12_readLaw_19 (by decide) (fun c7 => ?_) (fun c7 => ?_)
      · have h := az_t c7 h
        refine az_iload_n C 1 dX12_readLaw_26 rfl ?_
        refine az_sub [0, 2] rfl ?_
        exact s_X12_readLaw_27 C G (f_X12_readLaw_4 G F) ih x2 x1 M r h hp
      · have h := az_f c7 h
        refine az_iload_n C 2 dX12_readLaw_22 rfl ?_
        refine az_goto C 27 dX12_readLaw_23 (by decide) ?_
        refine az_sub [0, 2] rfl ?_
        exact s_X12_readLaw_27 C G (f_X12_readLaw_4 G F) ih x2 x2 M r h hp
set_option maxHeartbeats 4000000 in
set_option maxRecDepth 100000 in
theorem s_X12_readLaw_e {Y : az_Y} {V : az_V} {post : Option Value → az_M → Prop} (C : az_C Y V cX12_readLaw 4 RX12 none 8) (G : Nat)  (M : az_M) (r : az_M) (h : f_X12_readLaw G M = some r) (hp : post none r) : AW Y V (az_end Y V post) 4 M 0 [(0, .ref (az_ad V 40))] [] := by
  unfold f_X12_readLaw at h
  refine az_iconst (v := (-1)) C dX12_readLaw_0 (by decide) ?_
  refine az_istore_n C dX12_readLaw_1 rfl (by decide) rfl ?_
  refine az_iconst (v := 0) C dX12_readLaw_2 (by decide) ?_
  refine az_istore_n C dX12_readLaw_3 rfl (by decide) rfl ?_
  refine az_sub [2, 1, 0] rfl ?_
  exact s_X12_readLaw_4 C G G (-1) 0 M r h hp
theorem c_X12_readLaw {l : Launch} {V : az_V} (hL : az_L V) (G : Nat)  (M : az_M) {r : az_M} (h : f_X12_readLaw G M = some r) : az_Ct l V yX12_readLaw cX12_readLaw 4 none 8 [.ref (az_ad V 40)] M (fun v M' => v = none ∧ M' = r) :=
  az_Ct.of (by decide) (Nat.le_of_ble_eq_true rfl) (fun Y _ _ C => s_X12_readLaw_e C G M r h ⟨rfl, rfl⟩)
set_option maxHeartbeats 4000000 in
set_option maxRecDepth 100000 in
theorem s_X12_law_146 {Y : az_Y} {V : az_V} {post : Option Value → az_M → Prop} (C : az_C Y V cX12_law 3 RX12 (some .int) 9) (G : Nat) : ∀ (F : Nat) (x1 : Int32) (x2 : Int32) (M : az_M) (r : (Int32 × az_M)), f_X12_law_146 G F x1 x2 M = some r → post (some (.int r.1)) r.2 → AW Y V (az_end Y V post) 3 M 146 [(0, .ref (az_ad V 40)), (1, .int x1), (2, .int x2)] [] := by
  have o40 := C.hL.at 40 (ci := 12) rfl
  have a42 := C.hL.ar 42 (t := 0) (len := 5550) rfl
  have a51 := C.hL.ar 51 (t := 0) (len := 400) rfl
  have a52 := C.hL.ar 52 (t := 0) (len := 400) rfl
  intro F
  induction F with
  | zero =>
    intro x1 x2 M r h
    exact absurd (show (none : Option (Int32 × az_M)) = some r from h) (fun q => by cases q)
  | succ F ih =>
    intro x1 x2 M r h hp
    rw [f_X12_law_146] at h
    refine az_iload_n C 2 dX12_law_146 rfl ?_
    refine az_aload_n C 0 dX12_law_147 rfl ?_
    refine az_geti C o40 fl_X12_307 rfl dX12_law_148 ?_
    refine az_icmp_ge C 200 dX12_law_151 (by decide) (fun c25 => ?_) (fun c25 => ?_)
    · have h := az_t c25 h
      refine az_aload_n C 0 dX12_law_200 rfl ?_
      refine az_getr (r := 42) C o40 fl_X12_13 rfl rfl dX12_law_201 ?_
      refine az_iconst (v := 4) C dX12_law_204 (by decide) ?_
      refine az_dup2 C dX12_law_205 rfl rfl ?_
      refine az_ild (k := 4) C a42 (az_vin (by decide)) (by decide) dX12_law_206 ?_
      refine az_iconst (v := 1) C dX12_law_207 (by decide) ?_
      refine az_iadd C dX12_law_208 ?_
      refine az_ist (k := 4) C a42 (az_vin (by decide)) (by decide) dX12_law_209 ?_
      refine az_aload_n C 0 dX12_law_210 rfl ?_
      refine az_aload_n C 0 dX12_law_211 rfl ?_
      refine az_getr (r := 42) C o40 fl_X12_13 rfl rfl dX12_law_212 ?_
      refine az_iconst (v := 4) C dX12_law_215 (by decide) ?_
      refine az_ild (k := 4) C a42 (az_vin (by decide)) (by decide) dX12_law_216 ?_
      refine az_iconst (v := 1) C dX12_law_217 (by decide) ?_
      refine az_isub C dX12_law_218 ?_
      obtain ⟨q26, e27, h⟩ := az_b h
      refine az_cV (rest := []) (st2 := [.int q26.1]) C [.int (((az_i M 42 4 ((M.1 42 4) + 1)).1 42 4) - 1)] (c_X12_tell C.hL (((az_i M 42 4 ((M.1 42 4) + 1)).1 42 4) - 1) (az_i M 42 4 ((M.1 42 4) + 1)) e27) (by decide) li_X12_158 o40 (by decide) rfl rfl (Nat.le_of_ble_eq_true rfl) dX12_law_219 rfl ?_
      obtain rfl := Option.some.inj h
      exact az_iret C dX12_law_222 hp
    · have h := az_f c25 h
      refine az_aload_n C 0 dX12_law_154 rfl ?_
      refine az_getr (r := 42) C o40 fl_X12_13 rfl rfl dX12_law_155 ?_
      refine az_iload_n C 1 dX12_law_158 rfl ?_
      refine az_bipush (v := 98) C dX12_law_159 (by decide) ?_
      refine az_iadd C dX12_law_161 ?_
      refine az_iconst (v := 2) C dX12_law_162 (by decide) ?_
      refine az_iload_n C 2 dX12_law_163 rfl ?_
      refine az_imul C dX12_law_164 ?_
      refine az_iadd C dX12_law_165 ?_
      refine az_aload_n C 0 dX12_law_166 rfl ?_
      refine az_getr (r := 51) C o40 fl_X12_45 rfl rfl dX12_law_167 ?_
      refine az_iload_n C 2 dX12_law_170 rfl ?_
      obtain ⟨g28, h⟩ := az_g h
      refine az_ild (k := x2.toNatClampNeg) C a51 g28 rfl dX12_law_171 ?_
      obtain ⟨g29, h⟩ := az_g h
      refine az_ist (k := ((x1 + 98) + (2 * x2)).toNatClampNeg) C a42 g29 rfl dX12_law_172 ?_
      refine az_aload_n C 0 dX12_law_173 rfl ?_
      refine az_getr (r := 42) C o40 fl_X12_13 rfl rfl dX12_law_174 ?_
      refine az_iload_n C 1 dX12_law_177 rfl ?_
      refine az_bipush (v := 98) C dX12_law_178 (by decide) ?_
      refine az_iadd C dX12_law_180 ?_
      refine az_iconst (v := 2) C dX12_law_181 (by decide) ?_
      refine az_iload_n C 2 dX12_law_182 rfl ?_
      refine az_imul C dX12_law_183 ?_
      refine az_iadd C dX12_law_184 ?_
      refine az_iconst (v := 1) C dX12_law_185 (by decide) ?_
      refine az_iadd C dX12_law_186 ?_
      refine az_aload_n C 0 dX12_law_187 rfl ?_
      refine az_getr (r := 52) C o40 fl_X12_48 rfl rfl dX12_law_188 ?_
      refine az_iload_n C 2 dX12_law_191 rfl ?_
      obtain ⟨g30, h⟩ := az_g h
      refine az_ild (k := x2.toNatClampNeg) C a52 g30 rfl dX12_law_192 ?_
      obtain ⟨g31, h⟩ := az_g h
      refine az_ist (k := (((x1 + 98) + (2 * x2)) + 1).toNatClampNeg) C a42 g31 rfl dX12_law_193 ?_
      refine az_iinc (v := (x2 + 1)) C 2 dX12_law_194 rfl rfl (by decide) rfl ?_
      refine az_goto C 146 dX12_law_197 (by decide) ?_
      refine az_sub [1, 2, 0] rfl ?_
      exact ih x1 (x2 + 1) (az_i (az_i M 42 (((x1 + 98) + (2 * x2)).toNatClampNeg) (M.1 51 x2.toNatClampNeg)) 42 ((((x1 + 98) + (2 * x2)) + 1).toNatClampNeg) ((az_i M 42 (((x1 + 98) + (2 * x2)).toNatClampNeg) (M.1 51 x2.toNatClampNeg)).1 52 x2.toNatClampNeg)) r h hp
set_option maxHeartbeats 4000000 in
set_option maxRecDepth 100000 in
theorem s_X12_law_111 {Y : az_Y} {V : az_V} {post : Option Value → az_M → Prop} (C : az_C Y V cX12_law 3 RX12 (some .int) 9) (G : Nat) : ∀ (F : Nat) (x1 : Int32) (x2 : Int32) (M : az_M) (r : (Int32 × az_M)), f_X12_law_111 G F x1 x2 M = some r → post (some (.int r.1)) r.2 → AW Y V (az_end Y V post) 3 M 111 [(0, .ref (az_ad V 40)), (1, .int x1), (2, .int x2)] [] := by
  have o40 := C.hL.at 40 (ci := 12) rfl
  have a42 := C.hL.ar 42 (t := 0) (len := 5550) rfl
  have a50 := C.hL.ar 50 (t := 0) (len := 96) rfl
  intro F
  induction F with
  | zero =>
    intro x1 x2 M r h
    exact absurd (show (none : Option (Int32 × az_M)) = some r from h) (fun q => by cases q)
  | succ F ih =>
    intro x1 x2 M r h hp
    rw [f_X12_law_111] at h
    refine az_iload_n C 2 dX12_law_111 rfl ?_
    refine az_bipush (v := 8) C dX12_law_112 (by decide) ?_
    refine az_aload_n C 0 dX12_law_114 rfl ?_
    refine az_geti C o40 fl_X12_398 rfl dX12_law_115 ?_
    refine az_imul C dX12_law_118 ?_
    refine az_icmp_ge C 144 dX12_law_119 (by decide) (fun c22 => ?_) (fun c22 => ?_)
    · have h := az_t c22 h
      refine az_iconst (v := 0) C dX12_law_144 (by decide) ?_
      refine az_istore_n C dX12_law_145 rfl (by decide) rfl ?_
      refine az_sub [1, 2, 0] rfl ?_
      exact s_X12_law_146 C G G x1 0 M r h hp
    · have h := az_f c22 h
      refine az_aload_n C 0 dX12_law_122 rfl ?_
      refine az_getr (r := 42) C o40 fl_X12_13 rfl rfl dX12_law_123 ?_
      refine az_iload_n C 1 dX12_law_126 rfl ?_
      refine az_iconst (v := 2) C dX12_law_127 (by decide) ?_
      refine az_iadd C dX12_law_128 ?_
      refine az_iload_n C 2 dX12_law_129 rfl ?_
      refine az_iadd C dX12_law_130 ?_
      refine az_aload_n C 0 dX12_law_131 rfl ?_
      refine az_getr (r := 50) C o40 fl_X12_42 rfl rfl dX12_law_132 ?_
      refine az_iload_n C 2 dX12_law_135 rfl ?_
      obtain ⟨g23, h⟩ := az_g h
      refine az_ild (k := x2.toNatClampNeg) C a50 g23 rfl dX12_law_136 ?_
      obtain ⟨g24, h⟩ := az_g h
      refine az_ist (k := ((x1 + 2) + x2).toNatClampNeg) C a42 g24 rfl dX12_law_137 ?_
      refine az_iinc (v := (x2 + 1)) C 2 dX12_law_138 rfl rfl (by decide) rfl ?_
      refine az_goto C 111 dX12_law_141 (by decide) ?_
      refine az_sub [1, 2, 0] rfl ?_
      exact ih x1 (x2 + 1) (az_i M 42 (((x1 + 2) + x2).toNatClampNeg) (M.1 50 x2.toNatClampNeg)) r h hp
set_option maxHeartbeats 4000000 in
set_option maxRecDepth 100000 in
theorem s_X12_law_64 {Y : az_Y} {V : az_V} {post : Option Value → az_M → Prop} (C : az_C Y V cX12_law 3 RX12 (some .int) 9) (G : Nat)  (M : az_M) (r : (Int32 × az_M)) (h : f_X12_law_64 G M = some r) (hp : post (some (.int r.1)) r.2) : AW Y V (az_end Y V post) 3 M 64 [(0, .ref (az_ad V 40))] [] := by
  have o40 := C.hL.at 40 (ci := 12) rfl
  have a42 := C.hL.ar 42 (t := 0) (len := 5550) rfl
  unfold f_X12_law_64 at h
  refine az_aload_n C 0 dX12_law_64 rfl ?_
  obtain ⟨q16, e17, h⟩ := az_b h
  refine az_cV (rest := []) (st2 := []) C [] (c_X12_endText C.hL G M e17) (by decide) li_X12_412 o40 (by decide) rfl rfl (Nat.le_of_ble_eq_true rfl) dX12_law_65 rfl ?_
  refine az_aload_n C 0 dX12_law_68 rfl ?_
  refine az_geti C o40 fl_X12_270 rfl dX12_law_69 ?_
  refine az_if_eq C 82 dX12_law_72 (by decide) (fun c18 => ?_) (fun c18 => ?_)
  · have h := az_t c18 h
    refine az_sipush (v := 150) C dX12_law_82 (by decide) ?_
    refine az_sipush (v := 900) C dX12_law_85 (by decide) ?_
    refine az_aload_n C 0 dX12_law_88 rfl ?_
    refine az_getr (r := 42) C o40 fl_X12_13 rfl rfl dX12_law_89 ?_
    refine az_iconst (v := 4) C dX12_law_92 (by decide) ?_
    refine az_ild (k := 4) C a42 (az_vin (by decide)) (by decide) dX12_law_93 ?_
    refine az_imul C dX12_law_94 ?_
    refine az_iadd C dX12_law_95 ?_
    refine az_istore_n C dX12_law_96 rfl (by decide) rfl ?_
    refine az_aload_n C 1 dX12_law_97 rfl ?_
    refine az_getr (r := 42) C o40 fl_X12_13 rfl rfl dX12_law_98 ?_
    refine az_iload_n C 0 dX12_law_101 rfl ?_
    refine az_iconst (v := 1) C dX12_law_102 (by decide) ?_
    refine az_iadd C dX12_law_103 ?_
    refine az_aload_n C 1 dX12_law_104 rfl ?_
    refine az_geti C o40 fl_X12_398 rfl dX12_law_105 ?_
    obtain ⟨g19, h⟩ := az_g h
    refine az_ist (k := ((150 + (900 * (q16.1 42 4))) + 1).toNatClampNeg) C a42 g19 rfl dX12_law_108 ?_
    refine az_iconst (v := 0) C dX12_law_109 (by decide) ?_
    refine az_istore_n C dX12_law_110 rfl (by decide) rfl ?_
    refine az_sub [2, 1, 0] rfl ?_
    exact s_X12_law_111 C G G (150 + (900 * (q16.1 42 4))) 0 (az_i q16 42 (((150 + (900 * (q16.1 42 4))) + 1).toNatClampNeg) (q16.1 40 21)) r h hp
  · have h := az_f c18 h
    refine az_aload_n C 0 dX12_law_75 rfl ?_
    refine az_bipush (v := (-6)) C dX12_law_76 (by decide) ?_
    obtain ⟨q20, e21, h⟩ := az_b h
    refine az_cV (rest := []) (st2 := [.int q20.1]) C [.int (-6)] (c_X12_tell C.hL (-6) q16 e21) (by decide) li_X12_158 o40 (by decide) rfl rfl (Nat.le_of_ble_eq_true rfl) dX12_law_78 rfl ?_
    obtain rfl := Option.some.inj h
    exact az_iret C dX12_law_81 hp
set_option maxHeartbeats 4000000 in
set_option maxRecDepth 100000 in
theorem s_X12_law_37 {Y : az_Y} {V : az_V} {post : Option Value → az_M → Prop} (C : az_C Y V cX12_law 3 RX12 (some .int) 9) (G : Nat) : ∀ (F : Nat)  (M : az_M) (r : (Int32 × az_M)), f_X12_law_37 G F M = some r → post (some (.int r.1)) r.2 → AW Y V (az_end Y V post) 3 M 37 [(0, .ref (az_ad V 40))] [] := by
  have o40 := C.hL.at 40 (ci := 12) rfl
  intro F
  induction F with
  | zero =>
    intro  M r h
    exact absurd (show (none : Option (Int32 × az_M)) = some r from h) (fun q => by cases q)
  | succ F ih =>
    intro  M r h hp
    rw [f_X12_law_37] at h
    refine az_aload_n C 0 dX12_law_37 rfl ?_
    refine az_geti C o40 fl_X12_270 rfl dX12_law_38 ?_
    refine az_if_ne C 64 dX12_law_41 (by decide) (fun c8 => ?_) (fun c8 => ?_)
    · have h := az_f c8 h
      exact s_X12_law_64 C G M r h hp
    · have h := az_t c8 h
      refine az_aload_n C 0 dX12_law_44 rfl ?_
      refine az_bipush (v := 59) C dX12_law_45 (by decide) ?_
      obtain ⟨q9, e10, h⟩ := az_b h
      refine az_cV (rest := []) (st2 := [.int q9]) C [.int 59] (c_X12_isSign C.hL 59 M e10) (by decide) li_X12_339 o40 (by decide) rfl rfl (Nat.le_of_ble_eq_true rfl) dX12_law_47 rfl ?_
      refine az_if_eq C 64 dX12_law_50 (by decide) (fun c11 => ?_) (fun c11 => ?_)
      · have h := az_t c11 h
        exact s_X12_law_64 C G M r h hp
      · have h := az_f c11 h
        refine az_aload_n C 0 dX12_law_53 rfl ?_
        obtain ⟨q12, e13, h⟩ := az_b h
        refine az_cV (rest := []) (st2 := []) C [] (c_X12_next C.hL G M e13) (by decide) li_X12_274 o40 (by decide) rfl rfl (Nat.le_of_ble_eq_true rfl) dX12_law_54 rfl ?_
        refine az_aload_n C 0 dX12_law_57 rfl ?_
        obtain ⟨q14, e15, h⟩ := az_b h
        refine az_cV (rest := []) (st2 := []) C [] (c_X12_readLaw C.hL G q12 e15) (by decide) li_X12_409 o40 (by decide) rfl rfl (Nat.le_of_ble_eq_true rfl) dX12_law_58 rfl ?_
        refine az_goto C 37 dX12_law_61 (by decide) ?_
        exact ih q14 r h hp
set_option maxHeartbeats 4000000 in
set_option maxRecDepth 100000 in
theorem s_X12_law_e {Y : az_Y} {V : az_V} {post : Option Value → az_M → Prop} (C : az_C Y V cX12_law 3 RX12 (some .int) 9) (G : Nat)  (M : az_M) (r : (Int32 × az_M)) (h : f_X12_law G M = some r) (hp : post (some (.int r.1)) r.2) : AW Y V (az_end Y V post) 3 M 0 [(0, .ref (az_ad V 40))] [] := by
  have o40 := C.hL.at 40 (ci := 12) rfl
  have a42 := C.hL.ar 42 (t := 0) (len := 5550) rfl
  unfold f_X12_law at h
  refine az_aload_n C 0 dX12_law_0 rfl ?_
  refine az_iconst (v := 0) C dX12_law_1 (by decide) ?_
  refine az_puti C o40 fl_X12_149 rfl rfl rfl rfl dX12_law_2 ?_
  refine az_aload_n C 0 dX12_law_5 rfl ?_
  refine az_getr (r := 42) C o40 fl_X12_13 rfl rfl dX12_law_6 ?_
  refine az_iconst (v := 4) C dX12_law_9 (by decide) ?_
  refine az_ild (k := 4) C a42 (az_vin (by decide)) (by decide) dX12_law_10 ?_
  refine az_bipush (v := 6) C dX12_law_11 (by decide) ?_
  refine az_icmp_ne C 28 dX12_law_13 (by decide) (fun c1 => ?_) (fun c1 => ?_)
  · have h := az_f c1 h
    refine az_aload_n C 0 dX12_law_28 rfl ?_
    refine az_iconst (v := 0) C dX12_law_29 (by decide) ?_
    obtain ⟨q2, e3, h⟩ := az_b h
    refine az_cV (rest := []) (st2 := []) C [.int 0] (c_X12_beginText C.hL G 0 (az_i M 40 0 0) e3) (by decide) li_X12_406 o40 (by decide) rfl rfl (Nat.le_of_ble_eq_true rfl) dX12_law_30 rfl ?_
    refine az_aload_n C 0 dX12_law_33 rfl ?_
    obtain ⟨q4, e5, h⟩ := az_b h
    refine az_cV (rest := []) (st2 := []) C [] (c_X12_readLaw C.hL G q2 e5) (by decide) li_X12_409 o40 (by decide) rfl rfl (Nat.le_of_ble_eq_true rfl) dX12_law_34 rfl ?_
    exact s_X12_law_37 C G G q4 r h hp
  · have h := az_t c1 h
    refine az_aload_n C 0 dX12_law_16 rfl ?_
    refine az_iconst (v := 0) C dX12_law_17 (by decide) ?_
    refine az_puti C o40 fl_X12_258 rfl rfl rfl rfl dX12_law_18 ?_
    refine az_aload_n C 0 dX12_law_21 rfl ?_
    refine az_bipush (v := (-5)) C dX12_law_22 (by decide) ?_
    obtain ⟨q6, e7, h⟩ := az_b h
    refine az_cV (rest := []) (st2 := [.int q6.1]) C [.int (-5)] (c_X12_tell C.hL (-5) (az_i (az_i M 40 0 0) 40 13 0) e7) (by decide) li_X12_158 o40 (by decide) rfl rfl (Nat.le_of_ble_eq_true rfl) dX12_law_24 rfl ?_
    obtain rfl := Option.some.inj h
    exact az_iret C dX12_law_27 hp
theorem c_X12_law {l : Launch} {V : az_V} (hL : az_L V) (G : Nat)  (M : az_M) {r : (Int32 × az_M)} (h : f_X12_law G M = some r) : az_Ct l V yX12_law cX12_law 3 (some .int) 9 [.ref (az_ad V 40)] M (fun v M' => v = some (.int r.1) ∧ M' = r.2) :=
  az_Ct.of (by decide) (Nat.le_of_ble_eq_true rfl) (fun Y _ _ C => s_X12_law_e C G M r h ⟨rfl, rfl⟩)
set_option maxHeartbeats 4000000 in
set_option maxRecDepth 100000 in
theorem s_X12_force_43 {Y : az_Y} {V : az_V} {post : Option Value → az_M → Prop} (C : az_C Y V cX12_force 2 RX12 (some .int) 2) (s0 : Int32) (M : az_M) (r : (Int32 × az_M)) (h : f_X12_force_43 s0 M = some r) (hp : post (some (.int r.1)) r.2) : AW Y V (az_end Y V post) 2 M 43 [] [.int s0] := by
  unfold f_X12_force_43 at h
  obtain rfl := Option.some.inj h
  exact az_iret C dX12_force_43 hp
set_option maxHeartbeats 4000000 in
set_option maxRecDepth 100000 in
theorem s_X12_force_28 {Y : az_Y} {V : az_V} {post : Option Value → az_M → Prop} (C : az_C Y V cX12_force 2 RX12 (some .int) 2) (x1 : Int32) (M : az_M) (r : (Int32 × az_M)) (h : f_X12_force_28 x1 M = some r) (hp : post (some (.int r.1)) r.2) : AW Y V (az_end Y V post) 2 M 28 [(0, .ref (az_ad V 40)), (1, .int x1)] [] := by
  have o40 := C.hL.at 40 (ci := 12) rfl
  unfold f_X12_force_28 at h
  refine az_aload_n C 0 dX12_force_28 rfl ?_
  refine az_iconst (v := 5) C dX12_force_29 (by decide) ?_
  refine az_iload_n C 1 dX12_force_30 rfl ?_
  obtain ⟨q7, e8, h⟩ := az_b h
  refine az_cV (rest := []) (st2 := [.int q7.1]) C [.int 5, .int x1] (c_X12_change C.hL 5 x1 M e8) (by decide) li_X12_182 o40 (by decide) rfl rfl (Nat.le_of_ble_eq_true rfl) dX12_force_31 rfl ?_
  refine az_goto C 43 dX12_force_34 (by decide) ?_
  refine az_sub [] rfl ?_
  exact s_X12_force_43 C q7.1 q7.2 r h hp
set_option maxHeartbeats 4000000 in
set_option maxRecDepth 100000 in
theorem s_X12_force_e {Y : az_Y} {V : az_V} {post : Option Value → az_M → Prop} (C : az_C Y V cX12_force 2 RX12 (some .int) 2) (p0 : Int32) (M : az_M) (r : (Int32 × az_M)) (h : f_X12_force p0 M = some r) (hp : post (some (.int r.1)) r.2) : AW Y V (az_end Y V post) 2 M 0 [(0, .ref (az_ad V 40)), (1, .int p0)] [] := by
  have o40 := C.hL.at 40 (ci := 12) rfl
  have a42 := C.hL.ar 42 (t := 0) (len := 5550) rfl
  unfold f_X12_force at h
  refine az_aload_n C 0 dX12_force_0 rfl ?_
  refine az_iconst (v := 0) C dX12_force_1 (by decide) ?_
  refine az_puti C o40 fl_X12_149 rfl rfl rfl rfl dX12_force_2 ?_
  refine az_iload_n C 1 dX12_force_5 rfl ?_
  refine az_iconst (v := (-1)) C dX12_force_6 (by decide) ?_
  refine az_icmp_eq C 28 dX12_force_7 (by decide) (fun c1 => ?_) (fun c1 => ?_)
  · have h := az_t c1 h
    exact s_X12_force_28 C p0 (az_i M 40 0 0) r h hp
  · have h := az_f c1 h
    refine az_iload_n C 1 dX12_force_10 rfl ?_
    refine az_i2l C dX12_force_11 ?_
    refine az_lconst (v := 0) C dX12_force_12 (by decide) ?_
    refine az_aload_n C 0 dX12_force_13 rfl ?_
    refine az_getr (r := 42) C o40 fl_X12_13 rfl rfl dX12_force_14 ?_
    refine az_iconst (v := 4) C dX12_force_17 (by decide) ?_
    refine az_ild (k := 4) C a42 (az_vin (by decide)) (by decide) dX12_force_18 ?_
    refine az_i2l C dX12_force_19 ?_
    refine az_lconst (v := 1) C dX12_force_20 (by decide) ?_
    refine az_lsub C dX12_force_21 ?_
    obtain ⟨q2, e3, h⟩ := az_b h
    refine az_cS (rest := []) (st2 := [.int q2]) C [.long p0.toInt64, .long 0, .long (((az_i M 40 0 0).1 42 4).toInt64 - 1)] (c_X12_in C.hL p0.toInt64 0 (((az_i M 40 0 0).1 42 4).toInt64 - 1) (az_i M 40 0 0) e3) (by decide) li_X12_169 rfl rfl (Nat.le_of_ble_eq_true rfl) dX12_force_22 rfl ?_
    refine az_if_eq C 37 dX12_force_25 (by decide) (fun c4 => ?_) (fun c4 => ?_)
    · have h := az_t c4 h
      refine az_aload_n C 0 dX12_force_37 rfl ?_
      refine az_bipush (v := (-2)) C dX12_force_38 (by decide) ?_
      obtain ⟨q5, e6, h⟩ := az_b h
      refine az_cV (rest := []) (st2 := [.int q5.1]) C [.int (-2)] (c_X12_tell C.hL (-2) (az_i M 40 0 0) e6) (by decide) li_X12_158 o40 (by decide) rfl rfl (Nat.le_of_ble_eq_true rfl) dX12_force_40 rfl ?_
      refine az_sub [] rfl ?_
      exact s_X12_force_43 C q5.1 q5.2 r h hp
    · have h := az_f c4 h
      exact s_X12_force_28 C p0 (az_i M 40 0 0) r h hp
theorem c_X12_force {l : Launch} {V : az_V} (hL : az_L V) (p0 : Int32) (M : az_M) {r : (Int32 × az_M)} (h : f_X12_force p0 M = some r) : az_Ct l V yX12_force cX12_force 2 (some .int) 2 [.ref (az_ad V 40), .int p0] M (fun v M' => v = some (.int r.1) ∧ M' = r.2) :=
  az_Ct.of (by decide) (Nat.le_of_ble_eq_true rfl) (fun Y _ _ C => s_X12_force_e C p0 M r h ⟨rfl, rfl⟩)
set_option maxHeartbeats 4000000 in
set_option maxRecDepth 100000 in
theorem s_X12_barred_39 {Y : az_Y} {V : az_V} {post : Option Value → az_M → Prop} (C : az_C Y V cX12_barred 3 RX12 (some .int) 7) (G : Nat) (s0 : Int32) (M : az_M) (r : (Int32 × az_M)) (h : f_X12_barred_39 G s0 M = some r) (hp : post (some (.int r.1)) r.2) : AW Y V (az_end Y V post) 3 M 39 [] [.int s0] := by
  unfold f_X12_barred_39 at h
  obtain rfl := Option.some.inj h
  exact az_iret C dX12_barred_39 hp
set_option maxHeartbeats 4000000 in
set_option maxRecDepth 100000 in
theorem s_X12_barred_21 {Y : az_Y} {V : az_V} {post : Option Value → az_M → Prop} (C : az_C Y V cX12_barred 3 RX12 (some .int) 7) (G : Nat)  (M : az_M) (r : (Int32 × az_M)) (h : f_X12_barred_21 G M = some r) (hp : post (some (.int r.1)) r.2) : AW Y V (az_end Y V post) 3 M 21 [] [] := by
  unfold f_X12_barred_21 at h
  refine az_iconst (v := (-1)) C dX12_barred_21 (by decide) ?_
  refine az_goto C 39 dX12_barred_22 (by decide) ?_
  exact s_X12_barred_39 C G (-1) M r h hp
set_option maxHeartbeats 4000000 in
set_option maxRecDepth 100000 in
theorem s_X12_barred_e {Y : az_Y} {V : az_V} {post : Option Value → az_M → Prop} (C : az_C Y V cX12_barred 3 RX12 (some .int) 7) (G : Nat) (p0 : Int32) (p1 : Int32) (M : az_M) (r : (Int32 × az_M)) (h : f_X12_barred G p0 p1 M = some r) (hp : post (some (.int r.1)) r.2) : AW Y V (az_end Y V post) 3 M 0 [(0, .ref (az_ad V 40)), (1, .int p0), (2, .int p1)] [] := by
  have o40 := C.hL.at 40 (ci := 12) rfl
  unfold f_X12_barred at h
  refine az_aload_n C 0 dX12_barred_0 rfl ?_
  refine az_iconst (v := 0) C dX12_barred_1 (by decide) ?_
  refine az_puti C o40 fl_X12_149 rfl rfl rfl rfl dX12_barred_2 ?_
  refine az_aload_n C 0 dX12_barred_5 rfl ?_
  refine az_iload_n C 1 dX12_barred_6 rfl ?_
  obtain ⟨q1, e2, h⟩ := az_b h
  refine az_cV (rest := []) (st2 := [.int q1]) C [.int p0] (c_X12_isPerson C.hL p0 (az_i M 40 0 0) e2) (by decide) li_X12_229 o40 (by decide) rfl rfl (Nat.le_of_ble_eq_true rfl) dX12_barred_7 rfl ?_
  refine az_if_eq C 21 dX12_barred_10 (by decide) (fun c3 => ?_) (fun c3 => ?_)
  · have h := az_t c3 h
    refine az_sub [] rfl ?_
    exact s_X12_barred_21 C G (az_i M 40 0 0) r h hp
  · have h := az_f c3 h
    refine az_aload_n C 0 dX12_barred_13 rfl ?_
    refine az_iload_n C 2 dX12_barred_14 rfl ?_
    obtain ⟨q4, e5, h⟩ := az_b h
    refine az_cV (rest := []) (st2 := [.int q4]) C [.int p1] (c_X12_isPlace C.hL p1 (az_i M 40 0 0) e5) (by decide) li_X12_206 o40 (by decide) rfl rfl (Nat.le_of_ble_eq_true rfl) dX12_barred_15 rfl ?_
    refine az_if_ne C 25 dX12_barred_18 (by decide) (fun c6 => ?_) (fun c6 => ?_)
    · have h := az_f c6 h
      refine az_aload_n C 0 dX12_barred_25 rfl ?_
      refine az_iload_n C 1 dX12_barred_26 rfl ?_
      refine az_iload_n C 2 dX12_barred_27 rfl ?_
      obtain ⟨q7, e8, h⟩ := az_b h
      refine az_cV (rest := []) (st2 := [.int q7.1]) C [.int p0, .int p1] (c_X12_isBarred C.hL G p0 p1 (az_i M 40 0 0) e8) (by decide) li_X12_241 o40 (by decide) rfl rfl (Nat.le_of_ble_eq_true rfl) dX12_barred_28 rfl ?_
      refine az_if_eq C 38 dX12_barred_31 (by decide) (fun c9 => ?_) (fun c9 => ?_)
      · have h := az_t c9 h
        refine az_iconst (v := 0) C dX12_barred_38 (by decide) ?_
        refine az_sub [] rfl ?_
        exact s_X12_barred_39 C G 0 q7.2 r h hp
      · have h := az_f c9 h
        refine az_iconst (v := 1) C dX12_barred_34 (by decide) ?_
        refine az_goto C 39 dX12_barred_35 (by decide) ?_
        refine az_sub [] rfl ?_
        exact s_X12_barred_39 C G 1 q7.2 r h hp
    · have h := az_t c6 h
      refine az_sub [] rfl ?_
      exact s_X12_barred_21 C G (az_i M 40 0 0) r h hp
theorem c_X12_barred {l : Launch} {V : az_V} (hL : az_L V) (G : Nat) (p0 : Int32) (p1 : Int32) (M : az_M) {r : (Int32 × az_M)} (h : f_X12_barred G p0 p1 M = some r) : az_Ct l V yX12_barred cX12_barred 3 (some .int) 7 [.ref (az_ad V 40), .int p0, .int p1] M (fun v M' => v = some (.int r.1) ∧ M' = r.2) :=
  az_Ct.of (by decide) (Nat.le_of_ble_eq_true rfl) (fun Y _ _ C => s_X12_barred_e C G p0 p1 M r h ⟨rfl, rfl⟩)
set_option maxHeartbeats 4000000 in
set_option maxRecDepth 100000 in
theorem s_X12_note_55 {Y : az_Y} {V : az_V} {post : Option Value → az_M → Prop} (C : az_C Y V cX12_note 3 RX12 none 1) (G : Nat) (x1 : Int32) (M : az_M) (r : az_M) (h : f_X12_note_55 G x1 M = some r) (hp : post none r) : AW Y V (az_end Y V post) 3 M 55 [(0, .ref (az_ad V 40)), (1, .int x1)] [] := by
  have o40 := C.hL.at 40 (ci := 12) rfl
  have a42 := C.hL.ar 42 (t := 0) (len := 5550) rfl
  unfold f_X12_note_55 at h
  refine az_aload_n C 0 dX12_note_55 rfl ?_
  refine az_getr (r := 42) C o40 fl_X12_13 rfl rfl dX12_note_56 ?_
  refine az_bipush (v := 123) C dX12_note_59 (by decide) ?_
  refine az_aload_n C 0 dX12_note_61 rfl ?_
  refine az_getr (r := 42) C o40 fl_X12_13 rfl rfl dX12_note_62 ?_
  refine az_iconst (v := 3) C dX12_note_65 (by decide) ?_
  refine az_ild (k := 3) C a42 (az_vin (by decide)) (by decide) dX12_note_66 ?_
  refine az_iadd C dX12_note_67 ?_
  refine az_iload_n C 1 dX12_note_68 rfl ?_
  obtain ⟨g5, h⟩ := az_g h
  refine az_ist (k := (123 + (M.1 42 3)).toNatClampNeg) C a42 g5 rfl dX12_note_69 ?_
  refine az_aload_n C 0 dX12_note_70 rfl ?_
  refine az_getr (r := 42) C o40 fl_X12_13 rfl rfl dX12_note_71 ?_
  refine az_iconst (v := 3) C dX12_note_74 (by decide) ?_
  refine az_dup2 C dX12_note_75 rfl rfl ?_
  refine az_ild (k := 3) C a42 (az_vin (by decide)) (by decide) dX12_note_76 ?_
  refine az_iconst (v := 1) C dX12_note_77 (by decide) ?_
  refine az_iadd C dX12_note_78 ?_
  refine az_ist (k := 3) C a42 (az_vin (by decide)) (by decide) dX12_note_79 ?_
  obtain rfl := Option.some.inj h
  exact az_vret C rfl dX12_note_80 hp
set_option maxHeartbeats 4000000 in
set_option maxRecDepth 100000 in
theorem s_X12_note_13 {Y : az_Y} {V : az_V} {post : Option Value → az_M → Prop} (C : az_C Y V cX12_note 3 RX12 none 1) (G : Nat) : ∀ (F : Nat) (x1 : Int32) (x2 : Int32) (M : az_M) (r : az_M), f_X12_note_13 G F x1 x2 M = some r → post none r → AW Y V (az_end Y V post) 3 M 13 [(0, .ref (az_ad V 40)), (1, .int x1), (2, .int x2)] [] := by
  have o40 := C.hL.at 40 (ci := 12) rfl
  have a42 := C.hL.ar 42 (t := 0) (len := 5550) rfl
  intro F
  induction F with
  | zero =>
    intro x1 x2 M r h
    exact absurd (show (none : Option az_M) = some r from h) (fun q => by cases q)
  | succ F ih =>
    intro x1 x2 M r h hp
    rw [f_X12_note_13] at h
    refine az_iload_n C 2 dX12_note_13 rfl ?_
    refine az_bipush (v := 23) C dX12_note_14 (by decide) ?_
    refine az_icmp_ge C 45 dX12_note_16 (by decide) (fun c2 => ?_) (fun c2 => ?_)
    · have h := az_t c2 h
      refine az_aload_n C 0 dX12_note_45 rfl ?_
      refine az_getr (r := 42) C o40 fl_X12_13 rfl rfl dX12_note_46 ?_
      refine az_iconst (v := 3) C dX12_note_49 (by decide) ?_
      refine az_dup2 C dX12_note_50 rfl rfl ?_
      refine az_ild (k := 3) C a42 (az_vin (by decide)) (by decide) dX12_note_51 ?_
      refine az_iconst (v := 1) C dX12_note_52 (by decide) ?_
      refine az_isub C dX12_note_53 ?_
      refine az_ist (k := 3) C a42 (az_vin (by decide)) (by decide) dX12_note_54 ?_
      refine az_sub [0, 1] rfl ?_
      exact s_X12_note_55 C G x1 (az_i M 42 3 ((M.1 42 3) - 1)) r h hp
    · have h := az_f c2 h
      refine az_aload_n C 0 dX12_note_19 rfl ?_
      refine az_getr (r := 42) C o40 fl_X12_13 rfl rfl dX12_note_20 ?_
      refine az_bipush (v := 123) C dX12_note_23 (by decide) ?_
      refine az_iload_n C 2 dX12_note_25 rfl ?_
      refine az_iadd C dX12_note_26 ?_
      refine az_aload_n C 0 dX12_note_27 rfl ?_
      refine az_getr (r := 42) C o40 fl_X12_13 rfl rfl dX12_note_28 ?_
      refine az_bipush (v := 123) C dX12_note_31 (by decide) ?_
      refine az_iload_n C 2 dX12_note_33 rfl ?_
      refine az_iadd C dX12_note_34 ?_
      refine az_iconst (v := 1) C dX12_note_35 (by decide) ?_
      refine az_iadd C dX12_note_36 ?_
      obtain ⟨g3, h⟩ := az_g h
      refine az_ild (k := ((123 + x2) + 1).toNatClampNeg) C a42 g3 rfl dX12_note_37 ?_
      obtain ⟨g4, h⟩ := az_g h
      refine az_ist (k := (123 + x2).toNatClampNeg) C a42 g4 rfl dX12_note_38 ?_
      refine az_iinc (v := (x2 + 1)) C 2 dX12_note_39 rfl rfl (by decide) rfl ?_
      refine az_goto C 13 dX12_note_42 (by decide) ?_
      refine az_sub [1, 2, 0] rfl ?_
      exact ih x1 (x2 + 1) (az_i M 42 ((123 + x2).toNatClampNeg) (M.1 42 (((123 + x2) + 1).toNatClampNeg))) r h hp
set_option maxHeartbeats 4000000 in
set_option maxRecDepth 100000 in
theorem s_X12_note_e {Y : az_Y} {V : az_V} {post : Option Value → az_M → Prop} (C : az_C Y V cX12_note 3 RX12 none 1) (G : Nat) (p0 : Int32) (M : az_M) (r : az_M) (h : f_X12_note G p0 M = some r) (hp : post none r) : AW Y V (az_end Y V post) 3 M 0 [(0, .ref (az_ad V 40)), (1, .int p0)] [] := by
  have o40 := C.hL.at 40 (ci := 12) rfl
  have a42 := C.hL.ar 42 (t := 0) (len := 5550) rfl
  unfold f_X12_note at h
  refine az_aload_n C 0 dX12_note_0 rfl ?_
  refine az_getr (r := 42) C o40 fl_X12_13 rfl rfl dX12_note_1 ?_
  refine az_iconst (v := 3) C dX12_note_4 (by decide) ?_
  refine az_ild (k := 3) C a42 (az_vin (by decide)) (by decide) dX12_note_5 ?_
  refine az_bipush (v := 24) C dX12_note_6 (by decide) ?_
  refine az_icmp_ne C 55 dX12_note_8 (by decide) (fun c1 => ?_) (fun c1 => ?_)
  · have h := az_f c1 h
    exact s_X12_note_55 C G p0 M r h hp
  · have h := az_t c1 h
    refine az_iconst (v := 0) C dX12_note_11 (by decide) ?_
    refine az_istore_n C dX12_note_12 rfl (by decide) rfl ?_
    refine az_sub [1, 2, 0] rfl ?_
    exact s_X12_note_13 C G G p0 0 M r h hp
theorem c_X12_note {l : Launch} {V : az_V} (hL : az_L V) (G : Nat) (p0 : Int32) (M : az_M) {r : az_M} (h : f_X12_note G p0 M = some r) : az_Ct l V yX12_note cX12_note 3 none 1 [.ref (az_ad V 40), .int p0] M (fun v M' => v = none ∧ M' = r) :=
  az_Ct.of (by decide) (Nat.le_of_ble_eq_true rfl) (fun Y _ _ C => s_X12_note_e C G p0 M r h ⟨rfl, rfl⟩)
set_option maxHeartbeats 4000000 in
set_option maxRecDepth 100000 in
theorem s_X12_goDays_e {Y : az_Y} {V : az_V} {post : Option Value → az_M → Prop} (C : az_C Y V cX12_goDays 3 RX12 none 2) (p0 : Int32) (M : az_M) (r : az_M) (h : f_X12_goDays p0 M = some r) (hp : post none r) : AW Y V (az_end Y V post) 3 M 0 [(0, .ref (az_ad V 40)), (1, .int p0)] [] := by
  have o40 := C.hL.at 40 (ci := 12) rfl
  have a42 := C.hL.ar 42 (t := 0) (len := 5550) rfl
  unfold f_X12_goDays at h
  refine az_aload_n C 0 dX12_goDays_0 rfl ?_
  refine az_iconst (v := 0) C dX12_goDays_1 (by decide) ?_
  obtain ⟨q1, e2, h⟩ := az_b h
  refine az_cV (rest := []) (st2 := [.int q1]) C [.int 0] (c_X12_term C.hL 0 M e2) (by decide) li_X12_189 o40 (by decide) rfl rfl (Nat.le_of_ble_eq_true rfl) dX12_goDays_2 rfl ?_
  refine az_iload_n C 1 dX12_goDays_5 rfl ?_
  refine az_iadd C dX12_goDays_6 ?_
  refine az_i2l C dX12_goDays_7 ?_
  refine az_iconst (v := 0) C dX12_goDays_8 (by decide) ?_
  refine az_sipush (v := 999) C dX12_goDays_9 (by decide) ?_
  obtain ⟨q3, e4, h⟩ := az_b h
  refine az_cS (rest := []) (st2 := [.int q3]) C [.long ((q1 + p0).toInt64), .int 0, .int 999] (c_X12_within C.hL ((q1 + p0).toInt64) 0 999 M e4) (by decide) li_X12_445 rfl rfl (Nat.le_of_ble_eq_true rfl) dX12_goDays_12 rfl ?_
  refine az_istore_n C dX12_goDays_15 rfl (by decide) rfl ?_
  refine az_aload_n C 1 dX12_goDays_16 rfl ?_
  refine az_getr (r := 42) C o40 fl_X12_13 rfl rfl dX12_goDays_17 ?_
  refine az_bipush (v := 13) C dX12_goDays_20 (by decide) ?_
  refine az_aload_n C 1 dX12_goDays_22 rfl ?_
  refine az_iconst (v := 2) C dX12_goDays_23 (by decide) ?_
  obtain ⟨q5, e6, h⟩ := az_b h
  refine az_cV (rest := [.int 13, .ref (az_ad V 42)]) (st2 := [.int q5, .int 13, .ref (az_ad V 42)]) C [.int 2] (c_X12_bulletOf C.hL 2 M e6) (by decide) li_X12_186 o40 (by decide) rfl rfl (Nat.le_of_ble_eq_true rfl) dX12_goDays_24 rfl ?_
  refine az_iload_n C 0 dX12_goDays_27 rfl ?_
  refine az_iadd C dX12_goDays_28 ?_
  refine az_aload_n C 1 dX12_goDays_29 rfl ?_
  refine az_iconst (v := 0) C dX12_goDays_30 (by decide) ?_
  obtain ⟨q7, e8, h⟩ := az_b h
  refine az_cV (rest := [.int (q5 + q3), .int 13, .ref (az_ad V 42)]) (st2 := [.int q7, .int (q5 + q3), .int 13, .ref (az_ad V 42)]) C [.int 0] (c_X12_term C.hL 0 M e8) (by decide) li_X12_189 o40 (by decide) rfl rfl (Nat.le_of_ble_eq_true rfl) dX12_goDays_31 rfl ?_
  refine az_isub C dX12_goDays_34 ?_
  refine az_i2l C dX12_goDays_35 ?_
  refine az_iconst (v := 0) C dX12_goDays_36 (by decide) ?_
  refine az_bipush (v := 99) C dX12_goDays_37 (by decide) ?_
  obtain ⟨q9, e10, h⟩ := az_b h
  refine az_cS (rest := [.int 13, .ref (az_ad V 42)]) (st2 := [.int q9, .int 13, .ref (az_ad V 42)]) C [.long (((q5 + q3) - q7).toInt64), .int 0, .int 99] (c_X12_within C.hL (((q5 + q3) - q7).toInt64) 0 99 M e10) (by decide) li_X12_445 rfl rfl (Nat.le_of_ble_eq_true rfl) dX12_goDays_39 rfl ?_
  refine az_ist (k := 13) C a42 (az_vin (by decide)) (by decide) dX12_goDays_42 ?_
  refine az_aload_n C 1 dX12_goDays_43 rfl ?_
  refine az_getr (r := 42) C o40 fl_X12_13 rfl rfl dX12_goDays_44 ?_
  refine az_bipush (v := 6) C dX12_goDays_47 (by decide) ?_
  refine az_iload_n C 0 dX12_goDays_49 rfl ?_
  refine az_ist (k := 6) C a42 (az_vin (by decide)) (by decide) dX12_goDays_50 ?_
  obtain rfl := Option.some.inj h
  exact az_vret C rfl dX12_goDays_51 hp
theorem c_X12_goDays {l : Launch} {V : az_V} (hL : az_L V) (p0 : Int32) (M : az_M) {r : az_M} (h : f_X12_goDays p0 M = some r) : az_Ct l V yX12_goDays cX12_goDays 3 none 2 [.ref (az_ad V 40), .int p0] M (fun v M' => v = none ∧ M' = r) :=
  az_Ct.of (by decide) (Nat.le_of_ble_eq_true rfl) (fun Y _ _ C => s_X12_goDays_e C p0 M r h ⟨rfl, rfl⟩)
set_option maxHeartbeats 4000000 in
set_option maxRecDepth 100000 in
theorem s_X12_shoot_153 {Y : az_Y} {V : az_V} {post : Option Value → az_M → Prop} (C : az_C Y V cX12_shoot 6 RX12 none 7) (G : Nat)  (M : az_M) (r : az_M) (h : f_X12_shoot_153 G M = some r) (hp : post none r) : AW Y V (az_end Y V post) 6 M 153 [] [] := by
  unfold f_X12_shoot_153 at h
  obtain rfl := Option.some.inj h
  exact az_vret C rfl dX12_shoot_153 hp
set_option maxHeartbeats 4000000 in
set_option maxRecDepth 100000 in
theorem s_X12_shoot_36 {Y : az_Y} {V : az_V} {post : Option Value → az_M → Prop} (C : az_C Y V cX12_shoot 6 RX12 none 7) (G : Nat) (x1 : Int32) (x2 : Int32) (x4 : Int32) (s0 : Int32) (M : az_M) (r : az_M) (h : f_X12_shoot_36 G x1 x2 x4 s0 M = some r) (hp : post none r) : AW Y V (az_end Y V post) 6 M 36 [(0, .ref (az_ad V 40)), (1, .int x1), (2, .int x2), (4, .int x4)] [.int s0] := by
  have o40 := C.hL.at 40 (ci := 12) rfl
  have a42 := C.hL.ar 42 (t := 0) (len := 5550) rfl
  unfold f_X12_shoot_36 at h
  refine az_istore C dX12_shoot_36 (by decide) rfl ?_
  refine az_aload_n C 1 dX12_shoot_38 rfl ?_
  refine az_getr (r := 42) C o40 fl_X12_13 rfl rfl dX12_shoot_39 ?_
  refine az_bipush (v := 11) C dX12_shoot_42 (by decide) ?_
  refine az_dup2 C dX12_shoot_44 rfl rfl ?_
  refine az_ild (k := 11) C a42 (az_vin (by decide)) (by decide) dX12_shoot_45 ?_
  refine az_iload C 0 dX12_shoot_46 rfl ?_
  refine az_isub C dX12_shoot_48 ?_
  refine az_ist (k := 11) C a42 (az_vin (by decide)) (by decide) dX12_shoot_49 ?_
  refine az_aload_n C 1 dX12_shoot_50 rfl ?_
  refine az_getr (r := 42) C o40 fl_X12_13 rfl rfl dX12_shoot_51 ?_
  refine az_bipush (v := 15) C dX12_shoot_54 (by decide) ?_
  refine az_iload_n C 2 dX12_shoot_56 rfl ?_
  refine az_iadd C dX12_shoot_57 ?_
  refine az_dup2 C dX12_shoot_58 rfl rfl ?_
  obtain ⟨g12, h⟩ := az_g h
  refine az_ild (k := (15 + x1).toNatClampNeg) C a42 g12 rfl dX12_shoot_59 ?_
  refine az_iload C 0 dX12_shoot_60 rfl ?_
  refine az_iadd C dX12_shoot_62 ?_
  obtain ⟨g13, h⟩ := az_g h
  refine az_ist (k := (15 + x1).toNatClampNeg) C a42 g13 rfl dX12_shoot_63 ?_
  refine az_aload_n C 1 dX12_shoot_64 rfl ?_
  refine az_getr (r := 42) C o40 fl_X12_13 rfl rfl dX12_shoot_65 ?_
  refine az_bipush (v := 12) C dX12_shoot_68 (by decide) ?_
  refine az_aload_n C 1 dX12_shoot_70 rfl ?_
  refine az_iconst (v := 1) C dX12_shoot_71 (by decide) ?_
  obtain ⟨q14, e15, h⟩ := az_b h
  refine az_cV (rest := [.int 12, .ref (az_ad V 42)]) (st2 := [.int q14, .int 12, .ref (az_ad V 42)]) C [.int 1] (c_X12_bulletOf C.hL 1 (az_i (az_i M 42 11 ((M.1 42 11) - s0)) 42 ((15 + x1).toNatClampNeg) (((az_i M 42 11 ((M.1 42 11) - s0)).1 42 ((15 + x1).toNatClampNeg)) + s0)) e15) (by decide) li_X12_186 o40 (by decide) rfl rfl (Nat.le_of_ble_eq_true rfl) dX12_shoot_72 rfl ?_
  refine az_iload C 4 dX12_shoot_75 rfl ?_
  refine az_iadd C dX12_shoot_77 ?_
  refine az_i2l C dX12_shoot_78 ?_
  refine az_iconst (v := 0) C dX12_shoot_79 (by decide) ?_
  refine az_bipush (v := 99) C dX12_shoot_80 (by decide) ?_
  obtain ⟨q16, e17, h⟩ := az_b h
  refine az_cS (rest := [.int 12, .ref (az_ad V 42)]) (st2 := [.int q16, .int 12, .ref (az_ad V 42)]) C [.long ((q14 + x4).toInt64), .int 0, .int 99] (c_X12_within C.hL ((q14 + x4).toInt64) 0 99 (az_i (az_i M 42 11 ((M.1 42 11) - s0)) 42 ((15 + x1).toNatClampNeg) (((az_i M 42 11 ((M.1 42 11) - s0)).1 42 ((15 + x1).toNatClampNeg)) + s0)) e17) (by decide) li_X12_445 rfl rfl (Nat.le_of_ble_eq_true rfl) dX12_shoot_82 rfl ?_
  refine az_ist (k := 12) C a42 (az_vin (by decide)) (by decide) dX12_shoot_85 ?_
  refine az_aload_n C 1 dX12_shoot_86 rfl ?_
  refine az_getr (r := 42) C o40 fl_X12_13 rfl rfl dX12_shoot_87 ?_
  refine az_bipush (v := 17) C dX12_shoot_90 (by decide) ?_
  refine az_iconst (v := 4) C dX12_shoot_92 (by decide) ?_
  refine az_iload_n C 3 dX12_shoot_93 rfl ?_
  refine az_imul C dX12_shoot_94 ?_
  refine az_iadd C dX12_shoot_95 ?_
  refine az_iconst (v := 3) C dX12_shoot_96 (by decide) ?_
  refine az_iadd C dX12_shoot_97 ?_
  refine az_dup2 C dX12_shoot_98 rfl rfl ?_
  obtain ⟨g18, h⟩ := az_g h
  refine az_ild (k := ((17 + (4 * x2)) + 3).toNatClampNeg) C a42 g18 rfl dX12_shoot_99 ?_
  refine az_iconst (v := 1) C dX12_shoot_100 (by decide) ?_
  refine az_iadd C dX12_shoot_101 ?_
  obtain ⟨g19, h⟩ := az_g h
  refine az_ist (k := ((17 + (4 * x2)) + 3).toNatClampNeg) C a42 g19 rfl dX12_shoot_102 ?_
  refine az_aload_n C 1 dX12_shoot_103 rfl ?_
  refine az_iload_n C 3 dX12_shoot_104 rfl ?_
  obtain ⟨q20, e21, h⟩ := az_b h
  refine az_cV (rest := []) (st2 := []) C [.int x2] (c_X12_note C.hL G x2 (az_i (az_i (az_i (az_i M 42 11 ((M.1 42 11) - s0)) 42 ((15 + x1).toNatClampNeg) (((az_i M 42 11 ((M.1 42 11) - s0)).1 42 ((15 + x1).toNatClampNeg)) + s0)) 42 12 q16) 42 (((17 + (4 * x2)) + 3).toNatClampNeg) (((az_i (az_i (az_i M 42 11 ((M.1 42 11) - s0)) 42 ((15 + x1).toNatClampNeg) (((az_i M 42 11 ((M.1 42 11) - s0)).1 42 ((15 + x1).toNatClampNeg)) + s0)) 42 12 q16).1 42 (((17 + (4 * x2)) + 3).toNatClampNeg)) + 1)) e21) (by decide) li_X12_451 o40 (by decide) rfl rfl (Nat.le_of_ble_eq_true rfl) dX12_shoot_105 rfl ?_
  refine az_aload_n C 1 dX12_shoot_108 rfl ?_
  refine az_iload_n C 3 dX12_shoot_109 rfl ?_
  refine az_iconst (v := 0) C dX12_shoot_110 (by decide) ?_
  obtain ⟨q22, e23, h⟩ := az_b h
  refine az_cV (rest := []) (st2 := [.int q22]) C [.int x2, .int 0] (c_X12_ofPlace C.hL x2 0 q20 e23) (by decide) li_X12_221 o40 (by decide) rfl rfl (Nat.le_of_ble_eq_true rfl) dX12_shoot_111 rfl ?_
  refine az_iconst (v := 2) C dX12_shoot_114 (by decide) ?_
  refine az_icmp_ne C 129 dX12_shoot_115 (by decide) (fun c24 => ?_) (fun c24 => ?_)
  · have h := az_f c24 h
    refine az_aload_n C 1 dX12_shoot_129 rfl ?_
    refine az_aload_n C 1 dX12_shoot_130 rfl ?_
    refine az_iload_n C 3 dX12_shoot_131 rfl ?_
    refine az_iconst (v := 2) C dX12_shoot_132 (by decide) ?_
    obtain ⟨q25, e26, h⟩ := az_b h
    refine az_cV (rest := [.ref (az_ad V 40)]) (st2 := [.int q25, .ref (az_ad V 40)]) C [.int x2, .int 2] (c_X12_ofPlace C.hL x2 2 q20 e26) (by decide) li_X12_221 o40 (by decide) rfl rfl (Nat.le_of_ble_eq_true rfl) dX12_shoot_133 rfl ?_
    refine az_aload_n C 1 dX12_shoot_136 rfl ?_
    refine az_iconst (v := 3) C dX12_shoot_137 (by decide) ?_
    obtain ⟨q27, e28, h⟩ := az_b h
    refine az_cV (rest := [.int q25, .ref (az_ad V 40)]) (st2 := [.int q27, .int q25, .ref (az_ad V 40)]) C [.int 3] (c_X12_term C.hL 3 q20 e28) (by decide) li_X12_189 o40 (by decide) rfl rfl (Nat.le_of_ble_eq_true rfl) dX12_shoot_138 rfl ?_
    refine az_iadd C dX12_shoot_141 ?_
    refine az_iconst (v := 1) C dX12_shoot_142 (by decide) ?_
    refine az_isub C dX12_shoot_143 ?_
    refine az_aload_n C 1 dX12_shoot_144 rfl ?_
    refine az_iconst (v := 3) C dX12_shoot_145 (by decide) ?_
    obtain ⟨q29, e30, h⟩ := az_b h
    refine az_cV (rest := [.int ((q25 + q27) - 1), .ref (az_ad V 40)]) (st2 := [.int q29, .int ((q25 + q27) - 1), .ref (az_ad V 40)]) C [.int 3] (c_X12_term C.hL 3 q20 e30) (by decide) li_X12_189 o40 (by decide) rfl rfl (Nat.le_of_ble_eq_true rfl) dX12_shoot_146 rfl ?_
    obtain ⟨g31, h⟩ := az_g h
    refine az_idiv C dX12_shoot_149 g31 ?_
    obtain ⟨q32, e33, h⟩ := az_b h
    refine az_cV (rest := []) (st2 := []) C [.int (((q25 + q27) - 1) / q29)] (c_X12_goDays C.hL (((q25 + q27) - 1) / q29) q20 e33) (by decide) li_X12_454 o40 (by decide) rfl rfl (Nat.le_of_ble_eq_true rfl) dX12_shoot_150 rfl ?_
    refine az_sub [] rfl ?_
    exact s_X12_shoot_153 C G q32 r h hp
  · have h := az_t c24 h
    refine az_aload_n C 1 dX12_shoot_118 rfl ?_
    refine az_getr (r := 42) C o40 fl_X12_13 rfl rfl dX12_shoot_119 ?_
    refine az_bipush (v := 14) C dX12_shoot_122 (by decide) ?_
    refine az_iconst (v := 1) C dX12_shoot_124 (by decide) ?_
    refine az_ist (k := 14) C a42 (az_vin (by decide)) (by decide) dX12_shoot_125 ?_
    refine az_goto C 153 dX12_shoot_126 (by decide) ?_
    refine az_sub [] rfl ?_
    exact s_X12_shoot_153 C G (az_i q20 42 14 1) r h hp
set_option maxHeartbeats 4000000 in
set_option maxRecDepth 100000 in
theorem s_X12_shoot_e {Y : az_Y} {V : az_V} {post : Option Value → az_M → Prop} (C : az_C Y V cX12_shoot 6 RX12 none 7) (G : Nat) (p0 : Int32) (p1 : Int32) (M : az_M) (r : az_M) (h : f_X12_shoot G p0 p1 M = some r) (hp : post none r) : AW Y V (az_end Y V post) 6 M 0 [(0, .ref (az_ad V 40)), (1, .int p0), (2, .int p1)] [] := by
  have o40 := C.hL.at 40 (ci := 12) rfl
  unfold f_X12_shoot at h
  refine az_aload_n C 0 dX12_shoot_0 rfl ?_
  refine az_iload_n C 2 dX12_shoot_1 rfl ?_
  refine az_aload_n C 0 dX12_shoot_2 rfl ?_
  refine az_iconst (v := 0) C dX12_shoot_3 (by decide) ?_
  obtain ⟨q1, e2, h⟩ := az_b h
  refine az_cV (rest := [.int p1, .ref (az_ad V 40)]) (st2 := [.int q1, .int p1, .ref (az_ad V 40)]) C [.int 0] (c_X12_bulletOf C.hL 0 M e2) (by decide) li_X12_186 o40 (by decide) rfl rfl (Nat.le_of_ble_eq_true rfl) dX12_shoot_4 rfl ?_
  obtain ⟨q3, e4, h⟩ := az_b h
  refine az_cV (rest := []) (st2 := [.int q3.1]) C [.int p1, .int q1] (c_X12_wearsOf C.hL G p1 q1 M e4) (by decide) li_X12_212 o40 (by decide) rfl rfl (Nat.le_of_ble_eq_true rfl) dX12_shoot_7 rfl ?_
  refine az_istore_n C dX12_shoot_10 rfl (by decide) rfl ?_
  refine az_aload_n C 1 dX12_shoot_11 rfl ?_
  refine az_iload_n C 3 dX12_shoot_12 rfl ?_
  obtain ⟨q5, e6, h⟩ := az_b h
  refine az_cV (rest := []) (st2 := [.int q5.1]) C [.int p1] (c_X12_flattensOf C.hL G p1 q3.2 e6) (by decide) li_X12_215 o40 (by decide) rfl rfl (Nat.le_of_ble_eq_true rfl) dX12_shoot_13 rfl ?_
  refine az_istore C dX12_shoot_16 (by decide) rfl ?_
  refine az_iload_n C 1 dX12_shoot_18 rfl ?_
  refine az_aload_n C 2 dX12_shoot_19 rfl ?_
  refine az_iconst (v := 0) C dX12_shoot_20 (by decide) ?_
  obtain ⟨q7, e8, h⟩ := az_b h
  refine az_cV (rest := [.int q3.1]) (st2 := [.int q7, .int q3.1]) C [.int 0] (c_X12_bulletOf C.hL 0 q5.2 e8) (by decide) li_X12_186 o40 (by decide) rfl rfl (Nat.le_of_ble_eq_true rfl) dX12_shoot_21 rfl ?_
  refine az_icmp_ge C 31 dX12_shoot_24 (by decide) (fun c9 => ?_) (fun c9 => ?_)
  · have h := az_t c9 h
    refine az_aload_n C 2 dX12_shoot_31 rfl ?_
    refine az_iconst (v := 0) C dX12_shoot_32 (by decide) ?_
    obtain ⟨q10, e11, h⟩ := az_b h
    refine az_cV (rest := []) (st2 := [.int q10]) C [.int 0] (c_X12_bulletOf C.hL 0 q5.2 e11) (by decide) li_X12_186 o40 (by decide) rfl rfl (Nat.le_of_ble_eq_true rfl) dX12_shoot_33 rfl ?_
    refine az_sub [2, 3, 4, 0] rfl ?_
    exact s_X12_shoot_36 C G p0 p1 q5.1 q10 q5.2 r h hp
  · have h := az_f c9 h
    refine az_iload_n C 1 dX12_shoot_27 rfl ?_
    refine az_goto C 36 dX12_shoot_28 (by decide) ?_
    refine az_sub [2, 3, 4, 0] rfl ?_
    exact s_X12_shoot_36 C G p0 p1 q5.1 q3.1 q5.2 r h hp
theorem c_X12_shoot {l : Launch} {V : az_V} (hL : az_L V) (G : Nat) (p0 : Int32) (p1 : Int32) (M : az_M) {r : az_M} (h : f_X12_shoot G p0 p1 M = some r) : az_Ct l V yX12_shoot cX12_shoot 6 none 7 [.ref (az_ad V 40), .int p0, .int p1] M (fun v M' => v = none ∧ M' = r) :=
  az_Ct.of (by decide) (Nat.le_of_ble_eq_true rfl) (fun Y _ _ C => s_X12_shoot_e C G p0 p1 M r h ⟨rfl, rfl⟩)
set_option maxHeartbeats 4000000 in
set_option maxRecDepth 100000 in
theorem s_X12_fireNow_16 {Y : az_Y} {V : az_V} {post : Option Value → az_M → Prop} (C : az_C Y V cX12_fireNow 3 RX12 (some .int) 8) (G : Nat)  (M : az_M) (r : (Int32 × az_M)) (h : f_X12_fireNow_16 G M = some r) (hp : post (some (.int r.1)) r.2) : AW Y V (az_end Y V post) 3 M 16 [] [] := by
  unfold f_X12_fireNow_16 at h
  refine az_bipush (v := (-2)) C dX12_fireNow_16 (by decide) ?_
  obtain rfl := Option.some.inj h
  exact az_iret C dX12_fireNow_18 hp
set_option maxHeartbeats 4000000 in
set_option maxRecDepth 100000 in
theorem s_X12_fireNow_43 {Y : az_Y} {V : az_V} {post : Option Value → az_M → Prop} (C : az_C Y V cX12_fireNow 3 RX12 (some .int) 8) (G : Nat)  (M : az_M) (r : (Int32 × az_M)) (h : f_X12_fireNow_43 G M = some r) (hp : post (some (.int r.1)) r.2) : AW Y V (az_end Y V post) 3 M 43 [] [] := by
  unfold f_X12_fireNow_43 at h
  refine az_bipush (v := (-3)) C dX12_fireNow_43 (by decide) ?_
  obtain rfl := Option.some.inj h
  exact az_iret C dX12_fireNow_45 hp
set_option maxHeartbeats 4000000 in
set_option maxRecDepth 100000 in
theorem s_X12_fireNow_e {Y : az_Y} {V : az_V} {post : Option Value → az_M → Prop} (C : az_C Y V cX12_fireNow 3 RX12 (some .int) 8) (G : Nat) (p0 : Int32) (p1 : Int32) (M : az_M) (r : (Int32 × az_M)) (h : f_X12_fireNow G p0 p1 M = some r) (hp : post (some (.int r.1)) r.2) : AW Y V (az_end Y V post) 3 M 0 [(0, .ref (az_ad V 40)), (1, .int p0), (2, .int p1)] [] := by
  have o40 := C.hL.at 40 (ci := 12) rfl
  unfold f_X12_fireNow at h
  refine az_aload_n C 0 dX12_fireNow_0 rfl ?_
  refine az_iload_n C 1 dX12_fireNow_1 rfl ?_
  obtain ⟨q1, e2, h⟩ := az_b h
  refine az_cV (rest := []) (st2 := [.int q1]) C [.int p0] (c_X12_isPerson C.hL p0 M e2) (by decide) li_X12_229 o40 (by decide) rfl rfl (Nat.le_of_ble_eq_true rfl) dX12_fireNow_2 rfl ?_
  refine az_if_eq C 16 dX12_fireNow_5 (by decide) (fun c3 => ?_) (fun c3 => ?_)
  · have h := az_t c3 h
    refine az_sub [] rfl ?_
    exact s_X12_fireNow_16 C G M r h hp
  · have h := az_f c3 h
    refine az_aload_n C 0 dX12_fireNow_8 rfl ?_
    refine az_iload_n C 2 dX12_fireNow_9 rfl ?_
    obtain ⟨q4, e5, h⟩ := az_b h
    refine az_cV (rest := []) (st2 := [.int q4]) C [.int p1] (c_X12_isPlace C.hL p1 M e5) (by decide) li_X12_206 o40 (by decide) rfl rfl (Nat.le_of_ble_eq_true rfl) dX12_fireNow_10 rfl ?_
    refine az_if_ne C 19 dX12_fireNow_13 (by decide) (fun c6 => ?_) (fun c6 => ?_)
    · have h := az_f c6 h
      refine az_aload_n C 0 dX12_fireNow_19 rfl ?_
      refine az_iload_n C 1 dX12_fireNow_20 rfl ?_
      obtain ⟨q7, e8, h⟩ := az_b h
      refine az_cV (rest := []) (st2 := [.int q7]) C [.int p0] (c_X12_isHurt C.hL p0 M e8) (by decide) li_X12_232 o40 (by decide) rfl rfl (Nat.le_of_ble_eq_true rfl) dX12_fireNow_21 rfl ?_
      refine az_if_ne C 43 dX12_fireNow_24 (by decide) (fun c9 => ?_) (fun c9 => ?_)
      · have h := az_f c9 h
        refine az_sub [] rfl ?_
        exact s_X12_fireNow_43 C G M r h hp
      · have h := az_t c9 h
        refine az_aload_n C 0 dX12_fireNow_27 rfl ?_
        refine az_iload_n C 1 dX12_fireNow_28 rfl ?_
        refine az_iload_n C 2 dX12_fireNow_29 rfl ?_
        obtain ⟨q10, e11, h⟩ := az_b h
        refine az_cV (rest := []) (st2 := [.int q10.1]) C [.int p0, .int p1] (c_X12_isBarred C.hL G p0 p1 M e11) (by decide) li_X12_241 o40 (by decide) rfl rfl (Nat.le_of_ble_eq_true rfl) dX12_fireNow_30 rfl ?_
        refine az_if_ne C 43 dX12_fireNow_33 (by decide) (fun c12 => ?_) (fun c12 => ?_)
        · have h := az_f c12 h
          refine az_sub [] rfl ?_
          exact s_X12_fireNow_43 C G q10.2 r h hp
        · have h := az_t c12 h
          refine az_aload_n C 0 dX12_fireNow_36 rfl ?_
          obtain ⟨q13, e14, h⟩ := az_b h
          refine az_cV (rest := []) (st2 := [.int q13]) C [] (c_X12_canFire C.hL q10.2 e14) (by decide) li_X12_194 o40 (by decide) rfl rfl (Nat.le_of_ble_eq_true rfl) dX12_fireNow_37 rfl ?_
          refine az_if_ne C 46 dX12_fireNow_40 (by decide) (fun c15 => ?_) (fun c15 => ?_)
          · have h := az_f c15 h
            refine az_aload_n C 0 dX12_fireNow_46 rfl ?_
            refine az_iconst (v := 0) C dX12_fireNow_47 (by decide) ?_
            obtain ⟨q16, e17, h⟩ := az_b h
            refine az_cV (rest := []) (st2 := []) C [.int 0] (c_X12_remember C.hL G 0 q10.2 e17) (by decide) li_X12_457 o40 (by decide) rfl rfl (Nat.le_of_ble_eq_true rfl) dX12_fireNow_48 rfl ?_
            refine az_aload_n C 0 dX12_fireNow_51 rfl ?_
            refine az_aload_n C 0 dX12_fireNow_52 rfl ?_
            refine az_iload_n C 1 dX12_fireNow_53 rfl ?_
            refine az_iconst (v := 1) C dX12_fireNow_54 (by decide) ?_
            obtain ⟨q18, e19, h⟩ := az_b h
            refine az_cV (rest := [.ref (az_ad V 40)]) (st2 := [.int q18, .ref (az_ad V 40)]) C [.int p0, .int 1] (c_X12_ofPerson C.hL p0 1 q16 e19) (by decide) li_X12_226 o40 (by decide) rfl rfl (Nat.le_of_ble_eq_true rfl) dX12_fireNow_55 rfl ?_
            refine az_iload_n C 2 dX12_fireNow_58 rfl ?_
            obtain ⟨q20, e21, h⟩ := az_b h
            refine az_cV (rest := []) (st2 := []) C [.int q18, .int p1] (c_X12_shoot C.hL G q18 p1 q16 e21) (by decide) li_X12_460 o40 (by decide) rfl rfl (Nat.le_of_ble_eq_true rfl) dX12_fireNow_59 rfl ?_
            refine az_aload_n C 0 dX12_fireNow_62 rfl ?_
            refine az_iconst (v := 0) C dX12_fireNow_63 (by decide) ?_
            obtain ⟨q22, e23, h⟩ := az_b h
            refine az_cV (rest := []) (st2 := [.int q22]) C [.int 0] (c_X12_bulletOf C.hL 0 q20 e23) (by decide) li_X12_186 o40 (by decide) rfl rfl (Nat.le_of_ble_eq_true rfl) dX12_fireNow_64 rfl ?_
            obtain rfl := Option.some.inj h
            exact az_iret C dX12_fireNow_67 hp
          · have h := az_t c15 h
            refine az_sub [] rfl ?_
            exact s_X12_fireNow_43 C G q10.2 r h hp
    · have h := az_t c6 h
      refine az_sub [] rfl ?_
      exact s_X12_fireNow_16 C G M r h hp
theorem c_X12_fireNow {l : Launch} {V : az_V} (hL : az_L V) (G : Nat) (p0 : Int32) (p1 : Int32) (M : az_M) {r : (Int32 × az_M)} (h : f_X12_fireNow G p0 p1 M = some r) : az_Ct l V yX12_fireNow cX12_fireNow 3 (some .int) 8 [.ref (az_ad V 40), .int p0, .int p1] M (fun v M' => v = some (.int r.1) ∧ M' = r.2) :=
  az_Ct.of (by decide) (Nat.le_of_ble_eq_true rfl) (fun Y _ _ C => s_X12_fireNow_e C G p0 p1 M r h ⟨rfl, rfl⟩)
set_option maxHeartbeats 4000000 in
set_option maxRecDepth 100000 in
theorem s_X12_fire_e {Y : az_Y} {V : az_V} {post : Option Value → az_M → Prop} (C : az_C Y V cX12_fire 3 RX12 (some .int) 9) (G : Nat) (p0 : Int32) (p1 : Int32) (M : az_M) (r : (Int32 × az_M)) (h : f_X12_fire G p0 p1 M = some r) (hp : post (some (.int r.1)) r.2) : AW Y V (az_end Y V post) 3 M 0 [(0, .ref (az_ad V 40)), (1, .int p0), (2, .int p1)] [] := by
  have o40 := C.hL.at 40 (ci := 12) rfl
  unfold f_X12_fire at h
  refine az_aload_n C 0 dX12_fire_0 rfl ?_
  refine az_iconst (v := 0) C dX12_fire_1 (by decide) ?_
  refine az_puti C o40 fl_X12_149 rfl rfl rfl rfl dX12_fire_2 ?_
  refine az_aload_n C 0 dX12_fire_5 rfl ?_
  refine az_aload_n C 0 dX12_fire_6 rfl ?_
  refine az_iload_n C 1 dX12_fire_7 rfl ?_
  refine az_iload_n C 2 dX12_fire_8 rfl ?_
  obtain ⟨q1, e2, h⟩ := az_b h
  refine az_cV (rest := [.ref (az_ad V 40)]) (st2 := [.int q1.1, .ref (az_ad V 40)]) C [.int p0, .int p1] (c_X12_fireNow C.hL G p0 p1 (az_i M 40 0 0) e2) (by decide) li_X12_463 o40 (by decide) rfl rfl (Nat.le_of_ble_eq_true rfl) dX12_fire_9 rfl ?_
  obtain ⟨q3, e4, h⟩ := az_b h
  refine az_cV (rest := []) (st2 := [.int q3.1]) C [.int q1.1] (c_X12_tell C.hL q1.1 q1.2 e4) (by decide) li_X12_158 o40 (by decide) rfl rfl (Nat.le_of_ble_eq_true rfl) dX12_fire_12 rfl ?_
  obtain rfl := Option.some.inj h
  exact az_iret C dX12_fire_15 hp
theorem c_X12_fire {l : Launch} {V : az_V} (hL : az_L V) (G : Nat) (p0 : Int32) (p1 : Int32) (M : az_M) {r : (Int32 × az_M)} (h : f_X12_fire G p0 p1 M = some r) : az_Ct l V yX12_fire cX12_fire 3 (some .int) 9 [.ref (az_ad V 40), .int p0, .int p1] M (fun v M' => v = some (.int r.1) ∧ M' = r.2) :=
  az_Ct.of (by decide) (Nat.le_of_ble_eq_true rfl) (fun Y _ _ C => s_X12_fire_e C G p0 p1 M r h ⟨rfl, rfl⟩)
set_option maxHeartbeats 4000000 in
set_option maxRecDepth 100000 in
theorem s_X12_draw_e {Y : az_Y} {V : az_V} {post : Option Value → az_M → Prop} (C : az_C Y V cX12_draw 2 RX12 (some .int) 1) (p0 : Int32) (M : az_M) (r : (Int32 × az_M)) (h : f_X12_draw p0 M = some r) (hp : post (some (.int r.1)) r.2) : AW Y V (az_end Y V post) 2 M 0 [(0, .ref (az_ad V 40)), (1, .int p0)] [] := by
  have o40 := C.hL.at 40 (ci := 12) rfl
  unfold f_X12_draw at h
  refine az_aload_n C 0 dX12_draw_0 rfl ?_
  refine az_aload_n C 0 dX12_draw_1 rfl ?_
  refine az_getl C o40 fl_X12_466 rfl dX12_draw_2 ?_
  refine az_ldc2 C ck_X12_469 dX12_draw_5 ?_
  refine az_lmul C dX12_draw_8 ?_
  refine az_ldc2 C ck_X12_471 dX12_draw_9 ?_
  refine az_ladd C dX12_draw_12 ?_
  refine az_ldc2 C ck_X12_473 dX12_draw_13 ?_
  refine az_lrem2 C dX12_draw_16 (by decide) ?_
  refine az_putl C o40 fl_X12_466 rfl rfl rfl rfl dX12_draw_17 ?_
  refine az_aload_n C 0 dX12_draw_20 rfl ?_
  refine az_getl C o40 fl_X12_466 rfl dX12_draw_21 ?_
  refine az_iload_n C 1 dX12_draw_24 rfl ?_
  refine az_i2l C dX12_draw_25 ?_
  obtain ⟨g1, h⟩ := az_g h
  refine az_lrem2 C dX12_draw_26 g1 ?_
  refine az_l2i C dX12_draw_27 ?_
  obtain rfl := Option.some.inj h
  exact az_iret C dX12_draw_28 hp
theorem c_X12_draw {l : Launch} {V : az_V} (hL : az_L V) (p0 : Int32) (M : az_M) {r : (Int32 × az_M)} (h : f_X12_draw p0 M = some r) : az_Ct l V yX12_draw cX12_draw 2 (some .int) 1 [.ref (az_ad V 40), .int p0] M (fun v M' => v = some (.int r.1) ∧ M' = r.2) :=
  az_Ct.of (by decide) (Nat.le_of_ble_eq_true rfl) (fun Y _ _ C => s_X12_draw_e C p0 M r h ⟨rfl, rfl⟩)
set_option maxHeartbeats 4000000 in
set_option maxRecDepth 100000 in
theorem s_X12_dropQuarrel_7 {Y : az_Y} {V : az_V} {post : Option Value → az_M → Prop} (C : az_C Y V cX12_dropQuarrel 3 RX12 none 1) (G : Nat) : ∀ (F : Nat) (x2 : Int32) (M : az_M) (r : az_M), f_X12_dropQuarrel_7 G F x2 M = some r → post none r → AW Y V (az_end Y V post) 3 M 7 [(0, .ref (az_ad V 40)), (2, .int x2)] [] := by
  have o40 := C.hL.at 40 (ci := 12) rfl
  have a42 := C.hL.ar 42 (t := 0) (len := 5550) rfl
  intro F
  induction F with
  | zero =>
    intro x2 M r h
    exact absurd (show (none : Option az_M) = some r from h) (fun q => by cases q)
  | succ F ih =>
    intro x2 M r h hp
    rw [f_X12_dropQuarrel_7] at h
    refine az_iload_n C 1 dX12_dropQuarrel_7 rfl ?_
    refine az_bipush (v := 119) C dX12_dropQuarrel_8 (by decide) ?_
    refine az_icmp_ge C 33 dX12_dropQuarrel_10 (by decide) (fun c1 => ?_) (fun c1 => ?_)
    · have h := az_t c1 h
      refine az_aload_n C 0 dX12_dropQuarrel_33 rfl ?_
      refine az_getr (r := 42) C o40 fl_X12_13 rfl rfl dX12_dropQuarrel_34 ?_
      refine az_iconst (v := 2) C dX12_dropQuarrel_37 (by decide) ?_
      refine az_dup2 C dX12_dropQuarrel_38 rfl rfl ?_
      refine az_ild (k := 2) C a42 (az_vin (by decide)) (by decide) dX12_dropQuarrel_39 ?_
      refine az_iconst (v := 1) C dX12_dropQuarrel_40 (by decide) ?_
      refine az_isub C dX12_dropQuarrel_41 ?_
      refine az_ist (k := 2) C a42 (az_vin (by decide)) (by decide) dX12_dropQuarrel_42 ?_
      obtain rfl := Option.some.inj h
      exact az_vret C rfl dX12_dropQuarrel_43 hp
    · have h := az_f c1 h
      refine az_aload_n C 0 dX12_dropQuarrel_13 rfl ?_
      refine az_getr (r := 42) C o40 fl_X12_13 rfl rfl dX12_dropQuarrel_14 ?_
      refine az_iload_n C 1 dX12_dropQuarrel_17 rfl ?_
      refine az_aload_n C 0 dX12_dropQuarrel_18 rfl ?_
      refine az_getr (r := 42) C o40 fl_X12_13 rfl rfl dX12_dropQuarrel_19 ?_
      refine az_iload_n C 1 dX12_dropQuarrel_22 rfl ?_
      refine az_iconst (v := 4) C dX12_dropQuarrel_23 (by decide) ?_
      refine az_iadd C dX12_dropQuarrel_24 ?_
      obtain ⟨g2, h⟩ := az_g h
      refine az_ild (k := (x2 + 4).toNatClampNeg) C a42 g2 rfl dX12_dropQuarrel_25 ?_
      obtain ⟨g3, h⟩ := az_g h
      refine az_ist (k := x2.toNatClampNeg) C a42 g3 rfl dX12_dropQuarrel_26 ?_
      refine az_iinc (v := (x2 + 1)) C 1 dX12_dropQuarrel_27 rfl rfl (by decide) rfl ?_
      refine az_goto C 7 dX12_dropQuarrel_30 (by decide) ?_
      refine az_sub [1, 0] rfl ?_
      exact ih (x2 + 1) (az_i M 42 x2.toNatClampNeg (M.1 42 ((x2 + 4).toNatClampNeg))) r h hp
set_option maxHeartbeats 4000000 in
set_option maxRecDepth 100000 in
theorem s_X12_dropQuarrel_e {Y : az_Y} {V : az_V} {post : Option Value → az_M → Prop} (C : az_C Y V cX12_dropQuarrel 3 RX12 none 1) (G : Nat) (p0 : Int32) (M : az_M) (r : az_M) (h : f_X12_dropQuarrel G p0 M = some r) (hp : post none r) : AW Y V (az_end Y V post) 3 M 0 [(0, .ref (az_ad V 40)), (1, .int p0)] [] := by
  unfold f_X12_dropQuarrel at h
  refine az_bipush (v := 95) C dX12_dropQuarrel_0 (by decide) ?_
  refine az_iconst (v := 4) C dX12_dropQuarrel_2 (by decide) ?_
  refine az_iload_n C 1 dX12_dropQuarrel_3 rfl ?_
  refine az_imul C dX12_dropQuarrel_4 ?_
  refine az_iadd C dX12_dropQuarrel_5 ?_
  refine az_istore_n C dX12_dropQuarrel_6 rfl (by decide) rfl ?_
  refine az_sub [1, 0] rfl ?_
  exact s_X12_dropQuarrel_7 C G G (95 + (4 * p0)) M r h hp
theorem c_X12_dropQuarrel {l : Launch} {V : az_V} (hL : az_L V) (G : Nat) (p0 : Int32) (M : az_M) {r : az_M} (h : f_X12_dropQuarrel G p0 M = some r) : az_Ct l V yX12_dropQuarrel cX12_dropQuarrel 3 none 1 [.ref (az_ad V 40), .int p0] M (fun v M' => v = none ∧ M' = r) :=
  az_Ct.of (by decide) (Nat.le_of_ble_eq_true rfl) (fun Y _ _ C => s_X12_dropQuarrel_e C G p0 M r h ⟨rfl, rfl⟩)
set_option maxHeartbeats 4000000 in
set_option maxRecDepth 100000 in
theorem s_X12_have_139 {Y : az_Y} {V : az_V} {post : Option Value → az_M → Prop} (C : az_C Y V cX12_have 7 RX12 (some .int) 8) (G : Nat) (K12 : (Int32 → Int32 → Int32 → Int32 → az_M → Option (Int32 × az_M))) (hK12 : ∀ (x1 : Int32) (x2 : Int32) (x3 : Int32) (x4 : Int32) (M : az_M) (r : (Int32 × az_M)), K12 x1 x2 x3 x4 M = some r → post (some (.int r.1)) r.2 → AW Y V (az_end Y V post) 7 M 12 [(0, .ref (az_ad V 40)), (1, .int x1), (2, .int x2), (3, .int x3), (4, .int x4)] []) (x1 : Int32) (x2 : Int32) (x3 : Int32) (x4 : Int32) (M : az_M) (r : (Int32 × az_M)) (h : f_X12_have_139 G K12 x1 x2 x3 x4 M = some r) (hp : post (some (.int r.1)) r.2) : AW Y V (az_end Y V post) 7 M 139 [(0, .ref (az_ad V 40)), (1, .int x1), (2, .int x2), (3, .int x3), (4, .int x4)] [] := by
  unfold f_X12_have_139 at h
  refine az_iinc (v := (x4 + 1)) C 4 dX12_have_139 rfl rfl (by decide) rfl ?_
  refine az_goto C 12 dX12_have_142 (by decide) ?_
  refine az_sub [1, 2, 3, 4, 0] rfl ?_
  exact hK12 x1 x2 x3 (x4 + 1) M r h hp
set_option maxHeartbeats 4000000 in
set_option maxRecDepth 100000 in
theorem s_X12_have_123 {Y : az_Y} {V : az_V} {post : Option Value → az_M → Prop} (C : az_C Y V cX12_have 7 RX12 (some .int) 8) (G : Nat) (K12 : (Int32 → Int32 → Int32 → Int32 → az_M → Option (Int32 × az_M))) (hK12 : ∀ (x1 : Int32) (x2 : Int32) (x3 : Int32) (x4 : Int32) (M : az_M) (r : (Int32 × az_M)), K12 x1 x2 x3 x4 M = some r → post (some (.int r.1)) r.2 → AW Y V (az_end Y V post) 7 M 12 [(0, .ref (az_ad V 40)), (1, .int x1), (2, .int x2), (3, .int x3), (4, .int x4)] []) (x1 : Int32) (x2 : Int32) (x4 : Int32) (s0 : Int32) (M : az_M) (r : (Int32 × az_M)) (h : f_X12_have_123 G K12 x1 x2 x4 s0 M = some r) (hp : post (some (.int r.1)) r.2) : AW Y V (az_end Y V post) 7 M 123 [(0, .ref (az_ad V 40)), (1, .int x1), (2, .int x2), (4, .int x4)] [.int s0] := by
  unfold f_X12_have_123 at h
  refine az_istore_n C dX12_have_123 rfl (by decide) rfl ?_
  refine az_goto C 139 dX12_have_124 (by decide) ?_
  refine az_sub [1, 2, 3, 0, 4] rfl ?_
  exact s_X12_have_139 C G K12 hK12 x1 x2 s0 x4 M r h hp
set_option maxHeartbeats 4000000 in
set_option maxRecDepth 100000 in
theorem s_X12_have_145 {Y : az_Y} {V : az_V} {post : Option Value → az_M → Prop} (C : az_C Y V cX12_have 7 RX12 (some .int) 8) (G : Nat) (x1 : Int32) (x3 : Int32) (M : az_M) (r : (Int32 × az_M)) (h : f_X12_have_145 G x1 x3 M = some r) (hp : post (some (.int r.1)) r.2) : AW Y V (az_end Y V post) 7 M 145 [(0, .ref (az_ad V 40)), (1, .int x1), (3, .int x3)] [] := by
  have o40 := C.hL.at 40 (ci := 12) rfl
  unfold f_X12_have_145 at h
  refine az_aload_n C 0 dX12_have_145 rfl ?_
  refine az_iload_n C 1 dX12_have_146 rfl ?_
  obtain ⟨q29, e30, h⟩ := az_b h
  refine az_cV (rest := []) (st2 := []) C [.int x1] (c_X12_dropQuarrel C.hL G x1 M e30) (by decide) li_X12_478 o40 (by decide) rfl rfl (Nat.le_of_ble_eq_true rfl) dX12_have_147 rfl ?_
  refine az_iload_n C 2 dX12_have_150 rfl ?_
  obtain rfl := Option.some.inj h
  exact az_iret C dX12_have_151 hp
set_option maxHeartbeats 4000000 in
set_option maxRecDepth 100000 in
theorem s_X12_have_12 {Y : az_Y} {V : az_V} {post : Option Value → az_M → Prop} (C : az_C Y V cX12_have 7 RX12 (some .int) 8) (G : Nat) : ∀ (F : Nat) (x1 : Int32) (x2 : Int32) (x3 : Int32) (x4 : Int32) (M : az_M) (r : (Int32 × az_M)), f_X12_have_12 G F x1 x2 x3 x4 M = some r → post (some (.int r.1)) r.2 → AW Y V (az_end Y V post) 7 M 12 [(0, .ref (az_ad V 40)), (1, .int x1), (2, .int x2), (3, .int x3), (4, .int x4)] [] := by
  have o40 := C.hL.at 40 (ci := 12) rfl
  have a42 := C.hL.ar 42 (t := 0) (len := 5550) rfl
  intro F
  induction F with
  | zero =>
    intro x1 x2 x3 x4 M r h
    exact absurd (show (none : Option (Int32 × az_M)) = some r from h) (fun q => by cases q)
  | succ F ih =>
    intro x1 x2 x3 x4 M r h hp
    rw [f_X12_have_12] at h
    refine az_iload C 4 dX12_have_12 rfl ?_
    refine az_iconst (v := 2) C dX12_have_14 (by decide) ?_
    refine az_aload_n C 0 dX12_have_15 rfl ?_
    refine az_iconst (v := 1) C dX12_have_16 (by decide) ?_
    obtain ⟨q3, e4, h⟩ := az_b h
    refine az_cV (rest := [.int 2, .int x4]) (st2 := [.int q3, .int 2, .int x4]) C [.int 1] (c_X12_term C.hL 1 M e4) (by decide) li_X12_189 o40 (by decide) rfl rfl (Nat.le_of_ble_eq_true rfl) dX12_have_17 rfl ?_
    refine az_imul C dX12_have_20 ?_
    refine az_icmp_ge C 145 dX12_have_21 (by decide) (fun c5 => ?_) (fun c5 => ?_)
    · have h := az_t c5 h
      refine az_sub [0, 1, 3] rfl ?_
      exact s_X12_have_145 C G x1 x3 M r h hp
    · have h := az_f c5 h
      refine az_iload_n C 3 dX12_have_24 rfl ?_
      refine az_if_ne C 145 dX12_have_25 (by decide) (fun c6 => ?_) (fun c6 => ?_)
      · have h := az_f c6 h
        refine az_sub [0, 1, 3] rfl ?_
        exact s_X12_have_145 C G x1 x3 M r h hp
      · have h := az_t c6 h
        refine az_aload_n C 0 dX12_have_28 rfl ?_
        refine az_iload_n C 1 dX12_have_29 rfl ?_
        refine az_iload C 4 dX12_have_30 rfl ?_
        refine az_iconst (v := 2) C dX12_have_32 (by decide) ?_
        refine az_irem2 C dX12_have_33 (by decide) ?_
        obtain ⟨q7, e8, h⟩ := az_b h
        refine az_cV (rest := []) (st2 := [.int q7]) C [.int x1, .int (az_rem x4 2)] (c_X12_ofQuarrel C.hL x1 (az_rem x4 2) M e8) (by decide) li_X12_238 o40 (by decide) rfl rfl (Nat.le_of_ble_eq_true rfl) dX12_have_34 rfl ?_
        refine az_istore C dX12_have_37 (by decide) rfl ?_
        refine az_aload_n C 1 dX12_have_39 rfl ?_
        refine az_iload_n C 2 dX12_have_40 rfl ?_
        refine az_iconst (v := 1) C dX12_have_41 (by decide) ?_
        refine az_iload C 5 dX12_have_42 rfl ?_
        refine az_iconst (v := 2) C dX12_have_44 (by decide) ?_
        refine az_irem2 C dX12_have_45 (by decide) ?_
        refine az_isub C dX12_have_46 ?_
        obtain ⟨q9, e10, h⟩ := az_b h
        refine az_cV (rest := []) (st2 := [.int q9]) C [.int x1, .int (1 - (az_rem x4 2))] (c_X12_ofQuarrel C.hL x1 (1 - (az_rem x4 2)) M e10) (by decide) li_X12_238 o40 (by decide) rfl rfl (Nat.le_of_ble_eq_true rfl) dX12_have_47 rfl ?_
        refine az_istore C dX12_have_50 (by decide) rfl ?_
        refine az_aload_n C 2 dX12_have_52 rfl ?_
        obtain ⟨q11, e12, h⟩ := az_b h
        refine az_cV (rest := []) (st2 := [.int q11]) C [] (c_X12_canFire C.hL M e12) (by decide) li_X12_194 o40 (by decide) rfl rfl (Nat.le_of_ble_eq_true rfl) dX12_have_53 rfl ?_
        refine az_if_ne C 64 dX12_have_56 (by decide) (fun c13 => ?_) (fun c13 => ?_)
        · have h := az_f c13 h
          refine az_aload_n C 2 dX12_have_64 rfl ?_
          refine az_bipush (v := 10) C dX12_have_65 (by decide) ?_
          obtain ⟨q14, e15, h⟩ := az_b h
          refine az_cV (rest := []) (st2 := [.int q14.1]) C [.int 10] (c_X12_draw C.hL 10 M e15) (by decide) li_X12_475 o40 (by decide) rfl rfl (Nat.le_of_ble_eq_true rfl) dX12_have_67 rfl ?_
          refine az_aload_n C 2 dX12_have_70 rfl ?_
          refine az_iload C 1 dX12_have_71 rfl ?_
          refine az_iload_n C 4 dX12_have_73 rfl ?_
          obtain ⟨q16, e17, h⟩ := az_b h
          refine az_cV (rest := [.int q14.1]) (st2 := [.int q16.1, .int q14.1]) C [.int q7, .int x2] (c_X12_aimsOf C.hL G q7 x2 q14.2 e17) (by decide) li_X12_235 o40 (by decide) rfl rfl (Nat.le_of_ble_eq_true rfl) dX12_have_74 rfl ?_
          refine az_icmp_ge C 127 dX12_have_77 (by decide) (fun c18 => ?_) (fun c18 => ?_)
          · have h := az_t c18 h
            refine az_aload_n C 2 dX12_have_127 rfl ?_
            refine az_aload_n C 2 dX12_have_128 rfl ?_
            refine az_iload C 1 dX12_have_129 rfl ?_
            refine az_iconst (v := 1) C dX12_have_131 (by decide) ?_
            obtain ⟨q19, e20, h⟩ := az_b h
            refine az_cV (rest := [.ref (az_ad V 40)]) (st2 := [.int q19, .ref (az_ad V 40)]) C [.int q7, .int 1] (c_X12_ofPerson C.hL q7 1 q16.2 e20) (by decide) li_X12_226 o40 (by decide) rfl rfl (Nat.le_of_ble_eq_true rfl) dX12_have_132 rfl ?_
            refine az_iload_n C 4 dX12_have_135 rfl ?_
            obtain ⟨q21, e22, h⟩ := az_b h
            refine az_cV (rest := []) (st2 := []) C [.int q19, .int x2] (c_X12_shoot C.hL G q19 x2 q16.2 e22) (by decide) li_X12_460 o40 (by decide) rfl rfl (Nat.le_of_ble_eq_true rfl) dX12_have_136 rfl ?_
            refine az_sub [2, 3, 4, 5, 6] rfl ?_
            exact s_X12_have_139 C G (f_X12_have_12 G F) ih x1 x2 x3 x4 q21 r h hp
          · have h := az_f c18 h
            refine az_aload_n C 2 dX12_have_80 rfl ?_
            refine az_getr (r := 42) C o40 fl_X12_13 rfl rfl dX12_have_81 ?_
            refine az_bipush (v := 65) C dX12_have_84 (by decide) ?_
            refine az_iconst (v := 3) C dX12_have_86 (by decide) ?_
            refine az_iload C 0 dX12_have_87 rfl ?_
            refine az_imul C dX12_have_89 ?_
            refine az_iadd C dX12_have_90 ?_
            refine az_iconst (v := 2) C dX12_have_91 (by decide) ?_
            refine az_iadd C dX12_have_92 ?_
            refine az_aload_n C 2 dX12_have_93 rfl ?_
            refine az_iconst (v := 0) C dX12_have_94 (by decide) ?_
            obtain ⟨q23, e24, h⟩ := az_b h
            refine az_cV (rest := [.int ((65 + (3 * q9)) + 2), .ref (az_ad V 42)]) (st2 := [.int q23, .int ((65 + (3 * q9)) + 2), .ref (az_ad V 42)]) C [.int 0] (c_X12_term C.hL 0 q16.2 e24) (by decide) li_X12_189 o40 (by decide) rfl rfl (Nat.le_of_ble_eq_true rfl) dX12_have_95 rfl ?_
            refine az_bipush (v := 7) C dX12_have_98 (by decide) ?_
            refine az_iadd C dX12_have_100 ?_
            obtain ⟨g25, h⟩ := az_g h
            refine az_ist (k := ((65 + (3 * q9)) + 2).toNatClampNeg) C a42 g25 rfl dX12_have_101 ?_
            refine az_aload_n C 2 dX12_have_102 rfl ?_
            refine az_bipush (v := 12) C dX12_have_103 (by decide) ?_
            refine az_iload C 0 dX12_have_105 rfl ?_
            refine az_iadd C dX12_have_107 ?_
            obtain ⟨q26, e27, h⟩ := az_b h
            refine az_cV (rest := []) (st2 := []) C [.int (12 + q9)] (c_X12_note C.hL G (12 + q9) (az_i q16.2 42 (((65 + (3 * q9)) + 2).toNatClampNeg) (q23 + 7)) e27) (by decide) li_X12_451 o40 (by decide) rfl rfl (Nat.le_of_ble_eq_true rfl) dX12_have_108 rfl ?_
            refine az_iload C 6 dX12_have_111 rfl ?_
            refine az_iconst (v := 2) C dX12_have_113 (by decide) ?_
            refine az_irem2 C dX12_have_114 (by decide) ?_
            refine az_if_ne C 122 dX12_have_115 (by decide) (fun c28 => ?_) (fun c28 => ?_)
            · have h := az_f c28 h
              refine az_iconst (v := 2) C dX12_have_122 (by decide) ?_
              refine az_sub [2, 3, 4, 6] rfl ?_
              exact s_X12_have_123 C G (f_X12_have_12 G F) ih x1 x2 x4 2 q26 r h hp
            · have h := az_t c28 h
              refine az_iconst (v := 1) C dX12_have_118 (by decide) ?_
              refine az_goto C 123 dX12_have_119 (by decide) ?_
              refine az_sub [2, 3, 4, 6] rfl ?_
              exact s_X12_have_123 C G (f_X12_have_12 G F) ih x1 x2 x4 1 q26 r h hp
        · have h := az_t c13 h
          refine az_iconst (v := 3) C dX12_have_59 (by decide) ?_
          refine az_istore_n C dX12_have_60 rfl (by decide) rfl ?_
          refine az_goto C 139 dX12_have_61 (by decide) ?_
          refine az_sub [3, 4, 5, 0, 6] rfl ?_
          exact s_X12_have_139 C G (f_X12_have_12 G F) ih x1 x2 3 x4 M r h hp
set_option maxHeartbeats 4000000 in
set_option maxRecDepth 100000 in
theorem s_X12_have_e {Y : az_Y} {V : az_V} {post : Option Value → az_M → Prop} (C : az_C Y V cX12_have 7 RX12 (some .int) 8) (G : Nat) (p0 : Int32) (M : az_M) (r : (Int32 × az_M)) (h : f_X12_have G p0 M = some r) (hp : post (some (.int r.1)) r.2) : AW Y V (az_end Y V post) 7 M 0 [(0, .ref (az_ad V 40)), (1, .int p0)] [] := by
  have o40 := C.hL.at 40 (ci := 12) rfl
  unfold f_X12_have at h
  refine az_aload_n C 0 dX12_have_0 rfl ?_
  refine az_iload_n C 1 dX12_have_1 rfl ?_
  refine az_iconst (v := 2) C dX12_have_2 (by decide) ?_
  obtain ⟨q1, e2, h⟩ := az_b h
  refine az_cV (rest := []) (st2 := [.int q1]) C [.int p0, .int 2] (c_X12_ofQuarrel C.hL p0 2 M e2) (by decide) li_X12_238 o40 (by decide) rfl rfl (Nat.le_of_ble_eq_true rfl) dX12_have_3 rfl ?_
  refine az_istore_n C dX12_have_6 rfl (by decide) rfl ?_
  refine az_iconst (v := 0) C dX12_have_7 (by decide) ?_
  refine az_istore_n C dX12_have_8 rfl (by decide) rfl ?_
  refine az_iconst (v := 0) C dX12_have_9 (by decide) ?_
  refine az_istore C dX12_have_10 (by decide) rfl ?_
  refine az_sub [3, 4, 2, 1, 0] rfl ?_
  exact s_X12_have_12 C G G p0 q1 0 0 M r h hp
theorem c_X12_have {l : Launch} {V : az_V} (hL : az_L V) (G : Nat) (p0 : Int32) (M : az_M) {r : (Int32 × az_M)} (h : f_X12_have G p0 M = some r) : az_Ct l V yX12_have cX12_have 7 (some .int) 8 [.ref (az_ad V 40), .int p0] M (fun v M' => v = some (.int r.1) ∧ M' = r.2) :=
  az_Ct.of (by decide) (Nat.le_of_ble_eq_true rfl) (fun Y _ _ C => s_X12_have_e C G p0 M r h ⟨rfl, rfl⟩)
