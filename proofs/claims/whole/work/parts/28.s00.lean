set_option maxHeartbeats 4000000 in
set_option maxRecDepth 100000 in
theorem s_X5_isSign_29 {Y : az_Y} {V : az_V} {post : Option Value → az_M → Prop} (C : az_C Y V cX5_isSign 2 RX5 (some .boolean) 1) (s0 : Int32) (M : az_M) (r : Int32) (h : f_X5_isSign_29 s0 M = some r) (hp : post (some (.int r)) M) : AW Y V (az_end Y V post) 2 M 29 [] [.int s0] := by
  unfold f_X5_isSign_29 at h
  obtain ⟨g4, h⟩ := az_g2 h
  obtain rfl := Option.some.inj h
  exact az_zret C dX5_isSign_29 (az_nz g4) hp
set_option maxHeartbeats 4000000 in
set_option maxRecDepth 100000 in
theorem s_X5_isSign_28 {Y : az_Y} {V : az_V} {post : Option Value → az_M → Prop} (C : az_C Y V cX5_isSign 2 RX5 (some .boolean) 1)  (M : az_M) (r : Int32) (h : f_X5_isSign_28 M = some r) (hp : post (some (.int r)) M) : AW Y V (az_end Y V post) 2 M 28 [] [] := by
  unfold f_X5_isSign_28 at h
  refine az_iconst (v := 0) C dX5_isSign_28 (by decide) ?_
  exact s_X5_isSign_29 C 0 M r h hp
set_option maxHeartbeats 4000000 in
set_option maxRecDepth 100000 in
theorem s_X5_isSign_e {Y : az_Y} {V : az_V} {post : Option Value → az_M → Prop} (C : az_C Y V cX5_isSign 2 RX5 (some .boolean) 1) (p0 : Int32) (M : az_M) (r : Int32) (h : f_X5_isSign p0 M = some r) (hp : post (some (.int r)) M) : AW Y V (az_end Y V post) 2 M 0 [(0, .ref (az_ad V 15)), (1, .int p0)] [] := by
  have o5 := C.hL.at 5 (ci := 9) rfl
  have o15 := C.hL.at 15 (ci := 5) rfl
  have a6 := C.hL.ar 6 (t := 0) (len := 400) rfl
  unfold f_X5_isSign at h
  refine az_aload_n C 0 dX5_isSign_0 rfl ?_
  refine az_geti C o15 fl_X5_55 rfl dX5_isSign_1 ?_
  refine az_iconst (v := 3) C dX5_isSign_4 (by decide) ?_
  refine az_icmp_ne C 28 dX5_isSign_5 (by decide) (fun c1 => ?_) (fun c1 => ?_)
  · have h := az_f c1 h
    refine az_sub [] rfl ?_
    exact s_X5_isSign_28 C M r h hp
  · have h := az_t c1 h
    refine az_aload_n C 0 dX5_isSign_8 rfl ?_
    refine az_getr (r := 5) C o15 fl_X5_18 rfl rfl dX5_isSign_9 ?_
    refine az_getr (r := 6) C o5 fl_X5_137 rfl rfl dX5_isSign_12 ?_
    refine az_aload_n C 0 dX5_isSign_15 rfl ?_
    refine az_geti C o15 fl_X5_52 rfl dX5_isSign_16 ?_
    obtain ⟨g2, h⟩ := az_g h
    refine az_ild (k := (M.1 15 4).toNatClampNeg) C a6 g2 rfl dX5_isSign_19 ?_
    refine az_iload_n C 1 dX5_isSign_20 rfl ?_
    refine az_icmp_ne C 28 dX5_isSign_21 (by decide) (fun c3 => ?_) (fun c3 => ?_)
    · have h := az_f c3 h
      refine az_sub [] rfl ?_
      exact s_X5_isSign_28 C M r h hp
    · have h := az_t c3 h
      refine az_iconst (v := 1) C dX5_isSign_24 (by decide) ?_
      refine az_goto C 29 dX5_isSign_25 (by decide) ?_
      refine az_sub [] rfl ?_
      exact s_X5_isSign_29 C 1 M r h hp
theorem c_X5_isSign {l : Launch} {V : az_V} (hL : az_L V) (p0 : Int32) (M : az_M) {r : Int32} (h : f_X5_isSign p0 M = some r) : az_Ct l V yX5_isSign cX5_isSign 2 (some .boolean) 1 [.ref (az_ad V 15), .int p0] M (fun v M' => v = some (.int r) ∧ M' = M) :=
  az_Ct.of (by decide) (Nat.le_of_ble_eq_true rfl) (fun Y _ _ C => s_X5_isSign_e C p0 M r h ⟨rfl, rfl⟩)
set_option maxHeartbeats 4000000 in
set_option maxRecDepth 100000 in
theorem s_X5_kindAt_54 {Y : az_Y} {V : az_V} {post : Option Value → az_M → Prop} (C : az_C Y V cX5_kindAt 3 RX5 (some .int) 1) (s0 : Int32) (M : az_M) (r : Int32) (h : f_X5_kindAt_54 s0 M = some r) (hp : post (some (.int r)) M) : AW Y V (az_end Y V post) 3 M 54 [] [.int s0] := by
  unfold f_X5_kindAt_54 at h
  obtain rfl := Option.some.inj h
  exact az_iret C dX5_kindAt_54 hp
set_option maxHeartbeats 4000000 in
set_option maxRecDepth 100000 in
theorem s_X5_kindAt_53 {Y : az_Y} {V : az_V} {post : Option Value → az_M → Prop} (C : az_C Y V cX5_kindAt 3 RX5 (some .int) 1)  (M : az_M) (r : Int32) (h : f_X5_kindAt_53 M = some r) (hp : post (some (.int r)) M) : AW Y V (az_end Y V post) 3 M 53 [] [] := by
  unfold f_X5_kindAt_53 at h
  refine az_iconst (v := 3) C dX5_kindAt_53 (by decide) ?_
  exact s_X5_kindAt_54 C 3 M r h hp
set_option maxHeartbeats 4000000 in
set_option maxRecDepth 100000 in
theorem s_X5_kindAt_37 {Y : az_Y} {V : az_V} {post : Option Value → az_M → Prop} (C : az_C Y V cX5_kindAt 3 RX5 (some .int) 1) (x2 : Int32) (M : az_M) (r : Int32) (h : f_X5_kindAt_37 x2 M = some r) (hp : post (some (.int r)) M) : AW Y V (az_end Y V post) 3 M 37 [(2, .int x2)] [] := by
  unfold f_X5_kindAt_37 at h
  refine az_iload_n C 0 dX5_kindAt_37 rfl ?_
  refine az_bipush (v := 48) C dX5_kindAt_38 (by decide) ?_
  refine az_icmp_lt C 53 dX5_kindAt_40 (by decide) (fun c5 => ?_) (fun c5 => ?_)
  · have h := az_t c5 h
    refine az_sub [] rfl ?_
    exact s_X5_kindAt_53 C M r h hp
  · have h := az_f c5 h
    refine az_iload_n C 0 dX5_kindAt_43 rfl ?_
    refine az_bipush (v := 57) C dX5_kindAt_44 (by decide) ?_
    refine az_icmp_gt C 53 dX5_kindAt_46 (by decide) (fun c6 => ?_) (fun c6 => ?_)
    · have h := az_t c6 h
      refine az_sub [] rfl ?_
      exact s_X5_kindAt_53 C M r h hp
    · have h := az_f c6 h
      refine az_iconst (v := 2) C dX5_kindAt_49 (by decide) ?_
      refine az_goto C 54 dX5_kindAt_50 (by decide) ?_
      refine az_sub [] rfl ?_
      exact s_X5_kindAt_54 C 2 M r h hp
set_option maxHeartbeats 4000000 in
set_option maxRecDepth 100000 in
theorem s_X5_kindAt_e {Y : az_Y} {V : az_V} {post : Option Value → az_M → Prop} (C : az_C Y V cX5_kindAt 3 RX5 (some .int) 1) (p0 : Int32) (M : az_M) (r : Int32) (h : f_X5_kindAt p0 M = some r) (hp : post (some (.int r)) M) : AW Y V (az_end Y V post) 3 M 0 [(0, .ref (az_ad V 15)), (1, .int p0)] [] := by
  have o5 := C.hL.at 5 (ci := 9) rfl
  have o15 := C.hL.at 15 (ci := 5) rfl
  have a6 := C.hL.ar 6 (t := 0) (len := 400) rfl
  unfold f_X5_kindAt at h
  refine az_iload_n C 1 dX5_kindAt_0 rfl ?_
  refine az_aload_n C 0 dX5_kindAt_1 rfl ?_
  refine az_getr (r := 5) C o15 fl_X5_18 rfl rfl dX5_kindAt_2 ?_
  refine az_geti C o5 fl_X5_151 rfl dX5_kindAt_5 ?_
  refine az_icmp_lt C 13 dX5_kindAt_8 (by decide) (fun c1 => ?_) (fun c1 => ?_)
  · have h := az_t c1 h
    refine az_aload_n C 0 dX5_kindAt_13 rfl ?_
    refine az_getr (r := 5) C o15 fl_X5_18 rfl rfl dX5_kindAt_14 ?_
    refine az_getr (r := 6) C o5 fl_X5_137 rfl rfl dX5_kindAt_17 ?_
    refine az_iload_n C 1 dX5_kindAt_20 rfl ?_
    obtain ⟨g2, h⟩ := az_g h
    refine az_ild (k := p0.toNatClampNeg) C a6 g2 rfl dX5_kindAt_21 ?_
    refine az_istore_n C dX5_kindAt_22 rfl (by decide) rfl ?_
    refine az_iload_n C 0 dX5_kindAt_23 rfl ?_
    refine az_bipush (v := 97) C dX5_kindAt_24 (by decide) ?_
    refine az_icmp_lt C 37 dX5_kindAt_26 (by decide) (fun c3 => ?_) (fun c3 => ?_)
    · have h := az_t c3 h
      refine az_sub [0] rfl ?_
      exact s_X5_kindAt_37 C (M.1 6 p0.toNatClampNeg) M r h hp
    · have h := az_f c3 h
      refine az_iload_n C 0 dX5_kindAt_29 rfl ?_
      refine az_bipush (v := 122) C dX5_kindAt_30 (by decide) ?_
      refine az_icmp_gt C 37 dX5_kindAt_32 (by decide) (fun c4 => ?_) (fun c4 => ?_)
      · have h := az_t c4 h
        refine az_sub [0] rfl ?_
        exact s_X5_kindAt_37 C (M.1 6 p0.toNatClampNeg) M r h hp
      · have h := az_f c4 h
        refine az_iconst (v := 1) C dX5_kindAt_35 (by decide) ?_
        obtain rfl := Option.some.inj h
        exact az_iret C dX5_kindAt_36 hp
  · have h := az_f c1 h
    refine az_iconst (v := 0) C dX5_kindAt_11 (by decide) ?_
    obtain rfl := Option.some.inj h
    exact az_iret C dX5_kindAt_12 hp
theorem c_X5_kindAt {l : Launch} {V : az_V} (hL : az_L V) (p0 : Int32) (M : az_M) {r : Int32} (h : f_X5_kindAt p0 M = some r) : az_Ct l V yX5_kindAt cX5_kindAt 3 (some .int) 1 [.ref (az_ad V 15), .int p0] M (fun v M' => v = some (.int r) ∧ M' = M) :=
  az_Ct.of (by decide) (Nat.le_of_ble_eq_true rfl) (fun Y _ _ C => s_X5_kindAt_e C p0 M r h ⟨rfl, rfl⟩)
set_option maxHeartbeats 4000000 in
set_option maxRecDepth 100000 in
theorem s_X5_nextToken_153 {Y : az_Y} {V : az_V} {post : Option Value → az_M → Prop} (C : az_C Y V cX5_nextToken 3 RX5 none 2) (G : Nat) (K68 : (Int32 → Int32 → az_M → Option az_M)) (hK68 : ∀ (x1 : Int32) (x2 : Int32) (M : az_M) (r : az_M), K68 x1 x2 M = some r → post none r → AW Y V (az_end Y V post) 3 M 68 [(0, .ref (az_ad V 15)), (1, .int x1), (2, .int x2)] []) (x1 : Int32) (s0 : Int32) (M : az_M) (r : az_M) (h : f_X5_nextToken_153 G K68 x1 s0 M = some r) (hp : post none r) : AW Y V (az_end Y V post) 3 M 153 [(0, .ref (az_ad V 15)), (1, .int x1)] [.int s0] := by
  unfold f_X5_nextToken_153 at h
  refine az_istore_n C dX5_nextToken_153 rfl (by decide) rfl ?_
  refine az_goto C 68 dX5_nextToken_154 (by decide) ?_
  refine az_sub [1, 2, 0] rfl ?_
  exact hK68 x1 s0 M r h hp
set_option maxHeartbeats 4000000 in
set_option maxRecDepth 100000 in
theorem s_X5_nextToken_152 {Y : az_Y} {V : az_V} {post : Option Value → az_M → Prop} (C : az_C Y V cX5_nextToken 3 RX5 none 2) (G : Nat) (K68 : (Int32 → Int32 → az_M → Option az_M)) (hK68 : ∀ (x1 : Int32) (x2 : Int32) (M : az_M) (r : az_M), K68 x1 x2 M = some r → post none r → AW Y V (az_end Y V post) 3 M 68 [(0, .ref (az_ad V 15)), (1, .int x1), (2, .int x2)] []) (x1 : Int32) (M : az_M) (r : az_M) (h : f_X5_nextToken_152 G K68 x1 M = some r) (hp : post none r) : AW Y V (az_end Y V post) 3 M 152 [(0, .ref (az_ad V 15)), (1, .int x1)] [] := by
  unfold f_X5_nextToken_152 at h
  refine az_iconst (v := 0) C dX5_nextToken_152 (by decide) ?_
  exact s_X5_nextToken_153 C G K68 hK68 x1 0 M r h hp
set_option maxHeartbeats 4000000 in
set_option maxRecDepth 100000 in
theorem s_X5_nextToken_125 {Y : az_Y} {V : az_V} {post : Option Value → az_M → Prop} (C : az_C Y V cX5_nextToken 3 RX5 none 2) (G : Nat) (K68 : (Int32 → Int32 → az_M → Option az_M)) (hK68 : ∀ (x1 : Int32) (x2 : Int32) (M : az_M) (r : az_M), K68 x1 x2 M = some r → post none r → AW Y V (az_end Y V post) 3 M 68 [(0, .ref (az_ad V 15)), (1, .int x1), (2, .int x2)] []) (x1 : Int32) (M : az_M) (r : az_M) (h : f_X5_nextToken_125 G K68 x1 M = some r) (hp : post none r) : AW Y V (az_end Y V post) 3 M 125 [(0, .ref (az_ad V 15)), (1, .int x1)] [] := by
  have o15 := C.hL.at 15 (ci := 5) rfl
  unfold f_X5_nextToken_125 at h
  refine az_iinc (v := (x1 + 1)) C 1 dX5_nextToken_125 rfl rfl (by decide) rfl ?_
  refine az_aload_n C 1 dX5_nextToken_128 rfl ?_
  refine az_geti C o15 fl_X5_55 rfl dX5_nextToken_129 ?_
  refine az_iconst (v := 3) C dX5_nextToken_132 (by decide) ?_
  refine az_icmp_eq C 152 dX5_nextToken_133 (by decide) (fun c12 => ?_) (fun c12 => ?_)
  · have h := az_t c12 h
    refine az_sub [1, 0] rfl ?_
    exact s_X5_nextToken_152 C G K68 hK68 (x1 + 1) M r h hp
  · have h := az_f c12 h
    refine az_aload_n C 1 dX5_nextToken_136 rfl ?_
    refine az_iload_n C 0 dX5_nextToken_137 rfl ?_
    obtain ⟨q13, e14, h⟩ := az_b h
    refine az_cV (rest := []) (st2 := [.int q13]) C [.int (x1 + 1)] (c_X5_kindAt C.hL (x1 + 1) M e14) (by decide) li_X5_152 o15 (by decide) rfl rfl (Nat.le_of_ble_eq_true rfl) dX5_nextToken_138 rfl ?_
    refine az_aload_n C 1 dX5_nextToken_141 rfl ?_
    refine az_geti C o15 fl_X5_55 rfl dX5_nextToken_142 ?_
    refine az_icmp_ne C 152 dX5_nextToken_145 (by decide) (fun c15 => ?_) (fun c15 => ?_)
    · have h := az_f c15 h
      refine az_sub [1, 0] rfl ?_
      exact s_X5_nextToken_152 C G K68 hK68 (x1 + 1) M r h hp
    · have h := az_t c15 h
      refine az_iconst (v := 1) C dX5_nextToken_148 (by decide) ?_
      refine az_goto C 153 dX5_nextToken_149 (by decide) ?_
      refine az_sub [1, 0] rfl ?_
      exact s_X5_nextToken_153 C G K68 hK68 (x1 + 1) 1 M r h hp
set_option maxHeartbeats 4000000 in
set_option maxRecDepth 100000 in
theorem s_X5_nextToken_157 {Y : az_Y} {V : az_V} {post : Option Value → az_M → Prop} (C : az_C Y V cX5_nextToken 3 RX5 none 2) (G : Nat) (x1 : Int32) (M : az_M) (r : az_M) (h : f_X5_nextToken_157 G x1 M = some r) (hp : post none r) : AW Y V (az_end Y V post) 3 M 157 [(0, .ref (az_ad V 15)), (1, .int x1)] [] := by
  have o15 := C.hL.at 15 (ci := 5) rfl
  unfold f_X5_nextToken_157 at h
  refine az_aload_n C 0 dX5_nextToken_157 rfl ?_
  refine az_iload_n C 1 dX5_nextToken_158 rfl ?_
  refine az_puti C o15 fl_X5_33 rfl rfl rfl rfl dX5_nextToken_159 ?_
  obtain rfl := Option.some.inj h
  exact az_vret C rfl dX5_nextToken_162 hp
set_option maxHeartbeats 4000000 in
set_option maxRecDepth 100000 in
theorem s_X5_nextToken_68 {Y : az_Y} {V : az_V} {post : Option Value → az_M → Prop} (C : az_C Y V cX5_nextToken 3 RX5 none 2) (G : Nat) : ∀ (F : Nat) (x1 : Int32) (x2 : Int32) (M : az_M) (r : az_M), f_X5_nextToken_68 G F x1 x2 M = some r → post none r → AW Y V (az_end Y V post) 3 M 68 [(0, .ref (az_ad V 15)), (1, .int x1), (2, .int x2)] [] := by
  have o5 := C.hL.at 5 (ci := 9) rfl
  have o15 := C.hL.at 15 (ci := 5) rfl
  have a6 := C.hL.ar 6 (t := 0) (len := 400) rfl
  intro F
  induction F with
  | zero =>
    intro x1 x2 M r h
    exact absurd (show (none : Option az_M) = some r from h) (fun q => by cases q)
  | succ F ih =>
    intro x1 x2 M r h hp
    rw [f_X5_nextToken_68] at h
    refine az_iload_n C 1 dX5_nextToken_68 rfl ?_
    refine az_aload_n C 0 dX5_nextToken_69 rfl ?_
    refine az_getr (r := 5) C o15 fl_X5_18 rfl rfl dX5_nextToken_70 ?_
    refine az_geti C o5 fl_X5_151 rfl dX5_nextToken_73 ?_
    refine az_icmp_ge C 157 dX5_nextToken_76 (by decide) (fun c7 => ?_) (fun c7 => ?_)
    · have h := az_t c7 h
      refine az_sub [0, 1] rfl ?_
      exact s_X5_nextToken_157 C G x1 M r h hp
    · have h := az_f c7 h
      refine az_iload_n C 2 dX5_nextToken_79 rfl ?_
      refine az_if_eq C 157 dX5_nextToken_80 (by decide) (fun c8 => ?_) (fun c8 => ?_)
      · have h := az_t c8 h
        refine az_sub [0, 1] rfl ?_
        exact s_X5_nextToken_157 C G x1 M r h hp
      · have h := az_f c8 h
        refine az_aload_n C 0 dX5_nextToken_83 rfl ?_
        refine az_geti C o15 fl_X5_55 rfl dX5_nextToken_84 ?_
        refine az_iconst (v := 2) C dX5_nextToken_87 (by decide) ?_
        refine az_icmp_ne C 125 dX5_nextToken_88 (by decide) (fun c9 => ?_) (fun c9 => ?_)
        · have h := az_f c9 h
          refine az_sub [0, 1] rfl ?_
          exact s_X5_nextToken_125 C G (f_X5_nextToken_68 G F) ih x1 M r h hp
        · have h := az_t c9 h
          refine az_aload_n C 0 dX5_nextToken_91 rfl ?_
          refine az_geti C o15 fl_X5_90 rfl dX5_nextToken_92 ?_
          refine az_sipush (v := 1000) C dX5_nextToken_95 (by decide) ?_
          refine az_icmp_gt C 125 dX5_nextToken_98 (by decide) (fun c10 => ?_) (fun c10 => ?_)
          · have h := az_t c10 h
            refine az_sub [0, 1] rfl ?_
            exact s_X5_nextToken_125 C G (f_X5_nextToken_68 G F) ih x1 M r h hp
          · have h := az_f c10 h
            refine az_aload_n C 0 dX5_nextToken_101 rfl ?_
            refine az_aload_n C 0 dX5_nextToken_102 rfl ?_
            refine az_geti C o15 fl_X5_90 rfl dX5_nextToken_103 ?_
            refine az_bipush (v := 10) C dX5_nextToken_106 (by decide) ?_
            refine az_imul C dX5_nextToken_108 ?_
            refine az_aload_n C 0 dX5_nextToken_109 rfl ?_
            refine az_getr (r := 5) C o15 fl_X5_18 rfl rfl dX5_nextToken_110 ?_
            refine az_getr (r := 6) C o5 fl_X5_137 rfl rfl dX5_nextToken_113 ?_
            refine az_iload_n C 1 dX5_nextToken_116 rfl ?_
            obtain ⟨g11, h⟩ := az_g h
            refine az_ild (k := x1.toNatClampNeg) C a6 g11 rfl dX5_nextToken_117 ?_
            refine az_iadd C dX5_nextToken_118 ?_
            refine az_bipush (v := 48) C dX5_nextToken_119 (by decide) ?_
            refine az_isub C dX5_nextToken_121 ?_
            refine az_puti C o15 fl_X5_90 rfl rfl rfl rfl dX5_nextToken_122 ?_
            refine az_sub [0, 1] rfl ?_
            exact s_X5_nextToken_125 C G (f_X5_nextToken_68 G F) ih x1 (az_i M 15 6 ((((M.1 15 6) * 10) + (M.1 6 x1.toNatClampNeg)) - 48)) r h hp
set_option maxHeartbeats 4000000 in
set_option maxRecDepth 100000 in
theorem s_X5_nextToken_67 {Y : az_Y} {V : az_V} {post : Option Value → az_M → Prop} (C : az_C Y V cX5_nextToken 3 RX5 none 2) (G : Nat) (x1 : Int32) (s0 : Int32) (M : az_M) (r : az_M) (h : f_X5_nextToken_67 G x1 s0 M = some r) (hp : post none r) : AW Y V (az_end Y V post) 3 M 67 [(0, .ref (az_ad V 15)), (1, .int x1)] [.int s0] := by
  unfold f_X5_nextToken_67 at h
  refine az_istore_n C dX5_nextToken_67 rfl (by decide) rfl ?_
  refine az_sub [1, 2, 0] rfl ?_
  exact s_X5_nextToken_68 C G G x1 s0 M r h hp
set_option maxHeartbeats 4000000 in
set_option maxRecDepth 100000 in
theorem s_X5_nextToken_36 {Y : az_Y} {V : az_V} {post : Option Value → az_M → Prop} (C : az_C Y V cX5_nextToken 3 RX5 none 2) (G : Nat) (x1 : Int32) (M : az_M) (r : az_M) (h : f_X5_nextToken_36 G x1 M = some r) (hp : post none r) : AW Y V (az_end Y V post) 3 M 36 [(0, .ref (az_ad V 15)), (1, .int x1)] [] := by
  have o15 := C.hL.at 15 (ci := 5) rfl
  unfold f_X5_nextToken_36 at h
  refine az_aload_n C 0 dX5_nextToken_36 rfl ?_
  refine az_iload_n C 1 dX5_nextToken_37 rfl ?_
  refine az_puti C o15 fl_X5_52 rfl rfl rfl rfl dX5_nextToken_38 ?_
  refine az_aload_n C 0 dX5_nextToken_41 rfl ?_
  refine az_aload_n C 0 dX5_nextToken_42 rfl ?_
  refine az_iload_n C 1 dX5_nextToken_43 rfl ?_
  obtain ⟨q4, e5, h⟩ := az_b h
  refine az_cV (rest := [.ref (az_ad V 15)]) (st2 := [.int q4, .ref (az_ad V 15)]) C [.int x1] (c_X5_kindAt C.hL x1 (az_i M 15 4 x1) e5) (by decide) li_X5_152 o15 (by decide) rfl rfl (Nat.le_of_ble_eq_true rfl) dX5_nextToken_44 rfl ?_
  refine az_puti C o15 fl_X5_55 rfl rfl rfl rfl dX5_nextToken_47 ?_
  refine az_aload_n C 0 dX5_nextToken_50 rfl ?_
  refine az_iconst (v := 0) C dX5_nextToken_51 (by decide) ?_
  refine az_puti C o15 fl_X5_90 rfl rfl rfl rfl dX5_nextToken_52 ?_
  refine az_aload_n C 0 dX5_nextToken_55 rfl ?_
  refine az_geti C o15 fl_X5_55 rfl dX5_nextToken_56 ?_
  refine az_if_eq C 66 dX5_nextToken_59 (by decide) (fun c6 => ?_) (fun c6 => ?_)
  · have h := az_t c6 h
    refine az_iconst (v := 0) C dX5_nextToken_66 (by decide) ?_
    exact s_X5_nextToken_67 C G x1 0 (az_i (az_i (az_i M 15 4 x1) 15 3 q4) 15 6 0) r h hp
  · have h := az_f c6 h
    refine az_iconst (v := 1) C dX5_nextToken_62 (by decide) ?_
    refine az_goto C 67 dX5_nextToken_63 (by decide) ?_
    exact s_X5_nextToken_67 C G x1 1 (az_i (az_i (az_i M 15 4 x1) 15 3 q4) 15 6 0) r h hp
set_option maxHeartbeats 4000000 in
set_option maxRecDepth 100000 in
theorem s_X5_nextToken_5 {Y : az_Y} {V : az_V} {post : Option Value → az_M → Prop} (C : az_C Y V cX5_nextToken 3 RX5 none 2) (G : Nat) : ∀ (F : Nat) (x1 : Int32) (M : az_M) (r : az_M), f_X5_nextToken_5 G F x1 M = some r → post none r → AW Y V (az_end Y V post) 3 M 5 [(0, .ref (az_ad V 15)), (1, .int x1)] [] := by
  have o5 := C.hL.at 5 (ci := 9) rfl
  have o15 := C.hL.at 15 (ci := 5) rfl
  have a6 := C.hL.ar 6 (t := 0) (len := 400) rfl
  intro F
  induction F with
  | zero =>
    intro x1 M r h
    exact absurd (show (none : Option az_M) = some r from h) (fun q => by cases q)
  | succ F ih =>
    intro x1 M r h hp
    rw [f_X5_nextToken_5] at h
    refine az_iload_n C 1 dX5_nextToken_5 rfl ?_
    refine az_aload_n C 0 dX5_nextToken_6 rfl ?_
    refine az_getr (r := 5) C o15 fl_X5_18 rfl rfl dX5_nextToken_7 ?_
    refine az_geti C o5 fl_X5_151 rfl dX5_nextToken_10 ?_
    refine az_icmp_ge C 36 dX5_nextToken_13 (by decide) (fun c1 => ?_) (fun c1 => ?_)
    · have h := az_t c1 h
      exact s_X5_nextToken_36 C G x1 M r h hp
    · have h := az_f c1 h
      refine az_aload_n C 0 dX5_nextToken_16 rfl ?_
      refine az_getr (r := 5) C o15 fl_X5_18 rfl rfl dX5_nextToken_17 ?_
      refine az_getr (r := 6) C o5 fl_X5_137 rfl rfl dX5_nextToken_20 ?_
      refine az_iload_n C 1 dX5_nextToken_23 rfl ?_
      obtain ⟨g2, h⟩ := az_g h
      refine az_ild (k := x1.toNatClampNeg) C a6 g2 rfl dX5_nextToken_24 ?_
      refine az_bipush (v := 32) C dX5_nextToken_25 (by decide) ?_
      refine az_icmp_ne C 36 dX5_nextToken_27 (by decide) (fun c3 => ?_) (fun c3 => ?_)
      · have h := az_f c3 h
        exact s_X5_nextToken_36 C G x1 M r h hp
      · have h := az_t c3 h
        refine az_iinc (v := (x1 + 1)) C 1 dX5_nextToken_30 rfl rfl (by decide) rfl ?_
        refine az_goto C 5 dX5_nextToken_33 (by decide) ?_
        refine az_sub [1, 0] rfl ?_
        exact ih (x1 + 1) M r h hp
set_option maxHeartbeats 4000000 in
set_option maxRecDepth 100000 in
theorem s_X5_nextToken_e {Y : az_Y} {V : az_V} {post : Option Value → az_M → Prop} (C : az_C Y V cX5_nextToken 3 RX5 none 2) (G : Nat)  (M : az_M) (r : az_M) (h : f_X5_nextToken G M = some r) (hp : post none r) : AW Y V (az_end Y V post) 3 M 0 [(0, .ref (az_ad V 15))] [] := by
  have o15 := C.hL.at 15 (ci := 5) rfl
  unfold f_X5_nextToken at h
  refine az_aload_n C 0 dX5_nextToken_0 rfl ?_
  refine az_geti C o15 fl_X5_33 rfl dX5_nextToken_1 ?_
  refine az_istore_n C dX5_nextToken_4 rfl (by decide) rfl ?_
  refine az_sub [1, 0] rfl ?_
  exact s_X5_nextToken_5 C G G (M.1 15 5) M r h hp
theorem c_X5_nextToken {l : Launch} {V : az_V} (hL : az_L V) (G : Nat)  (M : az_M) {r : az_M} (h : f_X5_nextToken G M = some r) : az_Ct l V yX5_nextToken cX5_nextToken 3 none 2 [.ref (az_ad V 15)] M (fun v M' => v = none ∧ M' = r) :=
  az_Ct.of (by decide) (Nat.le_of_ble_eq_true rfl) (fun Y _ _ C => s_X5_nextToken_e C G M r h ⟨rfl, rfl⟩)
set_option maxHeartbeats 4000000 in
set_option maxRecDepth 100000 in
theorem s_X5_aimJump_31 {Y : az_Y} {V : az_V} {post : Option Value → az_M → Prop} (C : az_C Y V cX5_aimJump 3 RX5 none 1)  (M : az_M) (r : az_M) (h : f_X5_aimJump_31 M = some r) (hp : post none r) : AW Y V (az_end Y V post) 3 M 31 [] [] := by
  unfold f_X5_aimJump_31 at h
  obtain rfl := Option.some.inj h
  exact az_vret C rfl dX5_aimJump_31 hp
set_option maxHeartbeats 4000000 in
set_option maxRecDepth 100000 in
theorem s_X5_aimJump_e {Y : az_Y} {V : az_V} {post : Option Value → az_M → Prop} (C : az_C Y V cX5_aimJump 3 RX5 none 1) (p0 : Int32) (p1 : Int32) (M : az_M) (r : az_M) (h : f_X5_aimJump p0 p1 M = some r) (hp : post none r) : AW Y V (az_end Y V post) 3 M 0 [(0, .ref (az_ad V 15)), (1, .int p0), (2, .int p1)] [] := by
  have o15 := C.hL.at 15 (ci := 5) rfl
  have o16 := C.hL.at 16 (ci := 10) rfl
  have a17 := C.hL.ar 17 (t := 0) (len := 400) rfl
  unfold f_X5_aimJump at h
  refine az_iload_n C 1 dX5_aimJump_0 rfl ?_
  refine az_aload_n C 0 dX5_aimJump_1 rfl ?_
  refine az_getr (r := 16) C o15 fl_X5_12 rfl rfl dX5_aimJump_2 ?_
  refine az_geti C o16 fl_X5_26 rfl dX5_aimJump_5 ?_
  refine az_icmp_ge C 31 dX5_aimJump_8 (by decide) (fun c1 => ?_) (fun c1 => ?_)
  · have h := az_t c1 h
    refine az_sub [] rfl ?_
    exact s_X5_aimJump_31 C M r h hp
  · have h := az_f c1 h
    refine az_aload_n C 0 dX5_aimJump_11 rfl ?_
    refine az_getr (r := 16) C o15 fl_X5_12 rfl rfl dX5_aimJump_12 ?_
    refine az_getr (r := 17) C o16 fl_X5_115 rfl rfl dX5_aimJump_15 ?_
    refine az_iload_n C 1 dX5_aimJump_18 rfl ?_
    refine az_aload_n C 0 dX5_aimJump_19 rfl ?_
    refine az_getr (r := 16) C o15 fl_X5_12 rfl rfl dX5_aimJump_20 ?_
    refine az_geti C o16 fl_X5_26 rfl dX5_aimJump_23 ?_
    refine az_iconst (v := 4) C dX5_aimJump_26 (by decide) ?_
    refine az_ishl C dX5_aimJump_27 ?_
    refine az_iload_n C 2 dX5_aimJump_28 rfl ?_
    refine az_ior C dX5_aimJump_29 ?_
    obtain ⟨g2, h⟩ := az_g h
    refine az_ist (k := p0.toNatClampNeg) C a17 g2 rfl dX5_aimJump_30 ?_
    refine az_sub [] rfl ?_
    exact s_X5_aimJump_31 C (az_i M 17 p0.toNatClampNeg (((M.1 16 2) <<< (4 &&& 31)) ||| p1)) r h hp
theorem c_X5_aimJump {l : Launch} {V : az_V} (hL : az_L V) (p0 : Int32) (p1 : Int32) (M : az_M) {r : az_M} (h : f_X5_aimJump p0 p1 M = some r) : az_Ct l V yX5_aimJump cX5_aimJump 3 none 1 [.ref (az_ad V 15), .int p0, .int p1] M (fun v M' => v = none ∧ M' = r) :=
  az_Ct.of (by decide) (Nat.le_of_ble_eq_true rfl) (fun Y _ _ C => s_X5_aimJump_e C p0 p1 M r h ⟨rfl, rfl⟩)
set_option maxHeartbeats 4000000 in
set_option maxRecDepth 100000 in
theorem s_X5_readBracketedTest_41 {Y : az_Y} {V : az_V} {post : Option Value → az_M → Prop} {dR : Nat} (C : az_C Y V cX5_readBracketedTest 1 RX5 (some .boolean) (dR + 1)) (hdR : 50 ≤ dR) (G : Nat) (R_X5_readTest : az_M → Option (Int32 × az_M)) (hR_X5_readTest : ∀ (M : az_M) (r : (Int32 × az_M)), R_X5_readTest M = some r → az_Ct Y.2.1 V yX5_readTest cX5_readTest 3 (some .boolean) dR [.ref (az_ad V 15)] M (fun v M' => v = some (.int r.1) ∧ M' = r.2))  (M : az_M) (r : (Int32 × az_M)) (h : f_X5_readBracketedTest_41 (az_z V) G R_X5_readTest M = some r) (hp : post (some (.int r.1)) r.2) : AW Y V (az_end Y V post) 1 M 41 [] [] := by
  unfold f_X5_readBracketedTest_41 at h
  refine az_iconst (v := 0) C dX5_readBracketedTest_41 (by decide) ?_
  obtain rfl := Option.some.inj h
  exact az_zret C dX5_readBracketedTest_42 rfl hp
set_option maxHeartbeats 4000000 in
set_option maxRecDepth 100000 in
theorem s_X5_readBracketedTest_e {Y : az_Y} {V : az_V} {post : Option Value → az_M → Prop} {dR : Nat} (C : az_C Y V cX5_readBracketedTest 1 RX5 (some .boolean) (dR + 1)) (hdR : 50 ≤ dR) (G : Nat) (R_X5_readTest : az_M → Option (Int32 × az_M)) (hR_X5_readTest : ∀ (M : az_M) (r : (Int32 × az_M)), R_X5_readTest M = some r → az_Ct Y.2.1 V yX5_readTest cX5_readTest 3 (some .boolean) dR [.ref (az_ad V 15)] M (fun v M' => v = some (.int r.1) ∧ M' = r.2))  (M : az_M) (r : (Int32 × az_M)) (h : f_X5_readBracketedTest (az_z V) G R_X5_readTest M = some r) (hp : post (some (.int r.1)) r.2) : AW Y V (az_end Y V post) 1 M 0 [(0, .ref (az_ad V 15))] [] := by
  have o15 := C.hL.at 15 (ci := 5) rfl
  unfold f_X5_readBracketedTest at h
  refine az_aload_n C 0 dX5_readBracketedTest_0 rfl ?_
  refine az_geti C o15 fl_X5_39 rfl dX5_readBracketedTest_1 ?_
  refine az_bipush (v := 8) C dX5_readBracketedTest_4 (by decide) ?_
  refine az_icmp_lt C 11 dX5_readBracketedTest_6 (by decide) (fun c1 => ?_) (fun c1 => ?_)
  · have h := az_t c1 h
    refine az_aload_n C 0 dX5_readBracketedTest_11 rfl ?_
    refine az_dup C dX5_readBracketedTest_12 rfl ?_
    refine az_geti C o15 fl_X5_39 rfl dX5_readBracketedTest_13 ?_
    refine az_iconst (v := 1) C dX5_readBracketedTest_16 (by decide) ?_
    refine az_iadd C dX5_readBracketedTest_17 ?_
    refine az_puti C o15 fl_X5_39 rfl rfl rfl rfl dX5_readBracketedTest_18 ?_
    refine az_aload_n C 0 dX5_readBracketedTest_21 rfl ?_
    obtain ⟨q2, e3, h⟩ := az_b h
    refine az_cV (rest := []) (st2 := []) C [] (c_X5_nextToken C.hL G (az_i M 15 8 ((M.1 15 8) + 1)) e3) (by omega) li_X5_42 o15 (by decide) rfl rfl (Nat.le_of_ble_eq_true rfl) dX5_readBracketedTest_22 rfl ?_
    refine az_aload_n C 0 dX5_readBracketedTest_25 rfl ?_
    obtain ⟨q4, e5, h⟩ := az_b h
    refine az_cV (rest := []) (st2 := [.int q4.1]) C [] (hR_X5_readTest q2 q4 e5) (by omega) li_X5_95 o15 (by decide) rfl rfl (Nat.le_of_ble_eq_true rfl) dX5_readBracketedTest_26 rfl ?_
    refine az_if_eq C 41 dX5_readBracketedTest_29 (by decide) (fun c6 => ?_) (fun c6 => ?_)
    · have h := az_t c6 h
      refine az_sub [] rfl ?_
      exact s_X5_readBracketedTest_41 C hdR G R_X5_readTest hR_X5_readTest q4.2 r h hp
    · have h := az_f c6 h
      refine az_aload_n C 0 dX5_readBracketedTest_32 rfl ?_
      refine az_bipush (v := 41) C dX5_readBracketedTest_33 (by decide) ?_
      obtain ⟨q7, e8, h⟩ := az_b h
      refine az_cV (rest := []) (st2 := [.int q7]) C [.int 41] (c_X5_isSign C.hL 41 q4.2 e8) (by omega) li_X5_58 o15 (by decide) rfl rfl (Nat.le_of_ble_eq_true rfl) dX5_readBracketedTest_35 rfl ?_
      refine az_if_ne C 43 dX5_readBracketedTest_38 (by decide) (fun c9 => ?_) (fun c9 => ?_)
      · have h := az_f c9 h
        refine az_aload_n C 0 dX5_readBracketedTest_43 rfl ?_
        refine az_dup C dX5_readBracketedTest_44 rfl ?_
        refine az_geti C o15 fl_X5_39 rfl dX5_readBracketedTest_45 ?_
        refine az_iconst (v := 1) C dX5_readBracketedTest_48 (by decide) ?_
        refine az_isub C dX5_readBracketedTest_49 ?_
        refine az_puti C o15 fl_X5_39 rfl rfl rfl rfl dX5_readBracketedTest_50 ?_
        refine az_aload_n C 0 dX5_readBracketedTest_53 rfl ?_
        obtain ⟨q10, e11, h⟩ := az_b h
        refine az_cV (rest := []) (st2 := []) C [] (c_X5_nextToken C.hL G (az_i q4.2 15 8 ((q4.2.1 15 8) - 1)) e11) (by omega) li_X5_42 o15 (by decide) rfl rfl (Nat.le_of_ble_eq_true rfl) dX5_readBracketedTest_54 rfl ?_
        refine az_iconst (v := 1) C dX5_readBracketedTest_57 (by decide) ?_
        obtain rfl := Option.some.inj h
        exact az_zret C dX5_readBracketedTest_58 rfl hp
      · have h := az_t c9 h
        refine az_sub [] rfl ?_
        exact s_X5_readBracketedTest_41 C hdR G R_X5_readTest hR_X5_readTest q4.2 r h hp
  · have h := az_f c1 h
    refine az_iconst (v := 0) C dX5_readBracketedTest_9 (by decide) ?_
    obtain rfl := Option.some.inj h
    exact az_zret C dX5_readBracketedTest_10 rfl hp
theorem c_X5_readBracketedTest {l : Launch} {V : az_V} {dR : Nat} (hL : az_L V) (hdR : 50 ≤ dR) (G : Nat) (R_X5_readTest : az_M → Option (Int32 × az_M)) (hR_X5_readTest : ∀ (M : az_M) (r : (Int32 × az_M)), R_X5_readTest M = some r → az_Ct l V yX5_readTest cX5_readTest 3 (some .boolean) dR [.ref (az_ad V 15)] M (fun v M' => v = some (.int r.1) ∧ M' = r.2))  (M : az_M) {r : (Int32 × az_M)} (h : f_X5_readBracketedTest (az_z V) G R_X5_readTest M = some r) : az_Ct l V yX5_readBracketedTest cX5_readBracketedTest 1 (some .boolean) (dR + 1) [.ref (az_ad V 15)] M (fun v M' => v = some (.int r.1) ∧ M' = r.2) :=
  az_Ct.of (by decide) (Nat.le_of_ble_eq_true rfl) (fun Y hl _ C => s_X5_readBracketedTest_e C hdR G R_X5_readTest (by rw [hl]; exact hR_X5_readTest) M r h ⟨rfl, rfl⟩)
set_option maxHeartbeats 4000000 in
set_option maxRecDepth 100000 in
theorem s_X5_readBracketedSum_41 {Y : az_Y} {V : az_V} {post : Option Value → az_M → Prop} {dR : Nat} (C : az_C Y V cX5_readBracketedSum 1 RX5 (some .boolean) (dR + 1)) (hdR : 9 ≤ dR) (G : Nat) (R_X5_readSum : az_M → Option (Int32 × az_M)) (hR_X5_readSum : ∀ (M : az_M) (r : (Int32 × az_M)), R_X5_readSum M = some r → az_Ct Y.2.1 V yX5_readSum cX5_readSum 3 (some .boolean) dR [.ref (az_ad V 15)] M (fun v M' => v = some (.int r.1) ∧ M' = r.2))  (M : az_M) (r : (Int32 × az_M)) (h : f_X5_readBracketedSum_41 (az_z V) G R_X5_readSum M = some r) (hp : post (some (.int r.1)) r.2) : AW Y V (az_end Y V post) 1 M 41 [] [] := by
  unfold f_X5_readBracketedSum_41 at h
  refine az_iconst (v := 0) C dX5_readBracketedSum_41 (by decide) ?_
  obtain rfl := Option.some.inj h
  exact az_zret C dX5_readBracketedSum_42 rfl hp
set_option maxHeartbeats 4000000 in
set_option maxRecDepth 100000 in
theorem s_X5_readBracketedSum_e {Y : az_Y} {V : az_V} {post : Option Value → az_M → Prop} {dR : Nat} (C : az_C Y V cX5_readBracketedSum 1 RX5 (some .boolean) (dR + 1)) (hdR : 9 ≤ dR) (G : Nat) (R_X5_readSum : az_M → Option (Int32 × az_M)) (hR_X5_readSum : ∀ (M : az_M) (r : (Int32 × az_M)), R_X5_readSum M = some r → az_Ct Y.2.1 V yX5_readSum cX5_readSum 3 (some .boolean) dR [.ref (az_ad V 15)] M (fun v M' => v = some (.int r.1) ∧ M' = r.2))  (M : az_M) (r : (Int32 × az_M)) (h : f_X5_readBracketedSum (az_z V) G R_X5_readSum M = some r) (hp : post (some (.int r.1)) r.2) : AW Y V (az_end Y V post) 1 M 0 [(0, .ref (az_ad V 15))] [] := by
  have o15 := C.hL.at 15 (ci := 5) rfl
  unfold f_X5_readBracketedSum at h
  refine az_aload_n C 0 dX5_readBracketedSum_0 rfl ?_
  refine az_geti C o15 fl_X5_39 rfl dX5_readBracketedSum_1 ?_
  refine az_bipush (v := 8) C dX5_readBracketedSum_4 (by decide) ?_
  refine az_icmp_lt C 11 dX5_readBracketedSum_6 (by decide) (fun c1 => ?_) (fun c1 => ?_)
  · have h := az_t c1 h
    refine az_aload_n C 0 dX5_readBracketedSum_11 rfl ?_
    refine az_dup C dX5_readBracketedSum_12 rfl ?_
    refine az_geti C o15 fl_X5_39 rfl dX5_readBracketedSum_13 ?_
    refine az_iconst (v := 1) C dX5_readBracketedSum_16 (by decide) ?_
    refine az_iadd C dX5_readBracketedSum_17 ?_
    refine az_puti C o15 fl_X5_39 rfl rfl rfl rfl dX5_readBracketedSum_18 ?_
    refine az_aload_n C 0 dX5_readBracketedSum_21 rfl ?_
    obtain ⟨q2, e3, h⟩ := az_b h
    refine az_cV (rest := []) (st2 := []) C [] (c_X5_nextToken C.hL G (az_i M 15 8 ((M.1 15 8) + 1)) e3) (by omega) li_X5_42 o15 (by decide) rfl rfl (Nat.le_of_ble_eq_true rfl) dX5_readBracketedSum_22 rfl ?_
    refine az_aload_n C 0 dX5_readBracketedSum_25 rfl ?_
    obtain ⟨q4, e5, h⟩ := az_b h
    refine az_cV (rest := []) (st2 := [.int q4.1]) C [] (hR_X5_readSum q2 q4 e5) (by omega) li_X5_72 o15 (by decide) rfl rfl (Nat.le_of_ble_eq_true rfl) dX5_readBracketedSum_26 rfl ?_
    refine az_if_eq C 41 dX5_readBracketedSum_29 (by decide) (fun c6 => ?_) (fun c6 => ?_)
    · have h := az_t c6 h
      refine az_sub [] rfl ?_
      exact s_X5_readBracketedSum_41 C hdR G R_X5_readSum hR_X5_readSum q4.2 r h hp
    · have h := az_f c6 h
      refine az_aload_n C 0 dX5_readBracketedSum_32 rfl ?_
      refine az_bipush (v := 93) C dX5_readBracketedSum_33 (by decide) ?_
      obtain ⟨q7, e8, h⟩ := az_b h
      refine az_cV (rest := []) (st2 := [.int q7]) C [.int 93] (c_X5_isSign C.hL 93 q4.2 e8) (by omega) li_X5_58 o15 (by decide) rfl rfl (Nat.le_of_ble_eq_true rfl) dX5_readBracketedSum_35 rfl ?_
      refine az_if_ne C 43 dX5_readBracketedSum_38 (by decide) (fun c9 => ?_) (fun c9 => ?_)
      · have h := az_f c9 h
        refine az_aload_n C 0 dX5_readBracketedSum_43 rfl ?_
        refine az_dup C dX5_readBracketedSum_44 rfl ?_
        refine az_geti C o15 fl_X5_39 rfl dX5_readBracketedSum_45 ?_
        refine az_iconst (v := 1) C dX5_readBracketedSum_48 (by decide) ?_
        refine az_isub C dX5_readBracketedSum_49 ?_
        refine az_puti C o15 fl_X5_39 rfl rfl rfl rfl dX5_readBracketedSum_50 ?_
        refine az_aload_n C 0 dX5_readBracketedSum_53 rfl ?_
        obtain ⟨q10, e11, h⟩ := az_b h
        refine az_cV (rest := []) (st2 := []) C [] (c_X5_nextToken C.hL G (az_i q4.2 15 8 ((q4.2.1 15 8) - 1)) e11) (by omega) li_X5_42 o15 (by decide) rfl rfl (Nat.le_of_ble_eq_true rfl) dX5_readBracketedSum_54 rfl ?_
        refine az_iconst (v := 1) C dX5_readBracketedSum_57 (by decide) ?_
        obtain rfl := Option.some.inj h
        exact az_zret C dX5_readBracketedSum_58 rfl hp
      · have h := az_t c9 h
        refine az_sub [] rfl ?_
        exact s_X5_readBracketedSum_41 C hdR G R_X5_readSum hR_X5_readSum q4.2 r h hp
  · have h := az_f c1 h
    refine az_iconst (v := 0) C dX5_readBracketedSum_9 (by decide) ?_
    obtain rfl := Option.some.inj h
    exact az_zret C dX5_readBracketedSum_10 rfl hp
theorem c_X5_readBracketedSum {l : Launch} {V : az_V} {dR : Nat} (hL : az_L V) (hdR : 9 ≤ dR) (G : Nat) (R_X5_readSum : az_M → Option (Int32 × az_M)) (hR_X5_readSum : ∀ (M : az_M) (r : (Int32 × az_M)), R_X5_readSum M = some r → az_Ct l V yX5_readSum cX5_readSum 3 (some .boolean) dR [.ref (az_ad V 15)] M (fun v M' => v = some (.int r.1) ∧ M' = r.2))  (M : az_M) {r : (Int32 × az_M)} (h : f_X5_readBracketedSum (az_z V) G R_X5_readSum M = some r) : az_Ct l V yX5_readBracketedSum cX5_readBracketedSum 1 (some .boolean) (dR + 1) [.ref (az_ad V 15)] M (fun v M' => v = some (.int r.1) ∧ M' = r.2) :=
  az_Ct.of (by decide) (Nat.le_of_ble_eq_true rfl) (fun Y hl _ C => s_X5_readBracketedSum_e C hdR G R_X5_readSum (by rw [hl]; exact hR_X5_readSum) M r h ⟨rfl, rfl⟩)
set_option maxHeartbeats 4000000 in
set_option maxRecDepth 100000 in
theorem s_X5_wordAmong_122 {Y : az_Y} {V : az_V} {post : Option Value → az_M → Prop} (C : az_C Y V cX5_wordAmong 6 RX5 (some .int) 8) (G : Nat) (a0 : Nat) (ha0 : a0 < 11) (K23 : (Nat → Int32 → Int32 → Int32 → Int32 → az_M → Option Int32)) (hK23 : ∀ (x1 : Nat) (htx1 : x1 < 11) (x2 : Int32) (x3 : Int32) (x4 : Int32) (x5 : Int32) (M : az_M) (r : Int32), K23 x1 x2 x3 x4 x5 M = some r → post (some (.int r)) M → AW Y V (az_end Y V post) 6 M 23 [(0, .ref (az_ad V 15)), (1, .ref (V.2.2.2.2.2 (10 + x1))), (2, .int x2), (3, .int x3), (4, .int x4), (5, .int x5)] []) (x1 : Nat) (htx1 : x1 < 11) (x2 : Int32) (x3 : Int32) (x4 : Int32) (x5 : Int32) (M : az_M) (r : Int32) (h : f_X5_wordAmong_122 G a0 K23 x1 x2 x3 x4 x5 M = some r) (hp : post (some (.int r)) M) : AW Y V (az_end Y V post) 6 M 122 [(0, .ref (az_ad V 15)), (1, .ref (V.2.2.2.2.2 (10 + x1))), (2, .int x2), (3, .int x3), (4, .int x4), (5, .int x5)] [] := by
  unfold f_X5_wordAmong_122 at h
  refine az_iinc (v := (x5 + 1)) C 5 dX5_wordAmong_122 rfl rfl (by decide) rfl ?_
  refine az_goto C 23 dX5_wordAmong_125 (by decide) ?_
  refine az_sub [1, 2, 3, 4, 5, 0] rfl ?_
  exact hK23 x1 htx1 x2 x3 x4 (x5 + 1) M r h hp
set_option maxHeartbeats 4000000 in
set_option maxRecDepth 100000 in
theorem s_X5_wordAmong_88 {Y : az_Y} {V : az_V} {post : Option Value → az_M → Prop} (C : az_C Y V cX5_wordAmong 6 RX5 (some .int) 8) (G : Nat) (a0 : Nat) (ha0 : a0 < 11) (K23 : (Nat → Int32 → Int32 → Int32 → Int32 → az_M → Option Int32)) (hK23 : ∀ (x1 : Nat) (htx1 : x1 < 11) (x2 : Int32) (x3 : Int32) (x4 : Int32) (x5 : Int32) (M : az_M) (r : Int32), K23 x1 x2 x3 x4 x5 M = some r → post (some (.int r)) M → AW Y V (az_end Y V post) 6 M 23 [(0, .ref (az_ad V 15)), (1, .ref (V.2.2.2.2.2 (10 + x1))), (2, .int x2), (3, .int x3), (4, .int x4), (5, .int x5)] []) (x1 : Nat) (htx1 : x1 < 11) (x2 : Int32) (x3 : Int32) (x5 : Int32) (s0 : Int32) (M : az_M) (r : Int32) (h : f_X5_wordAmong_88 G a0 K23 x1 x2 x3 x5 s0 M = some r) (hp : post (some (.int r)) M) : AW Y V (az_end Y V post) 6 M 88 [(0, .ref (az_ad V 15)), (1, .ref (V.2.2.2.2.2 (10 + x1))), (2, .int x2), (3, .int x3), (5, .int x5)] [.int s0] := by
  unfold f_X5_wordAmong_88 at h
  refine az_istore C dX5_wordAmong_88 (by decide) rfl ?_
  refine az_iinc (v := (x3 + 1)) C 4 dX5_wordAmong_90 rfl rfl (by decide) rfl ?_
  refine az_goto C 122 dX5_wordAmong_93 (by decide) ?_
  refine az_sub [2, 3, 4, 0, 1, 5] rfl ?_
  exact s_X5_wordAmong_122 C G a0 ha0 K23 hK23 x1 htx1 x2 (x3 + 1) s0 x5 M r h hp
set_option maxHeartbeats 4000000 in
set_option maxRecDepth 100000 in
theorem s_X5_wordAmong_87 {Y : az_Y} {V : az_V} {post : Option Value → az_M → Prop} (C : az_C Y V cX5_wordAmong 6 RX5 (some .int) 8) (G : Nat) (a0 : Nat) (ha0 : a0 < 11) (K23 : (Nat → Int32 → Int32 → Int32 → Int32 → az_M → Option Int32)) (hK23 : ∀ (x1 : Nat) (htx1 : x1 < 11) (x2 : Int32) (x3 : Int32) (x4 : Int32) (x5 : Int32) (M : az_M) (r : Int32), K23 x1 x2 x3 x4 x5 M = some r → post (some (.int r)) M → AW Y V (az_end Y V post) 6 M 23 [(0, .ref (az_ad V 15)), (1, .ref (V.2.2.2.2.2 (10 + x1))), (2, .int x2), (3, .int x3), (4, .int x4), (5, .int x5)] []) (x1 : Nat) (htx1 : x1 < 11) (x2 : Int32) (x3 : Int32) (x5 : Int32) (M : az_M) (r : Int32) (h : f_X5_wordAmong_87 G a0 K23 x1 x2 x3 x5 M = some r) (hp : post (some (.int r)) M) : AW Y V (az_end Y V post) 6 M 87 [(0, .ref (az_ad V 15)), (1, .ref (V.2.2.2.2.2 (10 + x1))), (2, .int x2), (3, .int x3), (5, .int x5)] [] := by
  unfold f_X5_wordAmong_87 at h
  refine az_iconst (v := 0) C dX5_wordAmong_87 (by decide) ?_
  exact s_X5_wordAmong_88 C G a0 ha0 K23 hK23 x1 htx1 x2 x3 x5 0 M r h hp
set_option maxHeartbeats 4000000 in
set_option maxRecDepth 100000 in
theorem s_X5_wordAmong_111 {Y : az_Y} {V : az_V} {post : Option Value → az_M → Prop} (C : az_C Y V cX5_wordAmong 6 RX5 (some .int) 8) (G : Nat) (a0 : Nat) (ha0 : a0 < 11) (K23 : (Nat → Int32 → Int32 → Int32 → Int32 → az_M → Option Int32)) (hK23 : ∀ (x1 : Nat) (htx1 : x1 < 11) (x2 : Int32) (x3 : Int32) (x4 : Int32) (x5 : Int32) (M : az_M) (r : Int32), K23 x1 x2 x3 x4 x5 M = some r → post (some (.int r)) M → AW Y V (az_end Y V post) 6 M 23 [(0, .ref (az_ad V 15)), (1, .ref (V.2.2.2.2.2 (10 + x1))), (2, .int x2), (3, .int x3), (4, .int x4), (5, .int x5)] []) (x1 : Nat) (htx1 : x1 < 11) (x2 : Int32) (x5 : Int32) (M : az_M) (r : Int32) (h : f_X5_wordAmong_111 G a0 K23 x1 x2 x5 M = some r) (hp : post (some (.int r)) M) : AW Y V (az_end Y V post) 6 M 111 [(0, .ref (az_ad V 15)), (1, .ref (V.2.2.2.2.2 (10 + x1))), (2, .int x2), (5, .int x5)] [] := by
  have o15 := C.hL.at 15 (ci := 5) rfl
  unfold f_X5_wordAmong_111 at h
  refine az_iinc (v := (x2 + 1)) C 2 dX5_wordAmong_111 rfl rfl (by decide) rfl ?_
  refine az_aload_n C 1 dX5_wordAmong_114 rfl ?_
  refine az_geti C o15 fl_X5_52 rfl dX5_wordAmong_115 ?_
  refine az_istore_n C dX5_wordAmong_118 rfl (by decide) rfl ?_
  refine az_iconst (v := 1) C dX5_wordAmong_119 (by decide) ?_
  refine az_istore C dX5_wordAmong_120 (by decide) rfl ?_
  refine az_sub [3, 4, 2, 1, 0, 5] rfl ?_
  exact s_X5_wordAmong_122 C G a0 ha0 K23 hK23 x1 htx1 (x2 + 1) (M.1 15 4) 1 x5 M r h hp
set_option maxHeartbeats 4000000 in
set_option maxRecDepth 100000 in
theorem s_X5_wordAmong_96 {Y : az_Y} {V : az_V} {post : Option Value → az_M → Prop} (C : az_C Y V cX5_wordAmong 6 RX5 (some .int) 8) (G : Nat) (a0 : Nat) (ha0 : a0 < 11) (K23 : (Nat → Int32 → Int32 → Int32 → Int32 → az_M → Option Int32)) (hK23 : ∀ (x1 : Nat) (htx1 : x1 < 11) (x2 : Int32) (x3 : Int32) (x4 : Int32) (x5 : Int32) (M : az_M) (r : Int32), K23 x1 x2 x3 x4 x5 M = some r → post (some (.int r)) M → AW Y V (az_end Y V post) 6 M 23 [(0, .ref (az_ad V 15)), (1, .ref (V.2.2.2.2.2 (10 + x1))), (2, .int x2), (3, .int x3), (4, .int x4), (5, .int x5)] []) (x1 : Nat) (htx1 : x1 < 11) (x2 : Int32) (x3 : Int32) (x4 : Int32) (x5 : Int32) (M : az_M) (r : Int32) (h : f_X5_wordAmong_96 G a0 K23 x1 x2 x3 x4 x5 M = some r) (hp : post (some (.int r)) M) : AW Y V (az_end Y V post) 6 M 96 [(0, .ref (az_ad V 15)), (1, .ref (V.2.2.2.2.2 (10 + x1))), (2, .int x2), (3, .int x3), (4, .int x4), (5, .int x5)] [] := by
  have o15 := C.hL.at 15 (ci := 5) rfl
  unfold f_X5_wordAmong_96 at h
  refine az_iload C 4 dX5_wordAmong_96 rfl ?_
  refine az_if_eq C 111 dX5_wordAmong_98 (by decide) (fun c11 => ?_) (fun c11 => ?_)
  · have h := az_t c11 h
    refine az_sub [0, 1, 2, 5] rfl ?_
    exact s_X5_wordAmong_111 C G a0 ha0 K23 hK23 x1 htx1 x2 x5 M r h hp
  · have h := az_f c11 h
    refine az_iload_n C 3 dX5_wordAmong_101 rfl ?_
    refine az_aload_n C 0 dX5_wordAmong_102 rfl ?_
    refine az_geti C o15 fl_X5_33 rfl dX5_wordAmong_103 ?_
    refine az_icmp_ne C 111 dX5_wordAmong_106 (by decide) (fun c12 => ?_) (fun c12 => ?_)
    · have h := az_f c12 h
      refine az_sub [0, 1, 2, 5] rfl ?_
      exact s_X5_wordAmong_111 C G a0 ha0 K23 hK23 x1 htx1 x2 x5 M r h hp
    · have h := az_t c12 h
      refine az_iload_n C 2 dX5_wordAmong_109 rfl ?_
      obtain rfl := Option.some.inj h
      exact az_iret C dX5_wordAmong_110 hp
set_option maxHeartbeats 4000000 in
set_option maxRecDepth 100000 in
theorem s_X5_wordAmong_23 {Y : az_Y} {V : az_V} {post : Option Value → az_M → Prop} (C : az_C Y V cX5_wordAmong 6 RX5 (some .int) 8) (G : Nat) (a0 : Nat) (ha0 : a0 < 11) : ∀ (F : Nat) (x1 : Nat) (htx1 : x1 < 11) (x2 : Int32) (x3 : Int32) (x4 : Int32) (x5 : Int32) (M : az_M) (r : Int32), f_X5_wordAmong_23 G a0 F x1 x2 x3 x4 x5 M = some r → post (some (.int r)) M → AW Y V (az_end Y V post) 6 M 23 [(0, .ref (az_ad V 15)), (1, .ref (V.2.2.2.2.2 (10 + x1))), (2, .int x2), (3, .int x3), (4, .int x4), (5, .int x5)] [] := by
  have o5 := C.hL.at 5 (ci := 9) rfl
  have o15 := C.hL.at 15 (ci := 5) rfl
  have a6 := C.hL.ar 6 (t := 0) (len := 400) rfl
  intro F
  induction F with
  | zero =>
    intro x1 htx1 x2 x3 x4 x5 M r h
    exact absurd (show (none : Option Int32) = some r from h) (fun q => by cases q)
  | succ F ih =>
    intro x1 htx1 x2 x3 x4 x5 M r h hp
    rw [f_X5_wordAmong_23] at h
    refine az_iload C 5 dX5_wordAmong_23 rfl ?_
    refine az_aload_n C 1 dX5_wordAmong_25 rfl ?_
    refine az_slen C (by decide) htx1 (Nat.le_of_ble_eq_true rfl) dX5_wordAmong_26 ?_
    refine az_icmp_gt C 128 dX5_wordAmong_29 (by decide) (fun c2 => ?_) (fun c2 => ?_)
    · have h := az_t c2 h
      refine az_iconst (v := (-1)) C dX5_wordAmong_128 (by decide) ?_
      obtain rfl := Option.some.inj h
      exact az_iret C dX5_wordAmong_129 hp
    · have h := az_f c2 h
      refine az_iload C 5 dX5_wordAmong_32 rfl ?_
      refine az_aload_n C 1 dX5_wordAmong_34 rfl ?_
      refine az_slen C (by decide) htx1 (Nat.le_of_ble_eq_true rfl) dX5_wordAmong_35 ?_
      refine az_icmp_ge C 96 dX5_wordAmong_38 (by decide) (fun c3 => ?_) (fun c3 => ?_)
      · have h := az_t c3 h
        exact s_X5_wordAmong_96 C G a0 ha0 (f_X5_wordAmong_23 G a0 F) ih x1 htx1 x2 x3 x4 x5 M r h hp
      · have h := az_f c3 h
        refine az_aload_n C 1 dX5_wordAmong_41 rfl ?_
        refine az_iload C 5 dX5_wordAmong_42 rfl ?_
        obtain ⟨g4, h⟩ := az_g h
        refine az_schar C (by decide) htx1 g4 (Nat.le_of_ble_eq_true rfl) dX5_wordAmong_44 ?_
        refine az_bipush (v := 32) C dX5_wordAmong_47 (by decide) ?_
        refine az_icmp_eq C 96 dX5_wordAmong_49 (by decide) (fun c5 => ?_) (fun c5 => ?_)
        · have h := az_t c5 h
          exact s_X5_wordAmong_96 C G a0 ha0 (f_X5_wordAmong_23 G a0 F) ih x1 htx1 x2 x3 x4 x5 M r h hp
        · have h := az_f c5 h
          refine az_iload C 4 dX5_wordAmong_52 rfl ?_
          refine az_if_eq C 87 dX5_wordAmong_54 (by decide) (fun c6 => ?_) (fun c6 => ?_)
          · have h := az_t c6 h
            refine az_sub [0, 1, 2, 3, 5] rfl ?_
            exact s_X5_wordAmong_87 C G a0 ha0 (f_X5_wordAmong_23 G a0 F) ih x1 htx1 x2 x3 x5 M r h hp
          · have h := az_f c6 h
            refine az_iload_n C 3 dX5_wordAmong_57 rfl ?_
            refine az_aload_n C 0 dX5_wordAmong_58 rfl ?_
            refine az_geti C o15 fl_X5_33 rfl dX5_wordAmong_59 ?_
            refine az_icmp_ge C 87 dX5_wordAmong_62 (by decide) (fun c7 => ?_) (fun c7 => ?_)
            · have h := az_t c7 h
              refine az_sub [0, 1, 2, 3, 5] rfl ?_
              exact s_X5_wordAmong_87 C G a0 ha0 (f_X5_wordAmong_23 G a0 F) ih x1 htx1 x2 x3 x5 M r h hp
            · have h := az_f c7 h
              refine az_aload_n C 0 dX5_wordAmong_65 rfl ?_
              refine az_getr (r := 5) C o15 fl_X5_18 rfl rfl dX5_wordAmong_66 ?_
              refine az_getr (r := 6) C o5 fl_X5_137 rfl rfl dX5_wordAmong_69 ?_
              refine az_iload_n C 3 dX5_wordAmong_72 rfl ?_
              obtain ⟨g8, h⟩ := az_g h
              refine az_ild (k := x3.toNatClampNeg) C a6 g8 rfl dX5_wordAmong_73 ?_
              refine az_aload_n C 1 dX5_wordAmong_74 rfl ?_
              refine az_iload C 5 dX5_wordAmong_75 rfl ?_
              obtain ⟨g9, h⟩ := az_g h
              refine az_schar C (by decide) htx1 g9 (Nat.le_of_ble_eq_true rfl) dX5_wordAmong_77 ?_
              refine az_icmp_ne C 87 dX5_wordAmong_80 (by decide) (fun c10 => ?_) (fun c10 => ?_)
              · have h := az_f c10 h
                refine az_sub [0, 1, 2, 3, 5] rfl ?_
                exact s_X5_wordAmong_87 C G a0 ha0 (f_X5_wordAmong_23 G a0 F) ih x1 htx1 x2 x3 x5 M r h hp
              · have h := az_t c10 h
                refine az_iconst (v := 1) C dX5_wordAmong_83 (by decide) ?_
                refine az_goto C 88 dX5_wordAmong_84 (by decide) ?_
                refine az_sub [0, 1, 2, 3, 5] rfl ?_
                exact s_X5_wordAmong_88 C G a0 ha0 (f_X5_wordAmong_23 G a0 F) ih x1 htx1 x2 x3 x5 1 M r h hp
set_option maxHeartbeats 4000000 in
set_option maxRecDepth 100000 in
theorem s_X5_wordAmong_e {Y : az_Y} {V : az_V} {post : Option Value → az_M → Prop} (C : az_C Y V cX5_wordAmong 6 RX5 (some .int) 8) (G : Nat) (a0 : Nat) (ha0 : a0 < 11)  (M : az_M) (r : Int32) (h : f_X5_wordAmong G a0 M = some r) (hp : post (some (.int r)) M) : AW Y V (az_end Y V post) 6 M 0 [(0, .ref (az_ad V 15)), (1, .ref (V.2.2.2.2.2 (10 + a0)))] [] := by
  have o15 := C.hL.at 15 (ci := 5) rfl
  unfold f_X5_wordAmong at h
  refine az_aload_n C 0 dX5_wordAmong_0 rfl ?_
  refine az_geti C o15 fl_X5_55 rfl dX5_wordAmong_1 ?_
  refine az_iconst (v := 1) C dX5_wordAmong_4 (by decide) ?_
  refine az_icmp_eq C 10 dX5_wordAmong_5 (by decide) (fun c1 => ?_) (fun c1 => ?_)
  · have h := az_t c1 h
    refine az_iconst (v := 0) C dX5_wordAmong_10 (by decide) ?_
    refine az_istore_n C dX5_wordAmong_11 rfl (by decide) rfl ?_
    refine az_aload_n C 1 dX5_wordAmong_12 rfl ?_
    refine az_geti C o15 fl_X5_52 rfl dX5_wordAmong_13 ?_
    refine az_istore_n C dX5_wordAmong_16 rfl (by decide) rfl ?_
    refine az_iconst (v := 1) C dX5_wordAmong_17 (by decide) ?_
    refine az_istore C dX5_wordAmong_18 (by decide) rfl ?_
    refine az_iconst (v := 0) C dX5_wordAmong_20 (by decide) ?_
    refine az_istore C dX5_wordAmong_21 (by decide) rfl ?_
    refine az_sub [4, 5, 3, 2, 1, 0] rfl ?_
    exact s_X5_wordAmong_23 C G a0 ha0 G a0 ha0 0 (M.1 15 4) 1 0 M r h hp
  · have h := az_f c1 h
    refine az_iconst (v := (-1)) C dX5_wordAmong_8 (by decide) ?_
    obtain rfl := Option.some.inj h
    exact az_iret C dX5_wordAmong_9 hp
theorem c_X5_wordAmong {l : Launch} {V : az_V} (hL : az_L V) (G : Nat) (a0 : Nat) (ha0 : a0 < 11)  (M : az_M) {r : Int32} (h : f_X5_wordAmong G a0 M = some r) : az_Ct l V yX5_wordAmong cX5_wordAmong 6 (some .int) 8 [.ref (az_ad V 15), .ref (V.2.2.2.2.2 (10 + a0))] M (fun v M' => v = some (.int r) ∧ M' = M) :=
  az_Ct.of (by decide) (Nat.le_of_ble_eq_true rfl) (fun Y _ _ C => s_X5_wordAmong_e C G a0 ha0 M r h ⟨rfl, rfl⟩)
set_option maxHeartbeats 4000000 in
set_option maxRecDepth 100000 in
theorem s_X5_readPart_147 {Y : az_Y} {V : az_V} {post : Option Value → az_M → Prop} {dR : Nat} (C : az_C Y V cX5_readPart 4 RX5 (some .boolean) (dR + 2)) (hdR : 9 ≤ dR) (G : Nat) (R_X5_readSum : az_M → Option (Int32 × az_M)) (hR_X5_readSum : ∀ (M : az_M) (r : (Int32 × az_M)), R_X5_readSum M = some r → az_Ct Y.2.1 V yX5_readSum cX5_readSum 3 (some .boolean) dR [.ref (az_ad V 15)] M (fun v M' => v = some (.int r.1) ∧ M' = r.2))  (M : az_M) (r : (Int32 × az_M)) (h : f_X5_readPart_147 (az_z V) G R_X5_readSum M = some r) (hp : post (some (.int r.1)) r.2) : AW Y V (az_end Y V post) 4 M 147 [] [] := by
  unfold f_X5_readPart_147 at h
  refine az_iconst (v := 0) C dX5_readPart_147 (by decide) ?_
  obtain rfl := Option.some.inj h
  exact az_zret C dX5_readPart_148 rfl hp
set_option maxHeartbeats 4000000 in
set_option maxRecDepth 100000 in
theorem s_X5_readPart_185 {Y : az_Y} {V : az_V} {post : Option Value → az_M → Prop} {dR : Nat} (C : az_C Y V cX5_readPart 4 RX5 (some .boolean) (dR + 2)) (hdR : 9 ≤ dR) (G : Nat) (R_X5_readSum : az_M → Option (Int32 × az_M)) (hR_X5_readSum : ∀ (M : az_M) (r : (Int32 × az_M)), R_X5_readSum M = some r → az_Ct Y.2.1 V yX5_readSum cX5_readSum 3 (some .boolean) dR [.ref (az_ad V 15)] M (fun v M' => v = some (.int r.1) ∧ M' = r.2)) (x3 : Int32) (s0 : Int32) (M : az_M) (r : (Int32 × az_M)) (h : f_X5_readPart_185 (az_z V) G R_X5_readSum x3 s0 M = some r) (hp : post (some (.int r.1)) r.2) : AW Y V (az_end Y V post) 4 M 185 [(3, .int x3)] [.int s0, .ref (az_ad V 16)] := by
  have o16 := C.hL.at 16 (ci := 10) rfl
  unfold f_X5_readPart_185 at h
  refine az_iload_n C 0 dX5_readPart_185 rfl ?_
  obtain ⟨q27, e28, h⟩ := az_b h
  refine az_cV (rest := []) (st2 := []) C [.int s0, .int x3] (c_X10_addStep C.hL 16 (C.hL.tx 16 rfl) s0 x3 M e28) (by omega) li_X5_103 o16 (by decide) rfl rfl (Nat.le_of_ble_eq_true rfl) dX5_readPart_186 rfl ?_
  refine az_iconst (v := 1) C dX5_readPart_189 (by decide) ?_
  obtain rfl := Option.some.inj h
  exact az_zret C dX5_readPart_190 rfl hp
set_option maxHeartbeats 4000000 in
set_option maxRecDepth 100000 in
theorem s_X5_readPart_172 {Y : az_Y} {V : az_V} {post : Option Value → az_M → Prop} {dR : Nat} (C : az_C Y V cX5_readPart 4 RX5 (some .boolean) (dR + 2)) (hdR : 9 ≤ dR) (G : Nat) (R_X5_readSum : az_M → Option (Int32 × az_M)) (hR_X5_readSum : ∀ (M : az_M) (r : (Int32 × az_M)), R_X5_readSum M = some r → az_Ct Y.2.1 V yX5_readSum cX5_readSum 3 (some .boolean) dR [.ref (az_ad V 15)] M (fun v M' => v = some (.int r.1) ∧ M' = r.2)) (x2 : Int32) (x3 : Int32) (M : az_M) (r : (Int32 × az_M)) (h : f_X5_readPart_172 (az_z V) G R_X5_readSum x2 x3 M = some r) (hp : post (some (.int r.1)) r.2) : AW Y V (az_end Y V post) 4 M 172 [(0, .ref (az_ad V 15)), (2, .int x2), (3, .int x3)] [] := by
  have o15 := C.hL.at 15 (ci := 5) rfl
  unfold f_X5_readPart_172 at h
  refine az_aload_n C 0 dX5_readPart_172 rfl ?_
  refine az_getr (r := 16) C o15 fl_X5_12 rfl rfl dX5_readPart_173 ?_
  refine az_iload_n C 1 dX5_readPart_176 rfl ?_
  refine az_if_eq C 184 dX5_readPart_177 (by decide) (fun c26 => ?_) (fun c26 => ?_)
  · have h := az_t c26 h
    refine az_iconst (v := 1) C dX5_readPart_184 (by decide) ?_
    refine az_sub [2] rfl ?_
    exact s_X5_readPart_185 C hdR G R_X5_readSum hR_X5_readSum x3 1 M r h hp
  · have h := az_f c26 h
    refine az_iconst (v := 0) C dX5_readPart_180 (by decide) ?_
    refine az_goto C 185 dX5_readPart_181 (by decide) ?_
    refine az_sub [2] rfl ?_
    exact s_X5_readPart_185 C hdR G R_X5_readSum hR_X5_readSum x3 0 M r h hp
set_option maxHeartbeats 4000000 in
set_option maxRecDepth 100000 in
theorem s_X5_readPart_162 {Y : az_Y} {V : az_V} {post : Option Value → az_M → Prop} {dR : Nat} (C : az_C Y V cX5_readPart 4 RX5 (some .boolean) (dR + 2)) (hdR : 9 ≤ dR) (G : Nat) (R_X5_readSum : az_M → Option (Int32 × az_M)) (hR_X5_readSum : ∀ (M : az_M) (r : (Int32 × az_M)), R_X5_readSum M = some r → az_Ct Y.2.1 V yX5_readSum cX5_readSum 3 (some .boolean) dR [.ref (az_ad V 15)] M (fun v M' => v = some (.int r.1) ∧ M' = r.2)) (x2 : Int32) (s0 : Int32) (M : az_M) (r : (Int32 × az_M)) (h : f_X5_readPart_162 (az_z V) G R_X5_readSum x2 s0 M = some r) (hp : post (some (.int r.1)) r.2) : AW Y V (az_end Y V post) 4 M 162 [(0, .ref (az_ad V 15)), (2, .int x2)] [.int s0] := by
  have o15 := C.hL.at 15 (ci := 5) rfl
  unfold f_X5_readPart_162 at h
  refine az_aload_n C 0 dX5_readPart_162 rfl ?_
  refine az_geti C o15 fl_X5_90 rfl dX5_readPart_163 ?_
  refine az_iadd C dX5_readPart_166 ?_
  refine az_istore_n C dX5_readPart_167 rfl (by decide) rfl ?_
  refine az_aload_n C 1 dX5_readPart_168 rfl ?_
  obtain ⟨q24, e25, h⟩ := az_b h
  refine az_cV (rest := []) (st2 := []) C [] (c_X5_nextToken C.hL G M e25) (by omega) li_X5_42 o15 (by decide) rfl rfl (Nat.le_of_ble_eq_true rfl) dX5_readPart_169 rfl ?_
  refine az_sub [1, 2, 0] rfl ?_
  exact s_X5_readPart_172 C hdR G R_X5_readSum hR_X5_readSum x2 (s0 + (M.1 15 6)) q24 r h hp
set_option maxHeartbeats 4000000 in
set_option maxRecDepth 100000 in
theorem s_X5_readPart_144 {Y : az_Y} {V : az_V} {post : Option Value → az_M → Prop} {dR : Nat} (C : az_C Y V cX5_readPart 4 RX5 (some .boolean) (dR + 2)) (hdR : 9 ≤ dR) (G : Nat) (R_X5_readSum : az_M → Option (Int32 × az_M)) (hR_X5_readSum : ∀ (M : az_M) (r : (Int32 × az_M)), R_X5_readSum M = some r → az_Ct Y.2.1 V yX5_readSum cX5_readSum 3 (some .boolean) dR [.ref (az_ad V 15)] M (fun v M' => v = some (.int r.1) ∧ M' = r.2)) (x1 : Int32) (x2 : Int32) (s0 : Int32) (s1 : Int32) (M : az_M) (r : (Int32 × az_M)) (h : f_X5_readPart_144 (az_z V) G R_X5_readSum x1 x2 s0 s1 M = some r) (hp : post (some (.int r.1)) r.2) : AW Y V (az_end Y V post) 4 M 144 [(0, .ref (az_ad V 15)), (1, .int x1), (2, .int x2)] [.int s0, .int s1] := by
  unfold f_X5_readPart_144 at h
  refine az_icmp_lt C 149 dX5_readPart_144 (by decide) (fun c22 => ?_) (fun c22 => ?_)
  · have h := az_t c22 h
    refine az_iload_n C 1 dX5_readPart_149 rfl ?_
    refine az_bipush (v := 6) C dX5_readPart_150 (by decide) ?_
    refine az_icmp_ne C 160 dX5_readPart_152 (by decide) (fun c23 => ?_) (fun c23 => ?_)
    · have h := az_f c23 h
      refine az_bipush (v := 16) C dX5_readPart_160 (by decide) ?_
      refine az_sub [0, 2] rfl ?_
      exact s_X5_readPart_162 C hdR G R_X5_readSum hR_X5_readSum x2 16 M r h hp
    · have h := az_t c23 h
      refine az_bipush (v := 6) C dX5_readPart_155 (by decide) ?_
      refine az_goto C 162 dX5_readPart_157 (by decide) ?_
      refine az_sub [0, 2] rfl ?_
      exact s_X5_readPart_162 C hdR G R_X5_readSum hR_X5_readSum x2 6 M r h hp
  · have h := az_f c22 h
    refine az_sub [] rfl ?_
    exact s_X5_readPart_147 C hdR G R_X5_readSum hR_X5_readSum M r h hp
set_option maxHeartbeats 4000000 in
set_option maxRecDepth 100000 in
theorem s_X5_readPart_101 {Y : az_Y} {V : az_V} {post : Option Value → az_M → Prop} {dR : Nat} (C : az_C Y V cX5_readPart 4 RX5 (some .boolean) (dR + 2)) (hdR : 9 ≤ dR) (G : Nat) (R_X5_readSum : az_M → Option (Int32 × az_M)) (hR_X5_readSum : ∀ (M : az_M) (r : (Int32 × az_M)), R_X5_readSum M = some r → az_Ct Y.2.1 V yX5_readSum cX5_readSum 3 (some .boolean) dR [.ref (az_ad V 15)] M (fun v M' => v = some (.int r.1) ∧ M' = r.2)) (x1 : Int32) (x2 : Int32) (s0 : Int32) (M : az_M) (r : (Int32 × az_M)) (h : f_X5_readPart_101 (az_z V) G R_X5_readSum x1 x2 s0 M = some r) (hp : post (some (.int r.1)) r.2) : AW Y V (az_end Y V post) 4 M 101 [(0, .ref (az_ad V 15)), (1, .int x1), (2, .int x2)] [.int s0] := by
  have o15 := C.hL.at 15 (ci := 5) rfl
  unfold f_X5_readPart_101 at h
  refine az_istore_n C dX5_readPart_101 rfl (by decide) rfl ?_
  refine az_aload_n C 1 dX5_readPart_102 rfl ?_
  obtain ⟨q16, e17, h⟩ := az_b h
  refine az_cV (rest := []) (st2 := []) C [] (c_X5_nextToken C.hL G M e17) (by omega) li_X5_42 o15 (by decide) rfl rfl (Nat.le_of_ble_eq_true rfl) dX5_readPart_103 rfl ?_
  refine az_aload_n C 1 dX5_readPart_106 rfl ?_
  refine az_geti C o15 fl_X5_22 rfl dX5_readPart_107 ?_
  refine az_if_eq C 172 dX5_readPart_110 (by decide) (fun c18 => ?_) (fun c18 => ?_)
  · have h := az_t c18 h
    refine az_sub [1, 3, 0] rfl ?_
    exact s_X5_readPart_172 C hdR G R_X5_readSum hR_X5_readSum x2 s0 q16 r h hp
  · have h := az_f c18 h
    refine az_iload_n C 2 dX5_readPart_113 rfl ?_
    refine az_bipush (v := 6) C dX5_readPart_114 (by decide) ?_
    refine az_icmp_lt C 172 dX5_readPart_116 (by decide) (fun c19 => ?_) (fun c19 => ?_)
    · have h := az_t c19 h
      refine az_sub [1, 3, 0] rfl ?_
      exact s_X5_readPart_172 C hdR G R_X5_readSum hR_X5_readSum x2 s0 q16 r h hp
    · have h := az_f c19 h
      refine az_aload_n C 1 dX5_readPart_119 rfl ?_
      refine az_geti C o15 fl_X5_55 rfl dX5_readPart_120 ?_
      refine az_iconst (v := 2) C dX5_readPart_123 (by decide) ?_
      refine az_icmp_ne C 147 dX5_readPart_124 (by decide) (fun c20 => ?_) (fun c20 => ?_)
      · have h := az_f c20 h
        refine az_sub [] rfl ?_
        exact s_X5_readPart_147 C hdR G R_X5_readSum hR_X5_readSum q16 r h hp
      · have h := az_t c20 h
        refine az_aload_n C 1 dX5_readPart_127 rfl ?_
        refine az_geti C o15 fl_X5_90 rfl dX5_readPart_128 ?_
        refine az_iload_n C 2 dX5_readPart_131 rfl ?_
        refine az_bipush (v := 6) C dX5_readPart_132 (by decide) ?_
        refine az_icmp_ne C 142 dX5_readPart_134 (by decide) (fun c21 => ?_) (fun c21 => ?_)
        · have h := az_f c21 h
          refine az_bipush (v := 12) C dX5_readPart_142 (by decide) ?_
          refine az_sub [1, 2, 3] rfl ?_
          exact s_X5_readPart_144 C hdR G R_X5_readSum hR_X5_readSum x1 x2 12 (q16.1 15 6) q16 r h hp
        · have h := az_t c21 h
          refine az_bipush (v := 10) C dX5_readPart_137 (by decide) ?_
          refine az_goto C 144 dX5_readPart_139 (by decide) ?_
          refine az_sub [1, 2, 3] rfl ?_
          exact s_X5_readPart_144 C hdR G R_X5_readSum hR_X5_readSum x1 x2 10 (q16.1 15 6) q16 r h hp
set_option maxHeartbeats 4000000 in
set_option maxRecDepth 100000 in
theorem s_X5_readPart_89 {Y : az_Y} {V : az_V} {post : Option Value → az_M → Prop} {dR : Nat} (C : az_C Y V cX5_readPart 4 RX5 (some .boolean) (dR + 2)) (hdR : 9 ≤ dR) (G : Nat) (R_X5_readSum : az_M → Option (Int32 × az_M)) (hR_X5_readSum : ∀ (M : az_M) (r : (Int32 × az_M)), R_X5_readSum M = some r → az_Ct Y.2.1 V yX5_readSum cX5_readSum 3 (some .boolean) dR [.ref (az_ad V 15)] M (fun v M' => v = some (.int r.1) ∧ M' = r.2)) (x1 : Int32) (x2 : Int32) (M : az_M) (r : (Int32 × az_M)) (h : f_X5_readPart_89 (az_z V) G R_X5_readSum x1 x2 M = some r) (hp : post (some (.int r.1)) r.2) : AW Y V (az_end Y V post) 4 M 89 [(0, .ref (az_ad V 15)), (1, .int x1), (2, .int x2)] [] := by
  have o15 := C.hL.at 15 (ci := 5) rfl
  unfold f_X5_readPart_89 at h
  refine az_iload_n C 2 dX5_readPart_89 rfl ?_
  refine az_if_eq C 100 dX5_readPart_90 (by decide) (fun c15 => ?_) (fun c15 => ?_)
  · have h := az_t c15 h
    refine az_iload_n C 1 dX5_readPart_100 rfl ?_
    exact s_X5_readPart_101 C hdR G R_X5_readSum hR_X5_readSum x1 x2 x1 M r h hp
  · have h := az_f c15 h
    refine az_aload_n C 0 dX5_readPart_93 rfl ?_
    refine az_geti C o15 fl_X5_90 rfl dX5_readPart_94 ?_
    refine az_goto C 101 dX5_readPart_97 (by decide) ?_
    exact s_X5_readPart_101 C hdR G R_X5_readSum hR_X5_readSum x1 x2 (M.1 15 6) M r h hp
set_option maxHeartbeats 4000000 in
set_option maxRecDepth 100000 in
theorem s_X5_readPart_77 {Y : az_Y} {V : az_V} {post : Option Value → az_M → Prop} {dR : Nat} (C : az_C Y V cX5_readPart 4 RX5 (some .boolean) (dR + 2)) (hdR : 9 ≤ dR) (G : Nat) (R_X5_readSum : az_M → Option (Int32 × az_M)) (hR_X5_readSum : ∀ (M : az_M) (r : (Int32 × az_M)), R_X5_readSum M = some r → az_Ct Y.2.1 V yX5_readSum cX5_readSum 3 (some .boolean) dR [.ref (az_ad V 15)] M (fun v M' => v = some (.int r.1) ∧ M' = r.2)) (x1 : Int32) (s0 : Int32) (M : az_M) (r : (Int32 × az_M)) (h : f_X5_readPart_77 (az_z V) G R_X5_readSum x1 s0 M = some r) (hp : post (some (.int r.1)) r.2) : AW Y V (az_end Y V post) 4 M 77 [(0, .ref (az_ad V 15)), (1, .int x1)] [.int s0] := by
  unfold f_X5_readPart_77 at h
  refine az_istore_n C dX5_readPart_77 rfl (by decide) rfl ?_
  refine az_iload_n C 0 dX5_readPart_78 rfl ?_
  refine az_if_ne C 89 dX5_readPart_79 (by decide) (fun c13 => ?_) (fun c13 => ?_)
  · have h := az_f c13 h
    refine az_sub [1, 2, 0] rfl ?_
    exact s_X5_readPart_89 C hdR G R_X5_readSum hR_X5_readSum x1 s0 M r h hp
  · have h := az_t c13 h
    refine az_iload_n C 2 dX5_readPart_82 rfl ?_
    refine az_iconst (v := (-1)) C dX5_readPart_83 (by decide) ?_
    refine az_icmp_ne C 89 dX5_readPart_84 (by decide) (fun c14 => ?_) (fun c14 => ?_)
    · have h := az_f c14 h
      refine az_sub [1, 2, 0] rfl ?_
      exact s_X5_readPart_89 C hdR G R_X5_readSum hR_X5_readSum x1 s0 M r h hp
    · have h := az_t c14 h
      refine az_iconst (v := 0) C dX5_readPart_87 (by decide) ?_
      obtain rfl := Option.some.inj h
      exact az_zret C dX5_readPart_88 rfl hp
set_option maxHeartbeats 4000000 in
set_option maxRecDepth 100000 in
theorem s_X5_readPart_76 {Y : az_Y} {V : az_V} {post : Option Value → az_M → Prop} {dR : Nat} (C : az_C Y V cX5_readPart 4 RX5 (some .boolean) (dR + 2)) (hdR : 9 ≤ dR) (G : Nat) (R_X5_readSum : az_M → Option (Int32 × az_M)) (hR_X5_readSum : ∀ (M : az_M) (r : (Int32 × az_M)), R_X5_readSum M = some r → az_Ct Y.2.1 V yX5_readSum cX5_readSum 3 (some .boolean) dR [.ref (az_ad V 15)] M (fun v M' => v = some (.int r.1) ∧ M' = r.2)) (x1 : Int32) (M : az_M) (r : (Int32 × az_M)) (h : f_X5_readPart_76 (az_z V) G R_X5_readSum x1 M = some r) (hp : post (some (.int r.1)) r.2) : AW Y V (az_end Y V post) 4 M 76 [(0, .ref (az_ad V 15)), (1, .int x1)] [] := by
  unfold f_X5_readPart_76 at h
  refine az_iconst (v := 0) C dX5_readPart_76 (by decide) ?_
  exact s_X5_readPart_77 C hdR G R_X5_readSum hR_X5_readSum x1 0 M r h hp
set_option maxHeartbeats 4000000 in
set_option maxRecDepth 100000 in
theorem s_X5_readPart_50 {Y : az_Y} {V : az_V} {post : Option Value → az_M → Prop} {dR : Nat} (C : az_C Y V cX5_readPart 4 RX5 (some .boolean) (dR + 2)) (hdR : 9 ≤ dR) (G : Nat) (R_X5_readSum : az_M → Option (Int32 × az_M)) (hR_X5_readSum : ∀ (M : az_M) (r : (Int32 × az_M)), R_X5_readSum M = some r → az_Ct Y.2.1 V yX5_readSum cX5_readSum 3 (some .boolean) dR [.ref (az_ad V 15)] M (fun v M' => v = some (.int r.1) ∧ M' = r.2)) (s0 : Nat) (hts0 : s0 < 11) (M : az_M) (r : (Int32 × az_M)) (h : f_X5_readPart_50 (az_z V) G R_X5_readSum s0 M = some r) (hp : post (some (.int r.1)) r.2) : AW Y V (az_end Y V post) 4 M 50 [(0, .ref (az_ad V 15))] [.ref (V.2.2.2.2.2 (10 + s0)), .ref (az_ad V 15)] := by
  have o15 := C.hL.at 15 (ci := 5) rfl
  unfold f_X5_readPart_50 at h
  obtain ⟨q9, e10, h⟩ := az_b h
  refine az_cV (rest := []) (st2 := [.int q9]) C [.ref (V.2.2.2.2.2 (10 + s0))] (c_X5_wordAmong C.hL G s0 hts0 M e10) (by omega) li_X5_64 o15 (by decide) rfl rfl (Nat.le_of_ble_eq_true rfl) dX5_readPart_50 rfl ?_
  refine az_istore_n C dX5_readPart_53 rfl (by decide) rfl ?_
  refine az_aload_n C 1 dX5_readPart_54 rfl ?_
  refine az_geti C o15 fl_X5_55 rfl dX5_readPart_55 ?_
  refine az_iconst (v := 2) C dX5_readPart_58 (by decide) ?_
  refine az_icmp_ne C 76 dX5_readPart_59 (by decide) (fun c11 => ?_) (fun c11 => ?_)
  · have h := az_f c11 h
    refine az_sub [1, 0] rfl ?_
    exact s_X5_readPart_76 C hdR G R_X5_readSum hR_X5_readSum q9 M r h hp
  · have h := az_t c11 h
    refine az_aload_n C 1 dX5_readPart_62 rfl ?_
    refine az_geti C o15 fl_X5_90 rfl dX5_readPart_63 ?_
    refine az_sipush (v := 1000) C dX5_readPart_66 (by decide) ?_
    refine az_icmp_gt C 76 dX5_readPart_69 (by decide) (fun c12 => ?_) (fun c12 => ?_)
    · have h := az_t c12 h
      refine az_sub [1, 0] rfl ?_
      exact s_X5_readPart_76 C hdR G R_X5_readSum hR_X5_readSum q9 M r h hp
    · have h := az_f c12 h
      refine az_iconst (v := 1) C dX5_readPart_72 (by decide) ?_
      refine az_goto C 77 dX5_readPart_73 (by decide) ?_
      refine az_sub [1, 0] rfl ?_
      exact s_X5_readPart_77 C hdR G R_X5_readSum hR_X5_readSum q9 1 M r h hp
set_option maxHeartbeats 4000000 in
set_option maxRecDepth 100000 in
theorem s_X5_readPart_e {Y : az_Y} {V : az_V} {post : Option Value → az_M → Prop} {dR : Nat} (C : az_C Y V cX5_readPart 4 RX5 (some .boolean) (dR + 2)) (hdR : 9 ≤ dR) (G : Nat) (R_X5_readSum : az_M → Option (Int32 × az_M)) (hR_X5_readSum : ∀ (M : az_M) (r : (Int32 × az_M)), R_X5_readSum M = some r → az_Ct Y.2.1 V yX5_readSum cX5_readSum 3 (some .boolean) dR [.ref (az_ad V 15)] M (fun v M' => v = some (.int r.1) ∧ M' = r.2))  (M : az_M) (r : (Int32 × az_M)) (h : f_X5_readPart (az_z V) G R_X5_readSum M = some r) (hp : post (some (.int r.1)) r.2) : AW Y V (az_end Y V post) 4 M 0 [(0, .ref (az_ad V 15))] [] := by
  have o15 := C.hL.at 15 (ci := 5) rfl
  unfold f_X5_readPart at h
  refine az_aload_n C 0 dX5_readPart_0 rfl ?_
  refine az_bipush (v := 91) C dX5_readPart_1 (by decide) ?_
  obtain ⟨q1, e2, h⟩ := az_b h
  refine az_cV (rest := []) (st2 := [.int q1]) C [.int 91] (c_X5_isSign C.hL 91 M e2) (by omega) li_X5_58 o15 (by decide) rfl rfl (Nat.le_of_ble_eq_true rfl) dX5_readPart_3 rfl ?_
  refine az_if_eq C 14 dX5_readPart_6 (by decide) (fun c3 => ?_) (fun c3 => ?_)
  · have h := az_t c3 h
    refine az_aload_n C 0 dX5_readPart_14 rfl ?_
    refine az_geti C o15 fl_X5_36 rfl dX5_readPart_15 ?_
    refine az_bipush (v := 50) C dX5_readPart_18 (by decide) ?_
    refine az_icmp_lt C 25 dX5_readPart_20 (by decide) (fun c4 => ?_) (fun c4 => ?_)
    · have h := az_t c4 h
      refine az_aload_n C 0 dX5_readPart_25 rfl ?_
      refine az_dup C dX5_readPart_26 rfl ?_
      refine az_geti C o15 fl_X5_36 rfl dX5_readPart_27 ?_
      refine az_iconst (v := 1) C dX5_readPart_30 (by decide) ?_
      refine az_iadd C dX5_readPart_31 ?_
      refine az_puti C o15 fl_X5_36 rfl rfl rfl rfl dX5_readPart_32 ?_
      refine az_aload_n C 0 dX5_readPart_35 rfl ?_
      refine az_aload_n C 0 dX5_readPart_36 rfl ?_
      refine az_geti C o15 fl_X5_22 rfl dX5_readPart_37 ?_
      refine az_if_eq C 48 dX5_readPart_40 (by decide) (fun c5 => ?_) (fun c5 => ?_)
      · have h := az_t c5 h
        refine az_lds (i := 10) C (by decide) rfl dX5_readPart_48 ?_
        exact s_X5_readPart_50 C hdR G R_X5_readSum hR_X5_readSum 10 (by decide) (az_i M 15 7 ((M.1 15 7) + 1)) r h hp
      · have h := az_f c5 h
        refine az_lds (i := 9) C (by decide) rfl dX5_readPart_43 ?_
        refine az_goto C 50 dX5_readPart_45 (by decide) ?_
        exact s_X5_readPart_50 C hdR G R_X5_readSum hR_X5_readSum 9 (by decide) (az_i M 15 7 ((M.1 15 7) + 1)) r h hp
    · have h := az_f c4 h
      refine az_iconst (v := 0) C dX5_readPart_23 (by decide) ?_
      obtain rfl := Option.some.inj h
      exact az_zret C dX5_readPart_24 rfl hp
  · have h := az_f c3 h
    refine az_aload_n C 0 dX5_readPart_9 rfl ?_
    obtain ⟨q6, e7, h⟩ := az_b h
    refine az_cV (rest := []) (st2 := [.int q6.1]) C [] (c_X5_readBracketedSum C.hL hdR G R_X5_readSum hR_X5_readSum M e7) (by omega) li_X5_130 o15 (by decide) rfl rfl (Nat.le_of_ble_eq_true rfl) dX5_readPart_10 rfl ?_
    obtain ⟨g8, h⟩ := az_g2 h
    obtain rfl := Option.some.inj h
    exact az_zret C dX5_readPart_13 (az_nz g8) hp
theorem c_X5_readPart {l : Launch} {V : az_V} {dR : Nat} (hL : az_L V) (hdR : 9 ≤ dR) (G : Nat) (R_X5_readSum : az_M → Option (Int32 × az_M)) (hR_X5_readSum : ∀ (M : az_M) (r : (Int32 × az_M)), R_X5_readSum M = some r → az_Ct l V yX5_readSum cX5_readSum 3 (some .boolean) dR [.ref (az_ad V 15)] M (fun v M' => v = some (.int r.1) ∧ M' = r.2))  (M : az_M) {r : (Int32 × az_M)} (h : f_X5_readPart (az_z V) G R_X5_readSum M = some r) : az_Ct l V yX5_readPart cX5_readPart 4 (some .boolean) (dR + 2) [.ref (az_ad V 15)] M (fun v M' => v = some (.int r.1) ∧ M' = r.2) :=
  az_Ct.of (by decide) (Nat.le_of_ble_eq_true rfl) (fun Y hl _ C => s_X5_readPart_e C hdR G R_X5_readSum (by rw [hl]; exact hR_X5_readSum) M r h ⟨rfl, rfl⟩)
set_option maxHeartbeats 4000000 in
set_option maxRecDepth 100000 in
theorem s_X5_readTerm_73 {Y : az_Y} {V : az_V} {post : Option Value → az_M → Prop} {dR : Nat} (C : az_C Y V cX5_readTerm 3 RX5 (some .boolean) (dR + 3)) (hdR : 9 ≤ dR) (G : Nat) (R_X5_readSum : az_M → Option (Int32 × az_M)) (hR_X5_readSum : ∀ (M : az_M) (r : (Int32 × az_M)), R_X5_readSum M = some r → az_Ct Y.2.1 V yX5_readSum cX5_readSum 3 (some .boolean) dR [.ref (az_ad V 15)] M (fun v M' => v = some (.int r.1) ∧ M' = r.2)) (K11 : (Int32 → az_M → Option (Int32 × az_M))) (hK11 : ∀ (x1 : Int32) (M : az_M) (r : (Int32 × az_M)), K11 x1 M = some r → post (some (.int r.1)) r.2 → AW Y V (az_end Y V post) 3 M 11 [(0, .ref (az_ad V 15)), (1, .int x1)] []) (x1 : Int32) (s0 : Int32) (M : az_M) (r : (Int32 × az_M)) (h : f_X5_readTerm_73 (az_z V) G R_X5_readSum K11 x1 s0 M = some r) (hp : post (some (.int r.1)) r.2) : AW Y V (az_end Y V post) 3 M 73 [(0, .ref (az_ad V 15)), (1, .int x1)] [.int s0] := by
  have o15 := C.hL.at 15 (ci := 5) rfl
  have o16 := C.hL.at 16 (ci := 10) rfl
  unfold f_X5_readTerm_73 at h
  refine az_istore_n C dX5_readTerm_73 rfl (by decide) rfl ?_
  refine az_aload_n C 1 dX5_readTerm_74 rfl ?_
  obtain ⟨q20, e21, h⟩ := az_b h
  refine az_cV (rest := []) (st2 := []) C [] (c_X5_nextToken C.hL G M e21) (by omega) li_X5_42 o15 (by decide) rfl rfl (Nat.le_of_ble_eq_true rfl) dX5_readTerm_75 rfl ?_
  refine az_aload_n C 1 dX5_readTerm_78 rfl ?_
  obtain ⟨q22, e23, h⟩ := az_b h
  refine az_cV (rest := []) (st2 := [.int q22.1]) C [] (c_X5_readPart C.hL hdR G R_X5_readSum hR_X5_readSum q20 e23) (by omega) li_X5_127 o15 (by decide) rfl rfl (Nat.le_of_ble_eq_true rfl) dX5_readTerm_79 rfl ?_
  refine az_if_ne C 87 dX5_readTerm_82 (by decide) (fun c24 => ?_) (fun c24 => ?_)
  · have h := az_f c24 h
    refine az_aload_n C 1 dX5_readTerm_87 rfl ?_
    refine az_getr (r := 16) C o15 fl_X5_12 rfl rfl dX5_readTerm_88 ?_
    refine az_iload_n C 0 dX5_readTerm_91 rfl ?_
    refine az_iconst (v := 0) C dX5_readTerm_92 (by decide) ?_
    obtain ⟨q25, e26, h⟩ := az_b h
    refine az_cV (rest := []) (st2 := []) C [.int s0, .int 0] (c_X10_addStep C.hL 16 (C.hL.tx 16 rfl) s0 0 q22.2 e26) (by omega) li_X5_103 o16 (by decide) rfl rfl (Nat.le_of_ble_eq_true rfl) dX5_readTerm_93 rfl ?_
    refine az_iinc (v := (x1 + 1)) C 2 dX5_readTerm_96 rfl rfl (by decide) rfl ?_
    refine az_goto C 11 dX5_readTerm_99 (by decide) ?_
    refine az_sub [2, 0] rfl ?_
    exact hK11 (x1 + 1) q25 r h hp
  · have h := az_t c24 h
    refine az_iconst (v := 0) C dX5_readTerm_85 (by decide) ?_
    obtain rfl := Option.some.inj h
    exact az_zret C dX5_readTerm_86 rfl hp
set_option maxHeartbeats 4000000 in
set_option maxRecDepth 100000 in
theorem s_X5_readTerm_45 {Y : az_Y} {V : az_V} {post : Option Value → az_M → Prop} {dR : Nat} (C : az_C Y V cX5_readTerm 3 RX5 (some .boolean) (dR + 3)) (hdR : 9 ≤ dR) (G : Nat) (R_X5_readSum : az_M → Option (Int32 × az_M)) (hR_X5_readSum : ∀ (M : az_M) (r : (Int32 × az_M)), R_X5_readSum M = some r → az_Ct Y.2.1 V yX5_readSum cX5_readSum 3 (some .boolean) dR [.ref (az_ad V 15)] M (fun v M' => v = some (.int r.1) ∧ M' = r.2)) (K11 : (Int32 → az_M → Option (Int32 × az_M))) (hK11 : ∀ (x1 : Int32) (M : az_M) (r : (Int32 × az_M)), K11 x1 M = some r → post (some (.int r.1)) r.2 → AW Y V (az_end Y V post) 3 M 11 [(0, .ref (az_ad V 15)), (1, .int x1)] []) (x1 : Int32) (M : az_M) (r : (Int32 × az_M)) (h : f_X5_readTerm_45 (az_z V) G R_X5_readSum K11 x1 M = some r) (hp : post (some (.int r.1)) r.2) : AW Y V (az_end Y V post) 3 M 45 [(0, .ref (az_ad V 15)), (1, .int x1)] [] := by
  have o15 := C.hL.at 15 (ci := 5) rfl
  unfold f_X5_readTerm_45 at h
  refine az_aload_n C 0 dX5_readTerm_45 rfl ?_
  refine az_bipush (v := 42) C dX5_readTerm_46 (by decide) ?_
  obtain ⟨q14, e15, h⟩ := az_b h
  refine az_cV (rest := []) (st2 := [.int q14]) C [.int 42] (c_X5_isSign C.hL 42 M e15) (by omega) li_X5_58 o15 (by decide) rfl rfl (Nat.le_of_ble_eq_true rfl) dX5_readTerm_48 rfl ?_
  refine az_if_eq C 58 dX5_readTerm_51 (by decide) (fun c16 => ?_) (fun c16 => ?_)
  · have h := az_t c16 h
    refine az_aload_n C 0 dX5_readTerm_58 rfl ?_
    refine az_bipush (v := 47) C dX5_readTerm_59 (by decide) ?_
    obtain ⟨q17, e18, h⟩ := az_b h
    refine az_cV (rest := []) (st2 := [.int q17]) C [.int 47] (c_X5_isSign C.hL 47 M e18) (by omega) li_X5_58 o15 (by decide) rfl rfl (Nat.le_of_ble_eq_true rfl) dX5_readTerm_61 rfl ?_
    refine az_if_eq C 71 dX5_readTerm_64 (by decide) (fun c19 => ?_) (fun c19 => ?_)
    · have h := az_t c19 h
      refine az_bipush (v := 6) C dX5_readTerm_71 (by decide) ?_
      exact s_X5_readTerm_73 C hdR G R_X5_readSum hR_X5_readSum K11 hK11 x1 6 M r h hp
    · have h := az_f c19 h
      refine az_iconst (v := 5) C dX5_readTerm_67 (by decide) ?_
      refine az_goto C 73 dX5_readTerm_68 (by decide) ?_
      exact s_X5_readTerm_73 C hdR G R_X5_readSum hR_X5_readSum K11 hK11 x1 5 M r h hp
  · have h := az_f c16 h
    refine az_iconst (v := 4) C dX5_readTerm_54 (by decide) ?_
    refine az_goto C 73 dX5_readTerm_55 (by decide) ?_
    exact s_X5_readTerm_73 C hdR G R_X5_readSum hR_X5_readSum K11 hK11 x1 4 M r h hp
set_option maxHeartbeats 4000000 in
set_option maxRecDepth 100000 in
theorem s_X5_readTerm_102 {Y : az_Y} {V : az_V} {post : Option Value → az_M → Prop} {dR : Nat} (C : az_C Y V cX5_readTerm 3 RX5 (some .boolean) (dR + 3)) (hdR : 9 ≤ dR) (G : Nat) (R_X5_readSum : az_M → Option (Int32 × az_M)) (hR_X5_readSum : ∀ (M : az_M) (r : (Int32 × az_M)), R_X5_readSum M = some r → az_Ct Y.2.1 V yX5_readSum cX5_readSum 3 (some .boolean) dR [.ref (az_ad V 15)] M (fun v M' => v = some (.int r.1) ∧ M' = r.2))  (M : az_M) (r : (Int32 × az_M)) (h : f_X5_readTerm_102 (az_z V) G R_X5_readSum M = some r) (hp : post (some (.int r.1)) r.2) : AW Y V (az_end Y V post) 3 M 102 [] [] := by
  unfold f_X5_readTerm_102 at h
  refine az_iconst (v := 1) C dX5_readTerm_102 (by decide) ?_
  obtain rfl := Option.some.inj h
  exact az_zret C dX5_readTerm_103 rfl hp
set_option maxHeartbeats 4000000 in
set_option maxRecDepth 100000 in
theorem s_X5_readTerm_11 {Y : az_Y} {V : az_V} {post : Option Value → az_M → Prop} {dR : Nat} (C : az_C Y V cX5_readTerm 3 RX5 (some .boolean) (dR + 3)) (hdR : 9 ≤ dR) (G : Nat) (R_X5_readSum : az_M → Option (Int32 × az_M)) (hR_X5_readSum : ∀ (M : az_M) (r : (Int32 × az_M)), R_X5_readSum M = some r → az_Ct Y.2.1 V yX5_readSum cX5_readSum 3 (some .boolean) dR [.ref (az_ad V 15)] M (fun v M' => v = some (.int r.1) ∧ M' = r.2)) : ∀ (F : Nat) (x1 : Int32) (M : az_M) (r : (Int32 × az_M)), f_X5_readTerm_11 (az_z V) G R_X5_readSum F x1 M = some r → post (some (.int r.1)) r.2 → AW Y V (az_end Y V post) 3 M 11 [(0, .ref (az_ad V 15)), (1, .int x1)] [] := by
  have o15 := C.hL.at 15 (ci := 5) rfl
  intro F
  induction F with
  | zero =>
    intro x1 M r h
    exact absurd (show (none : Option (Int32 × az_M)) = some r from h) (fun q => by cases q)
  | succ F ih =>
    intro x1 M r h hp
    rw [f_X5_readTerm_11] at h
    refine az_iload_n C 1 dX5_readTerm_11 rfl ?_
    refine az_sipush (v := 400) C dX5_readTerm_12 (by decide) ?_
    refine az_icmp_ge C 102 dX5_readTerm_15 (by decide) (fun c4 => ?_) (fun c4 => ?_)
    · have h := az_t c4 h
      refine az_sub [] rfl ?_
      exact s_X5_readTerm_102 C hdR G R_X5_readSum hR_X5_readSum M r h hp
    · have h := az_f c4 h
      refine az_aload_n C 0 dX5_readTerm_18 rfl ?_
      refine az_bipush (v := 42) C dX5_readTerm_19 (by decide) ?_
      obtain ⟨q5, e6, h⟩ := az_b h
      refine az_cV (rest := []) (st2 := [.int q5]) C [.int 42] (c_X5_isSign C.hL 42 M e6) (by omega) li_X5_58 o15 (by decide) rfl rfl (Nat.le_of_ble_eq_true rfl) dX5_readTerm_21 rfl ?_
      refine az_if_ne C 45 dX5_readTerm_24 (by decide) (fun c7 => ?_) (fun c7 => ?_)
      · have h := az_f c7 h
        exact s_X5_readTerm_45 C hdR G R_X5_readSum hR_X5_readSum (f_X5_readTerm_11 (az_z V) G R_X5_readSum F) ih x1 M r h hp
      · have h := az_t c7 h
        refine az_aload_n C 0 dX5_readTerm_27 rfl ?_
        refine az_bipush (v := 47) C dX5_readTerm_28 (by decide) ?_
        obtain ⟨q8, e9, h⟩ := az_b h
        refine az_cV (rest := []) (st2 := [.int q8]) C [.int 47] (c_X5_isSign C.hL 47 M e9) (by omega) li_X5_58 o15 (by decide) rfl rfl (Nat.le_of_ble_eq_true rfl) dX5_readTerm_30 rfl ?_
        refine az_if_ne C 45 dX5_readTerm_33 (by decide) (fun c10 => ?_) (fun c10 => ?_)
        · have h := az_f c10 h
          exact s_X5_readTerm_45 C hdR G R_X5_readSum hR_X5_readSum (f_X5_readTerm_11 (az_z V) G R_X5_readSum F) ih x1 M r h hp
        · have h := az_t c10 h
          refine az_aload_n C 0 dX5_readTerm_36 rfl ?_
          refine az_bipush (v := 37) C dX5_readTerm_37 (by decide) ?_
          obtain ⟨q11, e12, h⟩ := az_b h
          refine az_cV (rest := []) (st2 := [.int q11]) C [.int 37] (c_X5_isSign C.hL 37 M e12) (by omega) li_X5_58 o15 (by decide) rfl rfl (Nat.le_of_ble_eq_true rfl) dX5_readTerm_39 rfl ?_
          refine az_if_eq C 102 dX5_readTerm_42 (by decide) (fun c13 => ?_) (fun c13 => ?_)
          · have h := az_t c13 h
            refine az_sub [] rfl ?_
            exact s_X5_readTerm_102 C hdR G R_X5_readSum hR_X5_readSum M r h hp
          · have h := az_f c13 h
            exact s_X5_readTerm_45 C hdR G R_X5_readSum hR_X5_readSum (f_X5_readTerm_11 (az_z V) G R_X5_readSum F) ih x1 M r h hp
set_option maxHeartbeats 4000000 in
set_option maxRecDepth 100000 in
theorem s_X5_readTerm_e {Y : az_Y} {V : az_V} {post : Option Value → az_M → Prop} {dR : Nat} (C : az_C Y V cX5_readTerm 3 RX5 (some .boolean) (dR + 3)) (hdR : 9 ≤ dR) (G : Nat) (R_X5_readSum : az_M → Option (Int32 × az_M)) (hR_X5_readSum : ∀ (M : az_M) (r : (Int32 × az_M)), R_X5_readSum M = some r → az_Ct Y.2.1 V yX5_readSum cX5_readSum 3 (some .boolean) dR [.ref (az_ad V 15)] M (fun v M' => v = some (.int r.1) ∧ M' = r.2))  (M : az_M) (r : (Int32 × az_M)) (h : f_X5_readTerm (az_z V) G R_X5_readSum M = some r) (hp : post (some (.int r.1)) r.2) : AW Y V (az_end Y V post) 3 M 0 [(0, .ref (az_ad V 15))] [] := by
  have o15 := C.hL.at 15 (ci := 5) rfl
  unfold f_X5_readTerm at h
  refine az_aload_n C 0 dX5_readTerm_0 rfl ?_
  obtain ⟨q1, e2, h⟩ := az_b h
  refine az_cV (rest := []) (st2 := [.int q1.1]) C [] (c_X5_readPart C.hL hdR G R_X5_readSum hR_X5_readSum M e2) (by omega) li_X5_127 o15 (by decide) rfl rfl (Nat.le_of_ble_eq_true rfl) dX5_readTerm_1 rfl ?_
  refine az_if_ne C 9 dX5_readTerm_4 (by decide) (fun c3 => ?_) (fun c3 => ?_)
  · have h := az_f c3 h
    refine az_iconst (v := 0) C dX5_readTerm_9 (by decide) ?_
    refine az_istore_n C dX5_readTerm_10 rfl (by decide) rfl ?_
    refine az_sub [1, 0] rfl ?_
    exact s_X5_readTerm_11 C hdR G R_X5_readSum hR_X5_readSum G 0 q1.2 r h hp
  · have h := az_t c3 h
    refine az_iconst (v := 0) C dX5_readTerm_7 (by decide) ?_
    obtain rfl := Option.some.inj h
    exact az_zret C dX5_readTerm_8 rfl hp
theorem c_X5_readTerm {l : Launch} {V : az_V} {dR : Nat} (hL : az_L V) (hdR : 9 ≤ dR) (G : Nat) (R_X5_readSum : az_M → Option (Int32 × az_M)) (hR_X5_readSum : ∀ (M : az_M) (r : (Int32 × az_M)), R_X5_readSum M = some r → az_Ct l V yX5_readSum cX5_readSum 3 (some .boolean) dR [.ref (az_ad V 15)] M (fun v M' => v = some (.int r.1) ∧ M' = r.2))  (M : az_M) {r : (Int32 × az_M)} (h : f_X5_readTerm (az_z V) G R_X5_readSum M = some r) : az_Ct l V yX5_readTerm cX5_readTerm 3 (some .boolean) (dR + 3) [.ref (az_ad V 15)] M (fun v M' => v = some (.int r.1) ∧ M' = r.2) :=
  az_Ct.of (by decide) (Nat.le_of_ble_eq_true rfl) (fun Y hl _ C => s_X5_readTerm_e C hdR G R_X5_readSum (by rw [hl]; exact hR_X5_readSum) M r h ⟨rfl, rfl⟩)
set_option maxHeartbeats 4000000 in
set_option maxRecDepth 100000 in
theorem s_X5_readSum_50 {Y : az_Y} {V : az_V} {post : Option Value → az_M → Prop} {dR : Nat} (C : az_C Y V cX5_readSum 3 RX5 (some .boolean) (dR + 4)) (hdR : 9 ≤ dR) (G : Nat) (R_X5_readSum : az_M → Option (Int32 × az_M)) (hR_X5_readSum : ∀ (M : az_M) (r : (Int32 × az_M)), R_X5_readSum M = some r → az_Ct Y.2.1 V yX5_readSum cX5_readSum 3 (some .boolean) dR [.ref (az_ad V 15)] M (fun v M' => v = some (.int r.1) ∧ M' = r.2)) (K11 : (Int32 → az_M → Option (Int32 × az_M))) (hK11 : ∀ (x1 : Int32) (M : az_M) (r : (Int32 × az_M)), K11 x1 M = some r → post (some (.int r.1)) r.2 → AW Y V (az_end Y V post) 3 M 11 [(0, .ref (az_ad V 15)), (1, .int x1)] []) (x1 : Int32) (s0 : Int32) (M : az_M) (r : (Int32 × az_M)) (h : f_X5_readSum_50 (az_z V) G R_X5_readSum K11 x1 s0 M = some r) (hp : post (some (.int r.1)) r.2) : AW Y V (az_end Y V post) 3 M 50 [(0, .ref (az_ad V 15)), (1, .int x1)] [.int s0] := by
  have o15 := C.hL.at 15 (ci := 5) rfl
  have o16 := C.hL.at 16 (ci := 10) rfl
  unfold f_X5_readSum_50 at h
  refine az_istore_n C dX5_readSum_50 rfl (by decide) rfl ?_
  refine az_aload_n C 1 dX5_readSum_51 rfl ?_
  obtain ⟨q14, e15, h⟩ := az_b h
  refine az_cV (rest := []) (st2 := []) C [] (c_X5_nextToken C.hL G M e15) (by omega) li_X5_42 o15 (by decide) rfl rfl (Nat.le_of_ble_eq_true rfl) dX5_readSum_52 rfl ?_
  refine az_aload_n C 1 dX5_readSum_55 rfl ?_
  obtain ⟨q16, e17, h⟩ := az_b h
  refine az_cV (rest := []) (st2 := [.int q16.1]) C [] (c_X5_readTerm C.hL hdR G R_X5_readSum hR_X5_readSum q14 e17) (by omega) li_X5_124 o15 (by decide) rfl rfl (Nat.le_of_ble_eq_true rfl) dX5_readSum_56 rfl ?_
  refine az_if_ne C 64 dX5_readSum_59 (by decide) (fun c18 => ?_) (fun c18 => ?_)
  · have h := az_f c18 h
    refine az_aload_n C 1 dX5_readSum_64 rfl ?_
    refine az_getr (r := 16) C o15 fl_X5_12 rfl rfl dX5_readSum_65 ?_
    refine az_iload_n C 0 dX5_readSum_68 rfl ?_
    refine az_iconst (v := 0) C dX5_readSum_69 (by decide) ?_
    obtain ⟨q19, e20, h⟩ := az_b h
    refine az_cV (rest := []) (st2 := []) C [.int s0, .int 0] (c_X10_addStep C.hL 16 (C.hL.tx 16 rfl) s0 0 q16.2 e20) (by omega) li_X5_103 o16 (by decide) rfl rfl (Nat.le_of_ble_eq_true rfl) dX5_readSum_70 rfl ?_
    refine az_iinc (v := (x1 + 1)) C 2 dX5_readSum_73 rfl rfl (by decide) rfl ?_
    refine az_goto C 11 dX5_readSum_76 (by decide) ?_
    refine az_sub [2, 0] rfl ?_
    exact hK11 (x1 + 1) q19 r h hp
  · have h := az_t c18 h
    refine az_iconst (v := 0) C dX5_readSum_62 (by decide) ?_
    obtain rfl := Option.some.inj h
    exact az_zret C dX5_readSum_63 rfl hp
set_option maxHeartbeats 4000000 in
set_option maxRecDepth 100000 in
theorem s_X5_readSum_36 {Y : az_Y} {V : az_V} {post : Option Value → az_M → Prop} {dR : Nat} (C : az_C Y V cX5_readSum 3 RX5 (some .boolean) (dR + 4)) (hdR : 9 ≤ dR) (G : Nat) (R_X5_readSum : az_M → Option (Int32 × az_M)) (hR_X5_readSum : ∀ (M : az_M) (r : (Int32 × az_M)), R_X5_readSum M = some r → az_Ct Y.2.1 V yX5_readSum cX5_readSum 3 (some .boolean) dR [.ref (az_ad V 15)] M (fun v M' => v = some (.int r.1) ∧ M' = r.2)) (K11 : (Int32 → az_M → Option (Int32 × az_M))) (hK11 : ∀ (x1 : Int32) (M : az_M) (r : (Int32 × az_M)), K11 x1 M = some r → post (some (.int r.1)) r.2 → AW Y V (az_end Y V post) 3 M 11 [(0, .ref (az_ad V 15)), (1, .int x1)] []) (x1 : Int32) (M : az_M) (r : (Int32 × az_M)) (h : f_X5_readSum_36 (az_z V) G R_X5_readSum K11 x1 M = some r) (hp : post (some (.int r.1)) r.2) : AW Y V (az_end Y V post) 3 M 36 [(0, .ref (az_ad V 15)), (1, .int x1)] [] := by
  have o15 := C.hL.at 15 (ci := 5) rfl
  unfold f_X5_readSum_36 at h
  refine az_aload_n C 0 dX5_readSum_36 rfl ?_
  refine az_bipush (v := 43) C dX5_readSum_37 (by decide) ?_
  obtain ⟨q11, e12, h⟩ := az_b h
  refine az_cV (rest := []) (st2 := [.int q11]) C [.int 43] (c_X5_isSign C.hL 43 M e12) (by omega) li_X5_58 o15 (by decide) rfl rfl (Nat.le_of_ble_eq_true rfl) dX5_readSum_39 rfl ?_
  refine az_if_eq C 49 dX5_readSum_42 (by decide) (fun c13 => ?_) (fun c13 => ?_)
  · have h := az_t c13 h
    refine az_iconst (v := 3) C dX5_readSum_49 (by decide) ?_
    exact s_X5_readSum_50 C hdR G R_X5_readSum hR_X5_readSum K11 hK11 x1 3 M r h hp
  · have h := az_f c13 h
    refine az_iconst (v := 2) C dX5_readSum_45 (by decide) ?_
    refine az_goto C 50 dX5_readSum_46 (by decide) ?_
    exact s_X5_readSum_50 C hdR G R_X5_readSum hR_X5_readSum K11 hK11 x1 2 M r h hp
set_option maxHeartbeats 4000000 in
set_option maxRecDepth 100000 in
theorem s_X5_readSum_79 {Y : az_Y} {V : az_V} {post : Option Value → az_M → Prop} {dR : Nat} (C : az_C Y V cX5_readSum 3 RX5 (some .boolean) (dR + 4)) (hdR : 9 ≤ dR) (G : Nat) (R_X5_readSum : az_M → Option (Int32 × az_M)) (hR_X5_readSum : ∀ (M : az_M) (r : (Int32 × az_M)), R_X5_readSum M = some r → az_Ct Y.2.1 V yX5_readSum cX5_readSum 3 (some .boolean) dR [.ref (az_ad V 15)] M (fun v M' => v = some (.int r.1) ∧ M' = r.2))  (M : az_M) (r : (Int32 × az_M)) (h : f_X5_readSum_79 (az_z V) G R_X5_readSum M = some r) (hp : post (some (.int r.1)) r.2) : AW Y V (az_end Y V post) 3 M 79 [] [] := by
  unfold f_X5_readSum_79 at h
  refine az_iconst (v := 1) C dX5_readSum_79 (by decide) ?_
  obtain rfl := Option.some.inj h
  exact az_zret C dX5_readSum_80 rfl hp
set_option maxHeartbeats 4000000 in
set_option maxRecDepth 100000 in
theorem s_X5_readSum_11 {Y : az_Y} {V : az_V} {post : Option Value → az_M → Prop} {dR : Nat} (C : az_C Y V cX5_readSum 3 RX5 (some .boolean) (dR + 4)) (hdR : 9 ≤ dR) (G : Nat) (R_X5_readSum : az_M → Option (Int32 × az_M)) (hR_X5_readSum : ∀ (M : az_M) (r : (Int32 × az_M)), R_X5_readSum M = some r → az_Ct Y.2.1 V yX5_readSum cX5_readSum 3 (some .boolean) dR [.ref (az_ad V 15)] M (fun v M' => v = some (.int r.1) ∧ M' = r.2)) : ∀ (F : Nat) (x1 : Int32) (M : az_M) (r : (Int32 × az_M)), f_X5_readSum_11 (az_z V) G R_X5_readSum F x1 M = some r → post (some (.int r.1)) r.2 → AW Y V (az_end Y V post) 3 M 11 [(0, .ref (az_ad V 15)), (1, .int x1)] [] := by
  have o15 := C.hL.at 15 (ci := 5) rfl
  intro F
  induction F with
  | zero =>
    intro x1 M r h
    exact absurd (show (none : Option (Int32 × az_M)) = some r from h) (fun q => by cases q)
  | succ F ih =>
    intro x1 M r h hp
    rw [f_X5_readSum_11] at h
    refine az_iload_n C 1 dX5_readSum_11 rfl ?_
    refine az_sipush (v := 400) C dX5_readSum_12 (by decide) ?_
    refine az_icmp_ge C 79 dX5_readSum_15 (by decide) (fun c4 => ?_) (fun c4 => ?_)
    · have h := az_t c4 h
      refine az_sub [] rfl ?_
      exact s_X5_readSum_79 C hdR G R_X5_readSum hR_X5_readSum M r h hp
    · have h := az_f c4 h
      refine az_aload_n C 0 dX5_readSum_18 rfl ?_
      refine az_bipush (v := 43) C dX5_readSum_19 (by decide) ?_
      obtain ⟨q5, e6, h⟩ := az_b h
      refine az_cV (rest := []) (st2 := [.int q5]) C [.int 43] (c_X5_isSign C.hL 43 M e6) (by omega) li_X5_58 o15 (by decide) rfl rfl (Nat.le_of_ble_eq_true rfl) dX5_readSum_21 rfl ?_
      refine az_if_ne C 36 dX5_readSum_24 (by decide) (fun c7 => ?_) (fun c7 => ?_)
      · have h := az_f c7 h
        exact s_X5_readSum_36 C hdR G R_X5_readSum hR_X5_readSum (f_X5_readSum_11 (az_z V) G R_X5_readSum F) ih x1 M r h hp
      · have h := az_t c7 h
        refine az_aload_n C 0 dX5_readSum_27 rfl ?_
        refine az_bipush (v := 45) C dX5_readSum_28 (by decide) ?_
        obtain ⟨q8, e9, h⟩ := az_b h
        refine az_cV (rest := []) (st2 := [.int q8]) C [.int 45] (c_X5_isSign C.hL 45 M e9) (by omega) li_X5_58 o15 (by decide) rfl rfl (Nat.le_of_ble_eq_true rfl) dX5_readSum_30 rfl ?_
        refine az_if_eq C 79 dX5_readSum_33 (by decide) (fun c10 => ?_) (fun c10 => ?_)
        · have h := az_t c10 h
          refine az_sub [] rfl ?_
          exact s_X5_readSum_79 C hdR G R_X5_readSum hR_X5_readSum M r h hp
        · have h := az_f c10 h
          exact s_X5_readSum_36 C hdR G R_X5_readSum hR_X5_readSum (f_X5_readSum_11 (az_z V) G R_X5_readSum F) ih x1 M r h hp
set_option maxHeartbeats 4000000 in
set_option maxRecDepth 100000 in
theorem s_X5_readSum_e {Y : az_Y} {V : az_V} {post : Option Value → az_M → Prop} {dR : Nat} (C : az_C Y V cX5_readSum 3 RX5 (some .boolean) (dR + 4)) (hdR : 9 ≤ dR) (G : Nat) (R_X5_readSum : az_M → Option (Int32 × az_M)) (hR_X5_readSum : ∀ (M : az_M) (r : (Int32 × az_M)), R_X5_readSum M = some r → az_Ct Y.2.1 V yX5_readSum cX5_readSum 3 (some .boolean) dR [.ref (az_ad V 15)] M (fun v M' => v = some (.int r.1) ∧ M' = r.2))  (M : az_M) (r : (Int32 × az_M)) (h : f_X5_readSum_b (az_z V) G R_X5_readSum M = some r) (hp : post (some (.int r.1)) r.2) : AW Y V (az_end Y V post) 3 M 0 [(0, .ref (az_ad V 15))] [] := by
  have o15 := C.hL.at 15 (ci := 5) rfl
  unfold f_X5_readSum_b at h
  refine az_aload_n C 0 dX5_readSum_0 rfl ?_
  obtain ⟨q1, e2, h⟩ := az_b h
  refine az_cV (rest := []) (st2 := [.int q1.1]) C [] (c_X5_readTerm C.hL hdR G R_X5_readSum hR_X5_readSum M e2) (by omega) li_X5_124 o15 (by decide) rfl rfl (Nat.le_of_ble_eq_true rfl) dX5_readSum_1 rfl ?_
  refine az_if_ne C 9 dX5_readSum_4 (by decide) (fun c3 => ?_) (fun c3 => ?_)
  · have h := az_f c3 h
    refine az_iconst (v := 0) C dX5_readSum_9 (by decide) ?_
    refine az_istore_n C dX5_readSum_10 rfl (by decide) rfl ?_
    refine az_sub [1, 0] rfl ?_
    exact s_X5_readSum_11 C hdR G R_X5_readSum hR_X5_readSum G 0 q1.2 r h hp
  · have h := az_t c3 h
    refine az_iconst (v := 0) C dX5_readSum_7 (by decide) ?_
    obtain rfl := Option.some.inj h
    exact az_zret C dX5_readSum_8 rfl hp
theorem c_X5_readSum_b {l : Launch} {V : az_V} {dR : Nat} (hL : az_L V) (hdR : 9 ≤ dR) (G : Nat) (R_X5_readSum : az_M → Option (Int32 × az_M)) (hR_X5_readSum : ∀ (M : az_M) (r : (Int32 × az_M)), R_X5_readSum M = some r → az_Ct l V yX5_readSum cX5_readSum 3 (some .boolean) dR [.ref (az_ad V 15)] M (fun v M' => v = some (.int r.1) ∧ M' = r.2))  (M : az_M) {r : (Int32 × az_M)} (h : f_X5_readSum_b (az_z V) G R_X5_readSum M = some r) : az_Ct l V yX5_readSum cX5_readSum 3 (some .boolean) (dR + 4) [.ref (az_ad V 15)] M (fun v M' => v = some (.int r.1) ∧ M' = r.2) :=
  az_Ct.of (by decide) (Nat.le_of_ble_eq_true rfl) (fun Y hl _ C => s_X5_readSum_e C hdR G R_X5_readSum (by rw [hl]; exact hR_X5_readSum) M r h ⟨rfl, rfl⟩)
theorem c_X5_readSum {l : Launch} {V : az_V} (hL : az_L V) (G : Nat) : ∀ (D : Nat)  (M : az_M) {r : (Int32 × az_M)}, f_X5_readSum (az_z V) G D M = some r → az_Ct l V yX5_readSum cX5_readSum 3 (some .boolean) (9 + 4 * D) [.ref (az_ad V 15)] M (fun v M' => v = some (.int r.1) ∧ M' = r.2) := by
  intro D
  induction D with
  | zero =>
    intro M r h
    exact absurd (show (none : Option (Int32 × az_M)) = some r from h) (fun q => by cases q)
  | succ D ih =>
    intro M r h
    have h : f_X5_readSum_b (az_z V) G (f_X5_readSum (az_z V) G D) M = some r := h
    exact c_X5_readSum_b (dR := 9 + 4 * D) hL (Nat.le_add_right _ _) G (f_X5_readSum (az_z V) G D) (fun M r h => ih M h) M h
set_option maxHeartbeats 4000000 in
set_option maxRecDepth 100000 in
theorem s_X5_readPlain_30 {Y : az_Y} {V : az_V} {post : Option Value → az_M → Prop} {dR : Nat} (C : az_C Y V cX5_readPlain 3 RX5 (some .boolean) (dR + 2)) (hdR : 50 ≤ dR) (G : Nat) (R_X5_readTest : az_M → Option (Int32 × az_M)) (hR_X5_readTest : ∀ (M : az_M) (r : (Int32 × az_M)), R_X5_readTest M = some r → az_Ct Y.2.1 V yX5_readTest cX5_readTest 3 (some .boolean) dR [.ref (az_ad V 15)] M (fun v M' => v = some (.int r.1) ∧ M' = r.2)) (K4 : (Int32 → Int32 → az_M → Option (Int32 × az_M))) (hK4 : ∀ (x1 : Int32) (x2 : Int32) (M : az_M) (r : (Int32 × az_M)), K4 x1 x2 M = some r → post (some (.int r.1)) r.2 → AW Y V (az_end Y V post) 3 M 4 [(0, .ref (az_ad V 15)), (1, .int x1), (2, .int x2)] []) (x2 : Int32) (s0 : Int32) (M : az_M) (r : (Int32 × az_M)) (h : f_X5_readPlain_30 (az_z V) G R_X5_readTest K4 x2 s0 M = some r) (hp : post (some (.int r.1)) r.2) : AW Y V (az_end Y V post) 3 M 30 [(0, .ref (az_ad V 15)), (2, .int x2)] [.int s0] := by
  have o15 := C.hL.at 15 (ci := 5) rfl
  unfold f_X5_readPlain_30 at h
  refine az_istore_n C dX5_readPlain_30 rfl (by decide) rfl ?_
  refine az_aload_n C 1 dX5_readPlain_31 rfl ?_
  obtain ⟨q6, e7, h⟩ := az_b h
  refine az_cV (rest := []) (st2 := []) C [] (c_X5_nextToken C.hL G M e7) (by omega) li_X5_42 o15 (by decide) rfl rfl (Nat.le_of_ble_eq_true rfl) dX5_readPlain_32 rfl ?_
  refine az_iinc (v := (x2 + 1)) C 2 dX5_readPlain_35 rfl rfl (by decide) rfl ?_
  refine az_goto C 4 dX5_readPlain_38 (by decide) ?_
  refine az_sub [2, 1, 0] rfl ?_
  exact hK4 s0 (x2 + 1) q6 r h hp
set_option maxHeartbeats 4000000 in
set_option maxRecDepth 100000 in
theorem s_X5_readPlain_155 {Y : az_Y} {V : az_V} {post : Option Value → az_M → Prop} {dR : Nat} (C : az_C Y V cX5_readPlain 3 RX5 (some .boolean) (dR + 2)) (hdR : 50 ≤ dR) (G : Nat) (R_X5_readTest : az_M → Option (Int32 × az_M)) (hR_X5_readTest : ∀ (M : az_M) (r : (Int32 × az_M)), R_X5_readTest M = some r → az_Ct Y.2.1 V yX5_readTest cX5_readTest 3 (some .boolean) dR [.ref (az_ad V 15)] M (fun v M' => v = some (.int r.1) ∧ M' = r.2))  (M : az_M) (r : (Int32 × az_M)) (h : f_X5_readPlain_155 (az_z V) G R_X5_readTest M = some r) (hp : post (some (.int r.1)) r.2) : AW Y V (az_end Y V post) 3 M 155 [] [] := by
  unfold f_X5_readPlain_155 at h
  refine az_iconst (v := 1) C dX5_readPlain_155 (by decide) ?_
  obtain rfl := Option.some.inj h
  exact az_zret C dX5_readPlain_156 rfl hp
set_option maxHeartbeats 4000000 in
set_option maxRecDepth 100000 in
theorem s_X5_readPlain_141 {Y : az_Y} {V : az_V} {post : Option Value → az_M → Prop} {dR : Nat} (C : az_C Y V cX5_readPlain 3 RX5 (some .boolean) (dR + 2)) (hdR : 50 ≤ dR) (G : Nat) (R_X5_readTest : az_M → Option (Int32 × az_M)) (hR_X5_readTest : ∀ (M : az_M) (r : (Int32 × az_M)), R_X5_readTest M = some r → az_Ct Y.2.1 V yX5_readTest cX5_readTest 3 (some .boolean) dR [.ref (az_ad V 15)] M (fun v M' => v = some (.int r.1) ∧ M' = r.2)) (x1 : Int32) (M : az_M) (r : (Int32 × az_M)) (h : f_X5_readPlain_141 (az_z V) G R_X5_readTest x1 M = some r) (hp : post (some (.int r.1)) r.2) : AW Y V (az_end Y V post) 3 M 141 [(0, .ref (az_ad V 15)), (1, .int x1)] [] := by
  have o15 := C.hL.at 15 (ci := 5) rfl
  have o16 := C.hL.at 16 (ci := 10) rfl
  unfold f_X5_readPlain_141 at h
  refine az_iload_n C 1 dX5_readPlain_141 rfl ?_
  refine az_if_eq C 155 dX5_readPlain_142 (by decide) (fun c26 => ?_) (fun c26 => ?_)
  · have h := az_t c26 h
    refine az_sub [] rfl ?_
    exact s_X5_readPlain_155 C hdR G R_X5_readTest hR_X5_readTest M r h hp
  · have h := az_f c26 h
    refine az_aload_n C 0 dX5_readPlain_145 rfl ?_
    refine az_getr (r := 16) C o15 fl_X5_12 rfl rfl dX5_readPlain_146 ?_
    refine az_bipush (v := 10) C dX5_readPlain_149 (by decide) ?_
    refine az_iconst (v := 0) C dX5_readPlain_151 (by decide) ?_
    obtain ⟨q27, e28, h⟩ := az_b h
    refine az_cV (rest := []) (st2 := []) C [.int 10, .int 0] (c_X10_addStep C.hL 16 (C.hL.tx 16 rfl) 10 0 M e28) (by omega) li_X5_103 o16 (by decide) rfl rfl (Nat.le_of_ble_eq_true rfl) dX5_readPlain_152 rfl ?_
    refine az_sub [] rfl ?_
    exact s_X5_readPlain_155 C hdR G R_X5_readTest hR_X5_readTest q27 r h hp
set_option maxHeartbeats 4000000 in
set_option maxRecDepth 100000 in
theorem s_X5_readPlain_111 {Y : az_Y} {V : az_V} {post : Option Value → az_M → Prop} {dR : Nat} (C : az_C Y V cX5_readPlain 3 RX5 (some .boolean) (dR + 2)) (hdR : 50 ≤ dR) (G : Nat) (R_X5_readTest : az_M → Option (Int32 × az_M)) (hR_X5_readTest : ∀ (M : az_M) (r : (Int32 × az_M)), R_X5_readTest M = some r → az_Ct Y.2.1 V yX5_readTest cX5_readTest 3 (some .boolean) dR [.ref (az_ad V 15)] M (fun v M' => v = some (.int r.1) ∧ M' = r.2)) (x1 : Int32) (s0 : Int32) (M : az_M) (r : (Int32 × az_M)) (h : f_X5_readPlain_111 (az_z V) G R_X5_readTest x1 s0 M = some r) (hp : post (some (.int r.1)) r.2) : AW Y V (az_end Y V post) 3 M 111 [(0, .ref (az_ad V 15)), (1, .int x1)] [.int s0] := by
  have o15 := C.hL.at 15 (ci := 5) rfl
  have o16 := C.hL.at 16 (ci := 10) rfl
  unfold f_X5_readPlain_111 at h
  refine az_istore_n C dX5_readPlain_111 rfl (by decide) rfl ?_
  refine az_iload_n C 0 dX5_readPlain_112 rfl ?_
  refine az_iconst (v := (-1)) C dX5_readPlain_113 (by decide) ?_
  refine az_icmp_ne C 119 dX5_readPlain_114 (by decide) (fun c29 => ?_) (fun c29 => ?_)
  · have h := az_f c29 h
    refine az_aload_n C 1 dX5_readPlain_119 rfl ?_
    obtain ⟨q30, e31, h⟩ := az_b h
    refine az_cV (rest := []) (st2 := []) C [] (c_X5_nextToken C.hL G M e31) (by omega) li_X5_42 o15 (by decide) rfl rfl (Nat.le_of_ble_eq_true rfl) dX5_readPlain_120 rfl ?_
    refine az_aload_n C 1 dX5_readPlain_123 rfl ?_
    obtain ⟨q32, e33, h⟩ := az_b h
    refine az_cV (rest := []) (st2 := [.int q32.1]) C [] (c_X5_readSum C.hL G 10 q30 e33) (by omega) li_X5_72 o15 (by decide) rfl rfl (Nat.le_of_ble_eq_true rfl) dX5_readPlain_124 rfl ?_
    refine az_if_ne C 132 dX5_readPlain_127 (by decide) (fun c34 => ?_) (fun c34 => ?_)
    · have h := az_f c34 h
      refine az_aload_n C 1 dX5_readPlain_132 rfl ?_
      refine az_getr (r := 16) C o15 fl_X5_12 rfl rfl dX5_readPlain_133 ?_
      refine az_iload_n C 0 dX5_readPlain_136 rfl ?_
      refine az_iconst (v := 0) C dX5_readPlain_137 (by decide) ?_
      obtain ⟨q35, e36, h⟩ := az_b h
      refine az_cV (rest := []) (st2 := []) C [.int s0, .int 0] (c_X10_addStep C.hL 16 (C.hL.tx 16 rfl) s0 0 q32.2 e36) (by omega) li_X5_103 o16 (by decide) rfl rfl (Nat.le_of_ble_eq_true rfl) dX5_readPlain_138 rfl ?_
      refine az_sub [1, 2] rfl ?_
      exact s_X5_readPlain_141 C hdR G R_X5_readTest hR_X5_readTest x1 q35 r h hp
    · have h := az_t c34 h
      refine az_iconst (v := 0) C dX5_readPlain_130 (by decide) ?_
      obtain rfl := Option.some.inj h
      exact az_zret C dX5_readPlain_131 rfl hp
  · have h := az_t c29 h
    refine az_iconst (v := 0) C dX5_readPlain_117 (by decide) ?_
    obtain rfl := Option.some.inj h
    exact az_zret C dX5_readPlain_118 rfl hp
set_option maxHeartbeats 4000000 in
set_option maxRecDepth 100000 in
theorem s_X5_readPlain_41 {Y : az_Y} {V : az_V} {post : Option Value → az_M → Prop} {dR : Nat} (C : az_C Y V cX5_readPlain 3 RX5 (some .boolean) (dR + 2)) (hdR : 50 ≤ dR) (G : Nat) (R_X5_readTest : az_M → Option (Int32 × az_M)) (hR_X5_readTest : ∀ (M : az_M) (r : (Int32 × az_M)), R_X5_readTest M = some r → az_Ct Y.2.1 V yX5_readTest cX5_readTest 3 (some .boolean) dR [.ref (az_ad V 15)] M (fun v M' => v = some (.int r.1) ∧ M' = r.2)) (x1 : Int32) (M : az_M) (r : (Int32 × az_M)) (h : f_X5_readPlain_41 (az_z V) G R_X5_readTest x1 M = some r) (hp : post (some (.int r.1)) r.2) : AW Y V (az_end Y V post) 3 M 41 [(0, .ref (az_ad V 15)), (1, .int x1)] [] := by
  have o15 := C.hL.at 15 (ci := 5) rfl
  unfold f_X5_readPlain_41 at h
  refine az_aload_n C 0 dX5_readPlain_41 rfl ?_
  refine az_bipush (v := 40) C dX5_readPlain_42 (by decide) ?_
  obtain ⟨q8, e9, h⟩ := az_b h
  refine az_cV (rest := []) (st2 := [.int q8]) C [.int 40] (c_X5_isSign C.hL 40 M e9) (by omega) li_X5_58 o15 (by decide) rfl rfl (Nat.le_of_ble_eq_true rfl) dX5_readPlain_44 rfl ?_
  refine az_if_eq C 59 dX5_readPlain_47 (by decide) (fun c10 => ?_) (fun c10 => ?_)
  · have h := az_t c10 h
    refine az_aload_n C 0 dX5_readPlain_59 rfl ?_
    obtain ⟨q11, e12, h⟩ := az_b h
    refine az_cV (rest := []) (st2 := [.int q11.1]) C [] (c_X5_readSum C.hL G 10 M e12) (by omega) li_X5_72 o15 (by decide) rfl rfl (Nat.le_of_ble_eq_true rfl) dX5_readPlain_60 rfl ?_
    refine az_if_ne C 68 dX5_readPlain_63 (by decide) (fun c13 => ?_) (fun c13 => ?_)
    · have h := az_f c13 h
      refine az_aload_n C 0 dX5_readPlain_68 rfl ?_
      refine az_bipush (v := 60) C dX5_readPlain_69 (by decide) ?_
      obtain ⟨q14, e15, h⟩ := az_b h
      refine az_cV (rest := []) (st2 := [.int q14]) C [.int 60] (c_X5_isSign C.hL 60 q11.2 e15) (by omega) li_X5_58 o15 (by decide) rfl rfl (Nat.le_of_ble_eq_true rfl) dX5_readPlain_71 rfl ?_
      refine az_if_eq C 82 dX5_readPlain_74 (by decide) (fun c16 => ?_) (fun c16 => ?_)
      · have h := az_t c16 h
        refine az_aload_n C 0 dX5_readPlain_82 rfl ?_
        refine az_bipush (v := 62) C dX5_readPlain_83 (by decide) ?_
        obtain ⟨q17, e18, h⟩ := az_b h
        refine az_cV (rest := []) (st2 := [.int q17]) C [.int 62] (c_X5_isSign C.hL 62 q11.2 e18) (by omega) li_X5_58 o15 (by decide) rfl rfl (Nat.le_of_ble_eq_true rfl) dX5_readPlain_85 rfl ?_
        refine az_if_eq C 96 dX5_readPlain_88 (by decide) (fun c19 => ?_) (fun c19 => ?_)
        · have h := az_t c19 h
          refine az_aload_n C 0 dX5_readPlain_96 rfl ?_
          refine az_bipush (v := 61) C dX5_readPlain_97 (by decide) ?_
          obtain ⟨q20, e21, h⟩ := az_b h
          refine az_cV (rest := []) (st2 := [.int q20]) C [.int 61] (c_X5_isSign C.hL 61 q11.2 e21) (by omega) li_X5_58 o15 (by decide) rfl rfl (Nat.le_of_ble_eq_true rfl) dX5_readPlain_99 rfl ?_
          refine az_if_eq C 110 dX5_readPlain_102 (by decide) (fun c22 => ?_) (fun c22 => ?_)
          · have h := az_t c22 h
            refine az_iconst (v := (-1)) C dX5_readPlain_110 (by decide) ?_
            exact s_X5_readPlain_111 C hdR G R_X5_readTest hR_X5_readTest x1 (-1) q11.2 r h hp
          · have h := az_f c22 h
            refine az_bipush (v := 9) C dX5_readPlain_105 (by decide) ?_
            refine az_goto C 111 dX5_readPlain_107 (by decide) ?_
            exact s_X5_readPlain_111 C hdR G R_X5_readTest hR_X5_readTest x1 9 q11.2 r h hp
        · have h := az_f c19 h
          refine az_bipush (v := 8) C dX5_readPlain_91 (by decide) ?_
          refine az_goto C 111 dX5_readPlain_93 (by decide) ?_
          exact s_X5_readPlain_111 C hdR G R_X5_readTest hR_X5_readTest x1 8 q11.2 r h hp
      · have h := az_f c16 h
        refine az_bipush (v := 7) C dX5_readPlain_77 (by decide) ?_
        refine az_goto C 111 dX5_readPlain_79 (by decide) ?_
        exact s_X5_readPlain_111 C hdR G R_X5_readTest hR_X5_readTest x1 7 q11.2 r h hp
    · have h := az_t c13 h
      refine az_iconst (v := 0) C dX5_readPlain_66 (by decide) ?_
      obtain rfl := Option.some.inj h
      exact az_zret C dX5_readPlain_67 rfl hp
  · have h := az_f c10 h
    refine az_aload_n C 0 dX5_readPlain_50 rfl ?_
    obtain ⟨q23, e24, h⟩ := az_b h
    refine az_cV (rest := []) (st2 := [.int q23.1]) C [] (c_X5_readBracketedTest C.hL hdR G R_X5_readTest hR_X5_readTest M e24) (by omega) li_X5_121 o15 (by decide) rfl rfl (Nat.le_of_ble_eq_true rfl) dX5_readPlain_51 rfl ?_
    refine az_if_ne C 141 dX5_readPlain_54 (by decide) (fun c25 => ?_) (fun c25 => ?_)
    · have h := az_f c25 h
      exact s_X5_readPlain_141 C hdR G R_X5_readTest hR_X5_readTest x1 q23.2 r h hp
    · have h := az_t c25 h
      refine az_iconst (v := 0) C dX5_readPlain_57 (by decide) ?_
      obtain rfl := Option.some.inj h
      exact az_zret C dX5_readPlain_58 rfl hp
set_option maxHeartbeats 4000000 in
set_option maxRecDepth 100000 in
theorem s_X5_readPlain_4 {Y : az_Y} {V : az_V} {post : Option Value → az_M → Prop} {dR : Nat} (C : az_C Y V cX5_readPlain 3 RX5 (some .boolean) (dR + 2)) (hdR : 50 ≤ dR) (G : Nat) (R_X5_readTest : az_M → Option (Int32 × az_M)) (hR_X5_readTest : ∀ (M : az_M) (r : (Int32 × az_M)), R_X5_readTest M = some r → az_Ct Y.2.1 V yX5_readTest cX5_readTest 3 (some .boolean) dR [.ref (az_ad V 15)] M (fun v M' => v = some (.int r.1) ∧ M' = r.2)) : ∀ (F : Nat) (x1 : Int32) (x2 : Int32) (M : az_M) (r : (Int32 × az_M)), f_X5_readPlain_4 (az_z V) G R_X5_readTest F x1 x2 M = some r → post (some (.int r.1)) r.2 → AW Y V (az_end Y V post) 3 M 4 [(0, .ref (az_ad V 15)), (1, .int x1), (2, .int x2)] [] := by
  have o15 := C.hL.at 15 (ci := 5) rfl
  intro F
  induction F with
  | zero =>
    intro x1 x2 M r h
    exact absurd (show (none : Option (Int32 × az_M)) = some r from h) (fun q => by cases q)
  | succ F ih =>
    intro x1 x2 M r h hp
    rw [f_X5_readPlain_4] at h
    refine az_iload_n C 2 dX5_readPlain_4 rfl ?_
    refine az_sipush (v := 400) C dX5_readPlain_5 (by decide) ?_
    refine az_icmp_ge C 41 dX5_readPlain_8 (by decide) (fun c1 => ?_) (fun c1 => ?_)
    · have h := az_t c1 h
      refine az_sub [0, 1] rfl ?_
      exact s_X5_readPlain_41 C hdR G R_X5_readTest hR_X5_readTest x1 M r h hp
    · have h := az_f c1 h
      refine az_aload_n C 0 dX5_readPlain_11 rfl ?_
      refine az_lds (i := 8) C (by decide) rfl dX5_readPlain_12 ?_
      obtain ⟨q2, e3, h⟩ := az_b h
      refine az_cV (rest := []) (st2 := [.int q2]) C [.ref (V.2.2.2.2.2 (10 + 8))] (c_X5_wordAmong C.hL G 8 (by decide) M e3) (by omega) li_X5_64 o15 (by decide) rfl rfl (Nat.le_of_ble_eq_true rfl) dX5_readPlain_14 rfl ?_
      refine az_iconst (v := (-1)) C dX5_readPlain_17 (by decide) ?_
      refine az_icmp_eq C 41 dX5_readPlain_18 (by decide) (fun c4 => ?_) (fun c4 => ?_)
      · have h := az_t c4 h
        refine az_sub [0, 1] rfl ?_
        exact s_X5_readPlain_41 C hdR G R_X5_readTest hR_X5_readTest x1 M r h hp
      · have h := az_f c4 h
        refine az_iload_n C 1 dX5_readPlain_21 rfl ?_
        refine az_if_ne C 29 dX5_readPlain_22 (by decide) (fun c5 => ?_) (fun c5 => ?_)
        · have h := az_f c5 h
          refine az_iconst (v := 0) C dX5_readPlain_29 (by decide) ?_
          refine az_sub [0, 2] rfl ?_
          exact s_X5_readPlain_30 C hdR G R_X5_readTest hR_X5_readTest (f_X5_readPlain_4 (az_z V) G R_X5_readTest F) ih x2 0 M r h hp
        · have h := az_t c5 h
          refine az_iconst (v := 1) C dX5_readPlain_25 (by decide) ?_
          refine az_goto C 30 dX5_readPlain_26 (by decide) ?_
          refine az_sub [0, 2] rfl ?_
          exact s_X5_readPlain_30 C hdR G R_X5_readTest hR_X5_readTest (f_X5_readPlain_4 (az_z V) G R_X5_readTest F) ih x2 1 M r h hp
set_option maxHeartbeats 4000000 in
set_option maxRecDepth 100000 in
theorem s_X5_readPlain_e {Y : az_Y} {V : az_V} {post : Option Value → az_M → Prop} {dR : Nat} (C : az_C Y V cX5_readPlain 3 RX5 (some .boolean) (dR + 2)) (hdR : 50 ≤ dR) (G : Nat) (R_X5_readTest : az_M → Option (Int32 × az_M)) (hR_X5_readTest : ∀ (M : az_M) (r : (Int32 × az_M)), R_X5_readTest M = some r → az_Ct Y.2.1 V yX5_readTest cX5_readTest 3 (some .boolean) dR [.ref (az_ad V 15)] M (fun v M' => v = some (.int r.1) ∧ M' = r.2))  (M : az_M) (r : (Int32 × az_M)) (h : f_X5_readPlain (az_z V) G R_X5_readTest M = some r) (hp : post (some (.int r.1)) r.2) : AW Y V (az_end Y V post) 3 M 0 [(0, .ref (az_ad V 15))] [] := by
  unfold f_X5_readPlain at h
  refine az_iconst (v := 0) C dX5_readPlain_0 (by decide) ?_
  refine az_istore_n C dX5_readPlain_1 rfl (by decide) rfl ?_
  refine az_iconst (v := 0) C dX5_readPlain_2 (by decide) ?_
  refine az_istore_n C dX5_readPlain_3 rfl (by decide) rfl ?_
  refine az_sub [2, 1, 0] rfl ?_
  exact s_X5_readPlain_4 C hdR G R_X5_readTest hR_X5_readTest G 0 0 M r h hp
theorem c_X5_readPlain {l : Launch} {V : az_V} {dR : Nat} (hL : az_L V) (hdR : 50 ≤ dR) (G : Nat) (R_X5_readTest : az_M → Option (Int32 × az_M)) (hR_X5_readTest : ∀ (M : az_M) (r : (Int32 × az_M)), R_X5_readTest M = some r → az_Ct l V yX5_readTest cX5_readTest 3 (some .boolean) dR [.ref (az_ad V 15)] M (fun v M' => v = some (.int r.1) ∧ M' = r.2))  (M : az_M) {r : (Int32 × az_M)} (h : f_X5_readPlain (az_z V) G R_X5_readTest M = some r) : az_Ct l V yX5_readPlain cX5_readPlain 3 (some .boolean) (dR + 2) [.ref (az_ad V 15)] M (fun v M' => v = some (.int r.1) ∧ M' = r.2) :=
  az_Ct.of (by decide) (Nat.le_of_ble_eq_true rfl) (fun Y hl _ C => s_X5_readPlain_e C hdR G R_X5_readTest (by rw [hl]; exact hR_X5_readTest) M r h ⟨rfl, rfl⟩)
set_option maxHeartbeats 4000000 in
set_option maxRecDepth 100000 in
theorem s_X5_readBoth_72 {Y : az_Y} {V : az_V} {post : Option Value → az_M → Prop} {dR : Nat} (C : az_C Y V cX5_readBoth 3 RX5 (some .boolean) (dR + 3)) (hdR : 50 ≤ dR) (G : Nat) (R_X5_readTest : az_M → Option (Int32 × az_M)) (hR_X5_readTest : ∀ (M : az_M) (r : (Int32 × az_M)), R_X5_readTest M = some r → az_Ct Y.2.1 V yX5_readTest cX5_readTest 3 (some .boolean) dR [.ref (az_ad V 15)] M (fun v M' => v = some (.int r.1) ∧ M' = r.2))  (M : az_M) (r : (Int32 × az_M)) (h : f_X5_readBoth_72 (az_z V) G R_X5_readTest M = some r) (hp : post (some (.int r.1)) r.2) : AW Y V (az_end Y V post) 3 M 72 [] [] := by
  unfold f_X5_readBoth_72 at h
  refine az_iconst (v := 1) C dX5_readBoth_72 (by decide) ?_
  obtain rfl := Option.some.inj h
  exact az_zret C dX5_readBoth_73 rfl hp
set_option maxHeartbeats 4000000 in
set_option maxRecDepth 100000 in
theorem s_X5_readBoth_11 {Y : az_Y} {V : az_V} {post : Option Value → az_M → Prop} {dR : Nat} (C : az_C Y V cX5_readBoth 3 RX5 (some .boolean) (dR + 3)) (hdR : 50 ≤ dR) (G : Nat) (R_X5_readTest : az_M → Option (Int32 × az_M)) (hR_X5_readTest : ∀ (M : az_M) (r : (Int32 × az_M)), R_X5_readTest M = some r → az_Ct Y.2.1 V yX5_readTest cX5_readTest 3 (some .boolean) dR [.ref (az_ad V 15)] M (fun v M' => v = some (.int r.1) ∧ M' = r.2)) : ∀ (F : Nat) (x1 : Int32) (M : az_M) (r : (Int32 × az_M)), f_X5_readBoth_11 (az_z V) G R_X5_readTest F x1 M = some r → post (some (.int r.1)) r.2 → AW Y V (az_end Y V post) 3 M 11 [(0, .ref (az_ad V 15)), (1, .int x1)] [] := by
  have o15 := C.hL.at 15 (ci := 5) rfl
  have o16 := C.hL.at 16 (ci := 10) rfl
  intro F
  induction F with
  | zero =>
    intro x1 M r h
    exact absurd (show (none : Option (Int32 × az_M)) = some r from h) (fun q => by cases q)
  | succ F ih =>
    intro x1 M r h hp
    rw [f_X5_readBoth_11] at h
    refine az_iload_n C 1 dX5_readBoth_11 rfl ?_
    refine az_sipush (v := 400) C dX5_readBoth_12 (by decide) ?_
    refine az_icmp_ge C 72 dX5_readBoth_15 (by decide) (fun c4 => ?_) (fun c4 => ?_)
    · have h := az_t c4 h
      refine az_sub [] rfl ?_
      exact s_X5_readBoth_72 C hdR G R_X5_readTest hR_X5_readTest M r h hp
    · have h := az_f c4 h
      refine az_aload_n C 0 dX5_readBoth_18 rfl ?_
      refine az_lds (i := 7) C (by decide) rfl dX5_readBoth_19 ?_
      obtain ⟨q5, e6, h⟩ := az_b h
      refine az_cV (rest := []) (st2 := [.int q5]) C [.ref (V.2.2.2.2.2 (10 + 7))] (c_X5_wordAmong C.hL G 7 (by decide) M e6) (by omega) li_X5_64 o15 (by decide) rfl rfl (Nat.le_of_ble_eq_true rfl) dX5_readBoth_21 rfl ?_
      refine az_iconst (v := (-1)) C dX5_readBoth_24 (by decide) ?_
      refine az_icmp_eq C 72 dX5_readBoth_25 (by decide) (fun c7 => ?_) (fun c7 => ?_)
      · have h := az_t c7 h
        refine az_sub [] rfl ?_
        exact s_X5_readBoth_72 C hdR G R_X5_readTest hR_X5_readTest M r h hp
      · have h := az_f c7 h
        refine az_aload_n C 0 dX5_readBoth_28 rfl ?_
        refine az_getr (r := 16) C o15 fl_X5_12 rfl rfl dX5_readBoth_29 ?_
        refine az_geti C o16 fl_X5_26 rfl dX5_readBoth_32 ?_
        refine az_istore_n C dX5_readBoth_35 rfl (by decide) rfl ?_
        refine az_aload_n C 1 dX5_readBoth_36 rfl ?_
        refine az_getr (r := 16) C o15 fl_X5_12 rfl rfl dX5_readBoth_37 ?_
        refine az_bipush (v := 12) C dX5_readBoth_40 (by decide) ?_
        refine az_iconst (v := 0) C dX5_readBoth_42 (by decide) ?_
        obtain ⟨q8, e9, h⟩ := az_b h
        refine az_cV (rest := []) (st2 := []) C [.int 12, .int 0] (c_X10_addStep C.hL 16 (C.hL.tx 16 rfl) 12 0 M e9) (by omega) li_X5_103 o16 (by decide) rfl rfl (Nat.le_of_ble_eq_true rfl) dX5_readBoth_43 rfl ?_
        refine az_aload_n C 1 dX5_readBoth_46 rfl ?_
        obtain ⟨q10, e11, h⟩ := az_b h
        refine az_cV (rest := []) (st2 := []) C [] (c_X5_nextToken C.hL G q8 e11) (by omega) li_X5_42 o15 (by decide) rfl rfl (Nat.le_of_ble_eq_true rfl) dX5_readBoth_47 rfl ?_
        refine az_aload_n C 1 dX5_readBoth_50 rfl ?_
        obtain ⟨q12, e13, h⟩ := az_b h
        refine az_cV (rest := []) (st2 := [.int q12.1]) C [] (c_X5_readPlain C.hL hdR G R_X5_readTest hR_X5_readTest q10 e13) (by omega) li_X5_110 o15 (by decide) rfl rfl (Nat.le_of_ble_eq_true rfl) dX5_readBoth_51 rfl ?_
        refine az_if_ne C 59 dX5_readBoth_54 (by decide) (fun c14 => ?_) (fun c14 => ?_)
        · have h := az_f c14 h
          refine az_aload_n C 1 dX5_readBoth_59 rfl ?_
          refine az_iload_n C 0 dX5_readBoth_60 rfl ?_
          refine az_bipush (v := 12) C dX5_readBoth_61 (by decide) ?_
          obtain ⟨q15, e16, h⟩ := az_b h
          refine az_cV (rest := []) (st2 := []) C [.int (M.1 16 2), .int 12] (c_X5_aimJump C.hL (M.1 16 2) 12 q12.2 e16) (by omega) li_X5_107 o15 (by decide) rfl rfl (Nat.le_of_ble_eq_true rfl) dX5_readBoth_63 rfl ?_
          refine az_iinc (v := (x1 + 1)) C 2 dX5_readBoth_66 rfl rfl (by decide) rfl ?_
          refine az_goto C 11 dX5_readBoth_69 (by decide) ?_
          refine az_sub [2, 0] rfl ?_
          exact ih (x1 + 1) q15 r h hp
        · have h := az_t c14 h
          refine az_iconst (v := 0) C dX5_readBoth_57 (by decide) ?_
          obtain rfl := Option.some.inj h
          exact az_zret C dX5_readBoth_58 rfl hp
set_option maxHeartbeats 4000000 in
set_option maxRecDepth 100000 in
theorem s_X5_readBoth_e {Y : az_Y} {V : az_V} {post : Option Value → az_M → Prop} {dR : Nat} (C : az_C Y V cX5_readBoth 3 RX5 (some .boolean) (dR + 3)) (hdR : 50 ≤ dR) (G : Nat) (R_X5_readTest : az_M → Option (Int32 × az_M)) (hR_X5_readTest : ∀ (M : az_M) (r : (Int32 × az_M)), R_X5_readTest M = some r → az_Ct Y.2.1 V yX5_readTest cX5_readTest 3 (some .boolean) dR [.ref (az_ad V 15)] M (fun v M' => v = some (.int r.1) ∧ M' = r.2))  (M : az_M) (r : (Int32 × az_M)) (h : f_X5_readBoth (az_z V) G R_X5_readTest M = some r) (hp : post (some (.int r.1)) r.2) : AW Y V (az_end Y V post) 3 M 0 [(0, .ref (az_ad V 15))] [] := by
  have o15 := C.hL.at 15 (ci := 5) rfl
  unfold f_X5_readBoth at h
  refine az_aload_n C 0 dX5_readBoth_0 rfl ?_
  obtain ⟨q1, e2, h⟩ := az_b h
  refine az_cV (rest := []) (st2 := [.int q1.1]) C [] (c_X5_readPlain C.hL hdR G R_X5_readTest hR_X5_readTest M e2) (by omega) li_X5_110 o15 (by decide) rfl rfl (Nat.le_of_ble_eq_true rfl) dX5_readBoth_1 rfl ?_
  refine az_if_ne C 9 dX5_readBoth_4 (by decide) (fun c3 => ?_) (fun c3 => ?_)
  · have h := az_f c3 h
    refine az_iconst (v := 0) C dX5_readBoth_9 (by decide) ?_
    refine az_istore_n C dX5_readBoth_10 rfl (by decide) rfl ?_
    refine az_sub [1, 0] rfl ?_
    exact s_X5_readBoth_11 C hdR G R_X5_readTest hR_X5_readTest G 0 q1.2 r h hp
  · have h := az_t c3 h
    refine az_iconst (v := 0) C dX5_readBoth_7 (by decide) ?_
    obtain rfl := Option.some.inj h
    exact az_zret C dX5_readBoth_8 rfl hp
theorem c_X5_readBoth {l : Launch} {V : az_V} {dR : Nat} (hL : az_L V) (hdR : 50 ≤ dR) (G : Nat) (R_X5_readTest : az_M → Option (Int32 × az_M)) (hR_X5_readTest : ∀ (M : az_M) (r : (Int32 × az_M)), R_X5_readTest M = some r → az_Ct l V yX5_readTest cX5_readTest 3 (some .boolean) dR [.ref (az_ad V 15)] M (fun v M' => v = some (.int r.1) ∧ M' = r.2))  (M : az_M) {r : (Int32 × az_M)} (h : f_X5_readBoth (az_z V) G R_X5_readTest M = some r) : az_Ct l V yX5_readBoth cX5_readBoth 3 (some .boolean) (dR + 3) [.ref (az_ad V 15)] M (fun v M' => v = some (.int r.1) ∧ M' = r.2) :=
  az_Ct.of (by decide) (Nat.le_of_ble_eq_true rfl) (fun Y hl _ C => s_X5_readBoth_e C hdR G R_X5_readTest (by rw [hl]; exact hR_X5_readTest) M r h ⟨rfl, rfl⟩)
