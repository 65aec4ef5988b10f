set_option maxHeartbeats 4000000 in
set_option maxRecDepth 100000 in
theorem s_X2_oddsOf_183 {Y : az_Y} {V : az_V} {post : Option Value → az_M → Prop} (C : az_C Y V cX2_oddsOf 8 RX2 (some .int) 5) (G : Nat) (K52 : (Int32 → Int32 → Int32 → Int32 → Int32 → az_M → Option (Int32 × az_M))) (hK52 : ∀ (x1 : Int32) (x2 : Int32) (x3 : Int32) (x4 : Int32) (x5 : Int32) (M : az_M) (r : (Int32 × az_M)), K52 x1 x2 x3 x4 x5 M = some r → post (some (.int r.1)) r.2 → AW Y V (az_end Y V post) 8 M 52 [(0, .ref (az_ad V 28)), (1, .int x1), (2, .int x2), (3, .int x3), (4, .int x4), (5, .int x5)] []) (x1 : Int32) (x2 : Int32) (x3 : Int32) (x4 : Int32) (x5 : Int32) (M : az_M) (r : (Int32 × az_M)) (h : f_X2_oddsOf_183 (az_z V) G K52 x1 x2 x3 x4 x5 M = some r) (hp : post (some (.int r.1)) r.2) : AW Y V (az_end Y V post) 8 M 183 [(0, .ref (az_ad V 28)), (1, .int x1), (2, .int x2), (3, .int x3), (4, .int x4), (5, .int x5)] [] := by
  unfold f_X2_oddsOf_183 at h
  refine az_iinc (v := (x5 + 1)) C 5 dX2_oddsOf_183 rfl rfl (by decide) rfl ?_
  refine az_goto C 52 dX2_oddsOf_186 (by decide) ?_
  refine az_sub [1, 2, 3, 4, 5, 0] rfl ?_
  exact hK52 x1 x2 x3 x4 (x5 + 1) M r h hp
set_option maxHeartbeats 4000000 in
set_option maxRecDepth 100000 in
theorem s_X2_oddsOf_119 {Y : az_Y} {V : az_V} {post : Option Value → az_M → Prop} (C : az_C Y V cX2_oddsOf 8 RX2 (some .int) 5) (G : Nat) (K52 : (Int32 → Int32 → Int32 → Int32 → Int32 → az_M → Option (Int32 × az_M))) (hK52 : ∀ (x1 : Int32) (x2 : Int32) (x3 : Int32) (x4 : Int32) (x5 : Int32) (M : az_M) (r : (Int32 × az_M)), K52 x1 x2 x3 x4 x5 M = some r → post (some (.int r.1)) r.2 → AW Y V (az_end Y V post) 8 M 52 [(0, .ref (az_ad V 28)), (1, .int x1), (2, .int x2), (3, .int x3), (4, .int x4), (5, .int x5)] []) (x1 : Int32) (x2 : Int32) (x3 : Int32) (x4 : Int32) (x5 : Int32) (s0 : Int32) (M : az_M) (r : (Int32 × az_M)) (h : f_X2_oddsOf_119 (az_z V) G K52 x1 x2 x3 x4 x5 s0 M = some r) (hp : post (some (.int r.1)) r.2) : AW Y V (az_end Y V post) 8 M 119 [(0, .ref (az_ad V 28)), (1, .int x1), (2, .int x2), (3, .int x3), (4, .int x4), (5, .int x5)] [.int s0, .ref (az_ad V 31)] := by
  have o19 := C.hL.at 19 (ci := 8) rfl
  have o28 := C.hL.at 28 (ci := 2) rfl
  have a31 := C.hL.ar 31 (t := 0) (len := 145) rfl
  have a32 := C.hL.ar 32 (t := 0) (len := 4) rfl
  unfold f_X2_oddsOf_119 at h
  refine az_iload_n C 1 dX2_oddsOf_119 rfl ?_
  refine az_iadd C dX2_oddsOf_120 ?_
  obtain ⟨g10, h⟩ := az_g h
  refine az_ild (k := (s0 + x1).toNatClampNeg) C a31 g10 rfl dX2_oddsOf_121 ?_
  refine az_istore C dX2_oddsOf_122 (by decide) rfl ?_
  refine az_iload C 5 dX2_oddsOf_124 rfl ?_
  refine az_bipush (v := 10) C dX2_oddsOf_126 (by decide) ?_
  refine az_idiv C dX2_oddsOf_128 (by decide) ?_
  refine az_aload_n C 1 dX2_oddsOf_129 rfl ?_
  refine az_getr (r := 19) C o28 fl_X2_36 rfl rfl dX2_oddsOf_130 ?_
  refine az_aload_n C 1 dX2_oddsOf_133 rfl ?_
  refine az_getr (r := 30) C o28 fl_X2_22 rfl rfl dX2_oddsOf_134 ?_
  refine az_iconst (v := 0) C dX2_oddsOf_137 (by decide) ?_
  refine az_iload C 0 dX2_oddsOf_138 rfl ?_
  refine az_iload_n C 4 dX2_oddsOf_140 rfl ?_
  obtain ⟨q11, e12, h⟩ := az_b h
  refine az_cV (rest := [.int (x4 / 10)]) (st2 := [.int q11.1, .int (x4 / 10)]) C [.ref (az_ad V 30), .int 0, .int (M.1 31 ((s0 + x1).toNatClampNeg)), .int x3] (c_X8_ask C.hL G 30 (C.hL.pv 30 rfl) 0 (M.1 31 ((s0 + x1).toNatClampNeg)) x3 M e12) (by decide) li_X2_52 o19 (by decide) rfl rfl (Nat.le_of_ble_eq_true rfl) dX2_oddsOf_141 rfl ?_
  refine az_imul C dX2_oddsOf_144 ?_
  refine az_istore C dX2_oddsOf_145 (by decide) rfl ?_
  refine az_aload_n C 2 dX2_oddsOf_147 rfl ?_
  refine az_getr (r := 32) C o28 fl_X2_26 rfl rfl dX2_oddsOf_148 ?_
  refine az_iconst (v := 1) C dX2_oddsOf_151 (by decide) ?_
  refine az_iload C 7 dX2_oddsOf_152 rfl ?_
  refine az_iconst (v := 2) C dX2_oddsOf_154 (by decide) ?_
  refine az_irem2 C dX2_oddsOf_155 (by decide) ?_
  refine az_iadd C dX2_oddsOf_156 ?_
  refine az_dup2 C dX2_oddsOf_157 rfl rfl ?_
  obtain ⟨g13, h⟩ := az_g h
  refine az_ild (k := (1 + (az_rem x5 2)).toNatClampNeg) C a32 g13 rfl dX2_oddsOf_158 ?_
  refine az_iload C 0 dX2_oddsOf_159 rfl ?_
  refine az_iadd C dX2_oddsOf_161 ?_
  obtain ⟨g14, h⟩ := az_g h
  refine az_ist (k := (1 + (az_rem x5 2)).toNatClampNeg) C a32 g14 rfl dX2_oddsOf_162 ?_
  refine az_iload C 6 dX2_oddsOf_163 rfl ?_
  refine az_iload C 0 dX2_oddsOf_165 rfl ?_
  refine az_isub C dX2_oddsOf_167 ?_
  refine az_istore C dX2_oddsOf_168 (by decide) rfl ?_
  refine az_aload_n C 3 dX2_oddsOf_170 rfl ?_
  refine az_getr (r := 19) C o28 fl_X2_36 rfl rfl dX2_oddsOf_171 ?_
  refine az_aload_n C 3 dX2_oddsOf_174 rfl ?_
  refine az_getr (r := 30) C o28 fl_X2_22 rfl rfl dX2_oddsOf_175 ?_
  refine az_iconst (v := (-1)) C dX2_oddsOf_178 (by decide) ?_
  refine az_iload_n C 6 dX2_oddsOf_179 rfl ?_
  obtain ⟨q15, e16, h⟩ := az_b h
  refine az_cV (rest := []) (st2 := []) C [.ref (az_ad V 30), .int (-1), .int x3] (c_X8_shoot C.hL G 30 (C.hL.pv 30 rfl) (-1) x3 (az_i q11.2 32 ((1 + (az_rem x5 2)).toNatClampNeg) ((q11.2.1 32 ((1 + (az_rem x5 2)).toNatClampNeg)) + ((x4 / 10) * q11.1))) e16) (by decide) li_X2_58 o19 (by decide) rfl rfl (Nat.le_of_ble_eq_true rfl) dX2_oddsOf_180 rfl ?_
  refine az_sub [3, 4, 5, 6, 0, 7] rfl ?_
  exact s_X2_oddsOf_183 C G K52 hK52 x1 x2 x3 (x4 - ((x4 / 10) * q11.1)) x5 q15 r h hp
set_option maxHeartbeats 4000000 in
set_option maxRecDepth 100000 in
theorem s_X2_oddsOf_189 {Y : az_Y} {V : az_V} {post : Option Value → az_M → Prop} (C : az_C Y V cX2_oddsOf 8 RX2 (some .int) 5) (G : Nat) (x2 : Int32) (x4 : Int32) (M : az_M) (r : (Int32 × az_M)) (h : f_X2_oddsOf_189 (az_z V) G x2 x4 M = some r) (hp : post (some (.int r.1)) r.2) : AW Y V (az_end Y V post) 8 M 189 [(0, .ref (az_ad V 28)), (2, .int x2), (4, .int x4)] [] := by
  have o28 := C.hL.at 28 (ci := 2) rfl
  have a32 := C.hL.ar 32 (t := 0) (len := 4) rfl
  unfold f_X2_oddsOf_189 at h
  refine az_aload_n C 0 dX2_oddsOf_189 rfl ?_
  refine az_getr (r := 32) C o28 fl_X2_26 rfl rfl dX2_oddsOf_190 ?_
  refine az_iconst (v := 0) C dX2_oddsOf_193 (by decide) ?_
  refine az_iload C 2 dX2_oddsOf_194 rfl ?_
  refine az_ist (k := 0) C a32 (az_vin (by decide)) (by decide) dX2_oddsOf_196 ?_
  refine az_aload_n C 0 dX2_oddsOf_197 rfl ?_
  refine az_getr (r := 32) C o28 fl_X2_26 rfl rfl dX2_oddsOf_198 ?_
  refine az_iload_n C 1 dX2_oddsOf_201 rfl ?_
  obtain ⟨g17, h⟩ := az_g h
  refine az_ild (k := x2.toNatClampNeg) C a32 g17 rfl dX2_oddsOf_202 ?_
  obtain rfl := Option.some.inj h
  exact az_iret C dX2_oddsOf_203 hp
set_option maxHeartbeats 4000000 in
set_option maxRecDepth 100000 in
theorem s_X2_oddsOf_52 {Y : az_Y} {V : az_V} {post : Option Value → az_M → Prop} (C : az_C Y V cX2_oddsOf 8 RX2 (some .int) 5) (G : Nat) : ∀ (F : Nat) (x1 : Int32) (x2 : Int32) (x3 : Int32) (x4 : Int32) (x5 : Int32) (M : az_M) (r : (Int32 × az_M)), f_X2_oddsOf_52 (az_z V) G F x1 x2 x3 x4 x5 M = some r → post (some (.int r.1)) r.2 → AW Y V (az_end Y V post) 8 M 52 [(0, .ref (az_ad V 28)), (1, .int x1), (2, .int x2), (3, .int x3), (4, .int x4), (5, .int x5)] [] := by
  have o28 := C.hL.at 28 (ci := 2) rfl
  have o30 := C.hL.at 30 (ci := 4) rfl
  have a31 := C.hL.ar 31 (t := 0) (len := 145) rfl
  have a32 := C.hL.ar 32 (t := 0) (len := 4) rfl
  intro F
  induction F with
  | zero =>
    intro x1 x2 x3 x4 x5 M r h
    exact absurd (show (none : Option (Int32 × az_M)) = some r from h) (fun q => by cases q)
  | succ F ih =>
    intro x1 x2 x3 x4 x5 M r h hp
    rw [f_X2_oddsOf_52] at h
    refine az_iload C 5 dX2_oddsOf_52 rfl ?_
    refine az_iconst (v := 2) C dX2_oddsOf_54 (by decide) ?_
    refine az_aload_n C 0 dX2_oddsOf_55 rfl ?_
    refine az_getr (r := 30) C o28 fl_X2_22 rfl rfl dX2_oddsOf_56 ?_
    refine az_getr (r := 31) C o30 fl_X2_44 rfl rfl dX2_oddsOf_59 ?_
    refine az_bipush (v := 17) C dX2_oddsOf_62 (by decide) ?_
    refine az_ild (k := 17) C a31 (az_vin (by decide)) (by decide) dX2_oddsOf_64 ?_
    refine az_imul C dX2_oddsOf_65 ?_
    refine az_icmp_ge C 189 dX2_oddsOf_66 (by decide) (fun c4 => ?_) (fun c4 => ?_)
    · have h := az_t c4 h
      refine az_sub [0, 2, 4] rfl ?_
      exact s_X2_oddsOf_189 C G x2 x4 M r h hp
    · have h := az_f c4 h
      refine az_iload C 4 dX2_oddsOf_69 rfl ?_
      refine az_if_le C 189 dX2_oddsOf_71 (by decide) (fun c5 => ?_) (fun c5 => ?_)
      · have h := az_t c5 h
        refine az_sub [0, 2, 4] rfl ?_
        exact s_X2_oddsOf_189 C G x2 x4 M r h hp
      · have h := az_f c5 h
        refine az_aload_n C 0 dX2_oddsOf_74 rfl ?_
        refine az_getr (r := 30) C o28 fl_X2_22 rfl rfl dX2_oddsOf_75 ?_
        obtain ⟨q6, e7, h⟩ := az_b h
        refine az_cV (rest := []) (st2 := [.int q6]) C [] (c_X4_canBeFired C.hL 30 (C.hL.pv 30 rfl) M e7) (by decide) li_X2_48 o30 (by decide) rfl rfl (Nat.le_of_ble_eq_true rfl) dX2_oddsOf_78 rfl ?_
        refine az_if_ne C 98 dX2_oddsOf_81 (by decide) (fun c8 => ?_) (fun c8 => ?_)
        · have h := az_f c8 h
          refine az_aload_n C 0 dX2_oddsOf_98 rfl ?_
          refine az_getr (r := 30) C o28 fl_X2_22 rfl rfl dX2_oddsOf_99 ?_
          refine az_getr (r := 31) C o30 fl_X2_44 rfl rfl dX2_oddsOf_102 ?_
          refine az_iload C 5 dX2_oddsOf_105 rfl ?_
          refine az_iconst (v := 2) C dX2_oddsOf_107 (by decide) ?_
          refine az_irem2 C dX2_oddsOf_108 (by decide) ?_
          refine az_if_ne C 117 dX2_oddsOf_109 (by decide) (fun c9 => ?_) (fun c9 => ?_)
          · have h := az_f c9 h
            refine az_bipush (v := 100) C dX2_oddsOf_117 (by decide) ?_
            exact s_X2_oddsOf_119 C G (f_X2_oddsOf_52 (az_z V) G F) ih x1 x2 x3 x4 x5 100 M r h hp
          · have h := az_t c9 h
            refine az_bipush (v := 93) C dX2_oddsOf_112 (by decide) ?_
            refine az_goto C 119 dX2_oddsOf_114 (by decide) ?_
            exact s_X2_oddsOf_119 C G (f_X2_oddsOf_52 (az_z V) G F) ih x1 x2 x3 x4 x5 93 M r h hp
        · have h := az_t c8 h
          refine az_aload_n C 0 dX2_oddsOf_84 rfl ?_
          refine az_getr (r := 32) C o28 fl_X2_26 rfl rfl dX2_oddsOf_85 ?_
          refine az_iconst (v := 3) C dX2_oddsOf_88 (by decide) ?_
          refine az_iload C 4 dX2_oddsOf_89 rfl ?_
          refine az_ist (k := 3) C a32 (az_vin (by decide)) (by decide) dX2_oddsOf_91 ?_
          refine az_iconst (v := 0) C dX2_oddsOf_92 (by decide) ?_
          refine az_istore C dX2_oddsOf_93 (by decide) rfl ?_
          refine az_goto C 183 dX2_oddsOf_95 (by decide) ?_
          refine az_sub [1, 2, 3, 4, 0, 5] rfl ?_
          exact s_X2_oddsOf_183 C G (f_X2_oddsOf_52 (az_z V) G F) ih x1 x2 x3 0 x5 (az_i M 32 3 x4) r h hp
set_option maxHeartbeats 4000000 in
set_option maxRecDepth 100000 in
theorem s_X2_oddsOf_e {Y : az_Y} {V : az_V} {post : Option Value → az_M → Prop} (C : az_C Y V cX2_oddsOf 8 RX2 (some .int) 5) (G : Nat) (p0 : Int32) (p1 : Int32) (M : az_M) (r : (Int32 × az_M)) (h : f_X2_oddsOf (az_z V) G p0 p1 M = some r) (hp : post (some (.int r.1)) r.2) : AW Y V (az_end Y V post) 8 M 0 [(0, .ref (az_ad V 28)), (1, .int p0), (2, .int p1)] [] := by
  have o28 := C.hL.at 28 (ci := 2) rfl
  have o30 := C.hL.at 30 (ci := 4) rfl
  have a31 := C.hL.ar 31 (t := 0) (len := 145) rfl
  have a32 := C.hL.ar 32 (t := 0) (len := 4) rfl
  unfold f_X2_oddsOf at h
  refine az_aload_n C 0 dX2_oddsOf_0 rfl ?_
  refine az_getr (r := 30) C o28 fl_X2_22 rfl rfl dX2_oddsOf_1 ?_
  refine az_aload_n C 0 dX2_oddsOf_4 rfl ?_
  refine az_getr (r := 1) C o28 fl_X2_33 rfl rfl dX2_oddsOf_5 ?_
  obtain ⟨q1, e2, h⟩ := az_b h
  refine az_cV (rest := []) (st2 := []) C [.ref (az_ad V 1)] (c_X4_copy C.hL 30 (C.hL.pv 30 rfl) 1 (C.hL.pv 1 rfl) M e2) (by decide) li_X2_40 o30 (by decide) rfl rfl (Nat.le_of_ble_eq_true rfl) dX2_oddsOf_8 rfl ?_
  refine az_aload_n C 0 dX2_oddsOf_11 rfl ?_
  refine az_getr (r := 30) C o28 fl_X2_22 rfl rfl dX2_oddsOf_12 ?_
  refine az_getr (r := 31) C o30 fl_X2_44 rfl rfl dX2_oddsOf_15 ?_
  refine az_bipush (v := 107) C dX2_oddsOf_18 (by decide) ?_
  refine az_iload_n C 1 dX2_oddsOf_20 rfl ?_
  refine az_iadd C dX2_oddsOf_21 ?_
  obtain ⟨g3, h⟩ := az_g h
  refine az_ild (k := (107 + p0).toNatClampNeg) C a31 g3 rfl dX2_oddsOf_22 ?_
  refine az_istore_n C dX2_oddsOf_23 rfl (by decide) rfl ?_
  refine az_ldc C ck_X2_47 dX2_oddsOf_24 ?_
  refine az_istore C dX2_oddsOf_26 (by decide) rfl ?_
  refine az_aload_n C 2 dX2_oddsOf_28 rfl ?_
  refine az_getr (r := 32) C o28 fl_X2_26 rfl rfl dX2_oddsOf_29 ?_
  refine az_iconst (v := 1) C dX2_oddsOf_32 (by decide) ?_
  refine az_iconst (v := 0) C dX2_oddsOf_33 (by decide) ?_
  refine az_ist (k := 1) C a32 (az_vin (by decide)) (by decide) dX2_oddsOf_34 ?_
  refine az_aload_n C 2 dX2_oddsOf_35 rfl ?_
  refine az_getr (r := 32) C o28 fl_X2_26 rfl rfl dX2_oddsOf_36 ?_
  refine az_iconst (v := 2) C dX2_oddsOf_39 (by decide) ?_
  refine az_iconst (v := 0) C dX2_oddsOf_40 (by decide) ?_
  refine az_ist (k := 2) C a32 (az_vin (by decide)) (by decide) dX2_oddsOf_41 ?_
  refine az_aload_n C 2 dX2_oddsOf_42 rfl ?_
  refine az_getr (r := 32) C o28 fl_X2_26 rfl rfl dX2_oddsOf_43 ?_
  refine az_iconst (v := 3) C dX2_oddsOf_46 (by decide) ?_
  refine az_iconst (v := 0) C dX2_oddsOf_47 (by decide) ?_
  refine az_ist (k := 3) C a32 (az_vin (by decide)) (by decide) dX2_oddsOf_48 ?_
  refine az_iconst (v := 0) C dX2_oddsOf_49 (by decide) ?_
  refine az_istore C dX2_oddsOf_50 (by decide) rfl ?_
  refine az_sub [3, 4, 5, 2, 1, 0] rfl ?_
  exact s_X2_oddsOf_52 C G G p0 p1 (q1.1 31 ((107 + p0).toNatClampNeg)) 100000000 0 (az_i (az_i (az_i q1 32 1 0) 32 2 0) 32 3 0) r h hp
theorem c_X2_oddsOf {l : Launch} {V : az_V} (hL : az_L V) (G : Nat) (p0 : Int32) (p1 : Int32) (M : az_M) {r : (Int32 × az_M)} (h : f_X2_oddsOf (az_z V) G p0 p1 M = some r) : az_Ct l V yX2_oddsOf cX2_oddsOf 8 (some .int) 5 [.ref (az_ad V 28), .int p0, .int p1] M (fun v M' => v = some (.int r.1) ∧ M' = r.2) :=
  az_Ct.of (by decide) (Nat.le_of_ble_eq_true rfl) (fun Y _ _ C => s_X2_oddsOf_e C G p0 p1 M r h ⟨rfl, rfl⟩)
set_option maxHeartbeats 4000000 in
set_option maxRecDepth 100000 in
theorem s_X2_areFree_71 {Y : az_Y} {V : az_V} {post : Option Value → az_M → Prop} (C : az_C Y V cX2_areFree 5 RX2 (some .boolean) 1) (G : Nat) (K4 : (Int32 → Int32 → Int32 → az_M → Option Int32)) (hK4 : ∀ (x1 : Int32) (x2 : Int32) (x3 : Int32) (M : az_M) (r : Int32), K4 x1 x2 x3 M = some r → post (some (.int r)) M → AW Y V (az_end Y V post) 5 M 4 [(0, .ref (az_ad V 28)), (1, .int x1), (2, .int x2), (3, .int x3)] []) (x1 : Int32) (x2 : Int32) (x3 : Int32) (M : az_M) (r : Int32) (h : f_X2_areFree_71 G K4 x1 x2 x3 M = some r) (hp : post (some (.int r)) M) : AW Y V (az_end Y V post) 5 M 71 [(0, .ref (az_ad V 28)), (1, .int x1), (2, .int x2), (3, .int x3)] [] := by
  unfold f_X2_areFree_71 at h
  refine az_iinc (v := (x3 + 1)) C 3 dX2_areFree_71 rfl rfl (by decide) rfl ?_
  refine az_goto C 4 dX2_areFree_74 (by decide) ?_
  refine az_sub [1, 2, 3, 0] rfl ?_
  exact hK4 x1 x2 (x3 + 1) M r h hp
set_option maxHeartbeats 4000000 in
set_option maxRecDepth 100000 in
theorem s_X2_areFree_4 {Y : az_Y} {V : az_V} {post : Option Value → az_M → Prop} (C : az_C Y V cX2_areFree 5 RX2 (some .boolean) 1) (G : Nat) : ∀ (F : Nat) (x1 : Int32) (x2 : Int32) (x3 : Int32) (M : az_M) (r : Int32), f_X2_areFree_4 G F x1 x2 x3 M = some r → post (some (.int r)) M → AW Y V (az_end Y V post) 5 M 4 [(0, .ref (az_ad V 28)), (1, .int x1), (2, .int x2), (3, .int x3)] [] := by
  have o1 := C.hL.at 1 (ci := 4) rfl
  have o28 := C.hL.at 28 (ci := 2) rfl
  have a2 := C.hL.ar 2 (t := 0) (len := 145) rfl
  intro F
  induction F with
  | zero =>
    intro x1 x2 x3 M r h
    exact absurd (show (none : Option Int32) = some r from h) (fun q => by cases q)
  | succ F ih =>
    intro x1 x2 x3 M r h hp
    rw [f_X2_areFree_4] at h
    refine az_iload_n C 3 dX2_areFree_4 rfl ?_
    refine az_aload_n C 0 dX2_areFree_5 rfl ?_
    refine az_getr (r := 1) C o28 fl_X2_33 rfl rfl dX2_areFree_6 ?_
    refine az_getr (r := 2) C o1 fl_X2_44 rfl rfl dX2_areFree_9 ?_
    refine az_bipush (v := 25) C dX2_areFree_12 (by decide) ?_
    refine az_ild (k := 25) C a2 (az_vin (by decide)) (by decide) dX2_areFree_14 ?_
    refine az_icmp_ge C 77 dX2_areFree_15 (by decide) (fun c1 => ?_) (fun c1 => ?_)
    · have h := az_t c1 h
      refine az_iconst (v := 1) C dX2_areFree_77 (by decide) ?_
      obtain rfl := Option.some.inj h
      exact az_zret C dX2_areFree_78 rfl hp
    · have h := az_f c1 h
      refine az_iload_n C 1 dX2_areFree_18 rfl ?_
      refine az_iload_n C 3 dX2_areFree_19 rfl ?_
      refine az_ishr C dX2_areFree_20 ?_
      refine az_iconst (v := 1) C dX2_areFree_21 (by decide) ?_
      refine az_iand C dX2_areFree_22 ?_
      refine az_if_eq C 71 dX2_areFree_23 (by decide) (fun c2 => ?_) (fun c2 => ?_)
      · have h := az_t c2 h
        exact s_X2_areFree_71 C G (f_X2_areFree_4 G F) ih x1 x2 x3 M r h hp
      · have h := az_f c2 h
        refine az_iconst (v := 1) C dX2_areFree_26 (by decide) ?_
        refine az_aload_n C 0 dX2_areFree_27 rfl ?_
        refine az_getr (r := 1) C o28 fl_X2_33 rfl rfl dX2_areFree_28 ?_
        refine az_getr (r := 2) C o1 fl_X2_44 rfl rfl dX2_areFree_31 ?_
        refine az_bipush (v := 93) C dX2_areFree_34 (by decide) ?_
        refine az_iload_n C 3 dX2_areFree_36 rfl ?_
        refine az_iadd C dX2_areFree_37 ?_
        obtain ⟨g3, h⟩ := az_g h
        refine az_ild (k := (93 + x3).toNatClampNeg) C a2 g3 rfl dX2_areFree_38 ?_
        refine az_ishl C dX2_areFree_39 ?_
        refine az_iconst (v := 1) C dX2_areFree_40 (by decide) ?_
        refine az_aload_n C 0 dX2_areFree_41 rfl ?_
        refine az_getr (r := 1) C o28 fl_X2_33 rfl rfl dX2_areFree_42 ?_
        refine az_getr (r := 2) C o1 fl_X2_44 rfl rfl dX2_areFree_45 ?_
        refine az_bipush (v := 100) C dX2_areFree_48 (by decide) ?_
        refine az_iload_n C 3 dX2_areFree_50 rfl ?_
        refine az_iadd C dX2_areFree_51 ?_
        obtain ⟨g4, h⟩ := az_g h
        refine az_ild (k := (100 + x3).toNatClampNeg) C a2 g4 rfl dX2_areFree_52 ?_
        refine az_ishl C dX2_areFree_53 ?_
        refine az_ior C dX2_areFree_54 ?_
        refine az_istore C dX2_areFree_55 (by decide) rfl ?_
        refine az_iload_n C 3 dX2_areFree_57 rfl ?_
        refine az_iload C 0 dX2_areFree_58 rfl ?_
        refine az_iand C dX2_areFree_60 ?_
        refine az_if_eq C 66 dX2_areFree_61 (by decide) (fun c5 => ?_) (fun c5 => ?_)
        · have h := az_t c5 h
          refine az_iload_n C 3 dX2_areFree_66 rfl ?_
          refine az_iload C 0 dX2_areFree_67 rfl ?_
          refine az_ior C dX2_areFree_69 ?_
          refine az_istore_n C dX2_areFree_70 rfl (by decide) rfl ?_
          refine az_sub [2, 3, 0, 4] rfl ?_
          exact s_X2_areFree_71 C G (f_X2_areFree_4 G F) ih x1 (x2 ||| ((1 <<< ((M.1 2 ((93 + x3).toNatClampNeg)) &&& 31)) ||| (1 <<< ((M.1 2 ((100 + x3).toNatClampNeg)) &&& 31)))) x3 M r h hp
        · have h := az_f c5 h
          refine az_iconst (v := 0) C dX2_areFree_64 (by decide) ?_
          obtain rfl := Option.some.inj h
          exact az_zret C dX2_areFree_65 rfl hp
set_option maxHeartbeats 4000000 in
set_option maxRecDepth 100000 in
theorem s_X2_areFree_e {Y : az_Y} {V : az_V} {post : Option Value → az_M → Prop} (C : az_C Y V cX2_areFree 5 RX2 (some .boolean) 1) (G : Nat) (p0 : Int32) (M : az_M) (r : Int32) (h : f_X2_areFree G p0 M = some r) (hp : post (some (.int r)) M) : AW Y V (az_end Y V post) 5 M 0 [(0, .ref (az_ad V 28)), (1, .int p0)] [] := by
  unfold f_X2_areFree at h
  refine az_iconst (v := 0) C dX2_areFree_0 (by decide) ?_
  refine az_istore_n C dX2_areFree_1 rfl (by decide) rfl ?_
  refine az_iconst (v := 0) C dX2_areFree_2 (by decide) ?_
  refine az_istore_n C dX2_areFree_3 rfl (by decide) rfl ?_
  refine az_sub [2, 3, 1, 0] rfl ?_
  exact s_X2_areFree_4 C G G p0 0 0 M r h hp
theorem c_X2_areFree {l : Launch} {V : az_V} (hL : az_L V) (G : Nat) (p0 : Int32) (M : az_M) {r : Int32} (h : f_X2_areFree G p0 M = some r) : az_Ct l V yX2_areFree cX2_areFree 5 (some .boolean) 1 [.ref (az_ad V 28), .int p0] M (fun v M' => v = some (.int r) ∧ M' = M) :=
  az_Ct.of (by decide) (Nat.le_of_ble_eq_true rfl) (fun Y _ _ C => s_X2_areFree_e C G p0 M r h ⟨rfl, rfl⟩)
set_option maxHeartbeats 4000000 in
set_option maxRecDepth 100000 in
theorem s_X2_freeQuarrels_41 {Y : az_Y} {V : az_V} {post : Option Value → az_M → Prop} (C : az_C Y V cX2_freeQuarrels 3 RX2 (some .int) 2) (G : Nat) (K4 : (Int32 → Int32 → az_M → Option Int32)) (hK4 : ∀ (x1 : Int32) (x2 : Int32) (M : az_M) (r : Int32), K4 x1 x2 M = some r → post (some (.int r)) M → AW Y V (az_end Y V post) 3 M 4 [(0, .ref (az_ad V 28)), (1, .int x1), (2, .int x2)] []) (x1 : Int32) (x2 : Int32) (M : az_M) (r : Int32) (h : f_X2_freeQuarrels_41 G K4 x1 x2 M = some r) (hp : post (some (.int r)) M) : AW Y V (az_end Y V post) 3 M 41 [(0, .ref (az_ad V 28)), (1, .int x1), (2, .int x2)] [] := by
  unfold f_X2_freeQuarrels_41 at h
  refine az_iinc (v := (x2 + 1)) C 2 dX2_freeQuarrels_41 rfl rfl (by decide) rfl ?_
  refine az_goto C 4 dX2_freeQuarrels_44 (by decide) ?_
  refine az_sub [1, 2, 0] rfl ?_
  exact hK4 x1 (x2 + 1) M r h hp
set_option maxHeartbeats 4000000 in
set_option maxRecDepth 100000 in
theorem s_X2_freeQuarrels_4 {Y : az_Y} {V : az_V} {post : Option Value → az_M → Prop} (C : az_C Y V cX2_freeQuarrels 3 RX2 (some .int) 2) (G : Nat) : ∀ (F : Nat) (x1 : Int32) (x2 : Int32) (M : az_M) (r : Int32), f_X2_freeQuarrels_4 G F x1 x2 M = some r → post (some (.int r)) M → AW Y V (az_end Y V post) 3 M 4 [(0, .ref (az_ad V 28)), (1, .int x1), (2, .int x2)] [] := by
  have o1 := C.hL.at 1 (ci := 4) rfl
  have o28 := C.hL.at 28 (ci := 2) rfl
  have a2 := C.hL.ar 2 (t := 0) (len := 145) rfl
  intro F
  induction F with
  | zero =>
    intro x1 x2 M r h
    exact absurd (show (none : Option Int32) = some r from h) (fun q => by cases q)
  | succ F ih =>
    intro x1 x2 M r h hp
    rw [f_X2_freeQuarrels_4] at h
    refine az_iload_n C 2 dX2_freeQuarrels_4 rfl ?_
    refine az_iconst (v := 1) C dX2_freeQuarrels_5 (by decide) ?_
    refine az_aload_n C 0 dX2_freeQuarrels_6 rfl ?_
    refine az_getr (r := 1) C o28 fl_X2_33 rfl rfl dX2_freeQuarrels_7 ?_
    refine az_getr (r := 2) C o1 fl_X2_44 rfl rfl dX2_freeQuarrels_10 ?_
    refine az_bipush (v := 25) C dX2_freeQuarrels_13 (by decide) ?_
    refine az_ild (k := 25) C a2 (az_vin (by decide)) (by decide) dX2_freeQuarrels_15 ?_
    refine az_ishl C dX2_freeQuarrels_16 ?_
    refine az_icmp_ge C 47 dX2_freeQuarrels_17 (by decide) (fun c1 => ?_) (fun c1 => ?_)
    · have h := az_t c1 h
      refine az_iload_n C 1 dX2_freeQuarrels_47 rfl ?_
      obtain rfl := Option.some.inj h
      exact az_iret C dX2_freeQuarrels_48 hp
    · have h := az_f c1 h
      refine az_iload_n C 2 dX2_freeQuarrels_20 rfl ?_
      obtain ⟨q2, e3, h⟩ := az_b h
      refine az_cS (rest := []) (st2 := [.int q2]) C [.int x2] (c_J6_bitCount_0f7a4 C.hL x2 M e3) (by decide) li_X2_62 rfl rfl (Nat.le_of_ble_eq_true rfl) dX2_freeQuarrels_21 rfl ?_
      refine az_iload_n C 1 dX2_freeQuarrels_24 rfl ?_
      obtain ⟨q4, e5, h⟩ := az_b h
      refine az_cS (rest := [.int q2]) (st2 := [.int q4, .int q2]) C [.int x1] (c_J6_bitCount_0f7a4 C.hL x1 M e5) (by decide) li_X2_62 rfl rfl (Nat.le_of_ble_eq_true rfl) dX2_freeQuarrels_25 rfl ?_
      refine az_icmp_le C 41 dX2_freeQuarrels_28 (by decide) (fun c6 => ?_) (fun c6 => ?_)
      · have h := az_t c6 h
        exact s_X2_freeQuarrels_41 C G (f_X2_freeQuarrels_4 G F) ih x1 x2 M r h hp
      · have h := az_f c6 h
        refine az_aload_n C 0 dX2_freeQuarrels_31 rfl ?_
        refine az_iload_n C 2 dX2_freeQuarrels_32 rfl ?_
        obtain ⟨q7, e8, h⟩ := az_b h
        refine az_cV (rest := []) (st2 := [.int q7]) C [.int x2] (c_X2_areFree C.hL G x2 M e8) (by decide) li_X2_68 o28 (by decide) rfl rfl (Nat.le_of_ble_eq_true rfl) dX2_freeQuarrels_33 rfl ?_
        refine az_if_eq C 41 dX2_freeQuarrels_36 (by decide) (fun c9 => ?_) (fun c9 => ?_)
        · have h := az_t c9 h
          exact s_X2_freeQuarrels_41 C G (f_X2_freeQuarrels_4 G F) ih x1 x2 M r h hp
        · have h := az_f c9 h
          refine az_iload_n C 2 dX2_freeQuarrels_39 rfl ?_
          refine az_istore_n C dX2_freeQuarrels_40 rfl (by decide) rfl ?_
          refine az_sub [1, 0, 2] rfl ?_
          exact s_X2_freeQuarrels_41 C G (f_X2_freeQuarrels_4 G F) ih x2 x2 M r h hp
set_option maxHeartbeats 4000000 in
set_option maxRecDepth 100000 in
theorem s_X2_freeQuarrels_e {Y : az_Y} {V : az_V} {post : Option Value → az_M → Prop} (C : az_C Y V cX2_freeQuarrels 3 RX2 (some .int) 2) (G : Nat)  (M : az_M) (r : Int32) (h : f_X2_freeQuarrels G M = some r) (hp : post (some (.int r)) M) : AW Y V (az_end Y V post) 3 M 0 [(0, .ref (az_ad V 28))] [] := by
  unfold f_X2_freeQuarrels at h
  refine az_iconst (v := 0) C dX2_freeQuarrels_0 (by decide) ?_
  refine az_istore_n C dX2_freeQuarrels_1 rfl (by decide) rfl ?_
  refine az_iconst (v := 1) C dX2_freeQuarrels_2 (by decide) ?_
  refine az_istore_n C dX2_freeQuarrels_3 rfl (by decide) rfl ?_
  refine az_sub [2, 1, 0] rfl ?_
  exact s_X2_freeQuarrels_4 C G G 0 1 M r h hp
theorem c_X2_freeQuarrels {l : Launch} {V : az_V} (hL : az_L V) (G : Nat)  (M : az_M) {r : Int32} (h : f_X2_freeQuarrels G M = some r) : az_Ct l V yX2_freeQuarrels cX2_freeQuarrels 3 (some .int) 2 [.ref (az_ad V 28)] M (fun v M' => v = some (.int r) ∧ M' = M) :=
  az_Ct.of (by decide) (Nat.le_of_ble_eq_true rfl) (fun Y _ _ C => s_X2_freeQuarrels_e C G M r h ⟨rfl, rfl⟩)
set_option maxHeartbeats 4000000 in
set_option maxRecDepth 100000 in
theorem s_X2_winsInto_77 {Y : az_Y} {V : az_V} {post : Option Value → az_M → Prop} (C : az_C Y V cX2_winsInto 4 RX2 (some .boolean) 4) (G : Nat) (s0 : Int32) (M : az_M) (r : (Int32 × az_M)) (h : f_X2_winsInto_77 (az_z V) G s0 M = some r) (hp : post (some (.int r.1)) r.2) : AW Y V (az_end Y V post) 4 M 77 [] [.int s0] := by
  unfold f_X2_winsInto_77 at h
  obtain ⟨g9, h⟩ := az_g2 h
  obtain rfl := Option.some.inj h
  exact az_zret C dX2_winsInto_77 (az_nz g9) hp
set_option maxHeartbeats 4000000 in
set_option maxRecDepth 100000 in
theorem s_X2_winsInto_76 {Y : az_Y} {V : az_V} {post : Option Value → az_M → Prop} (C : az_C Y V cX2_winsInto 4 RX2 (some .boolean) 4) (G : Nat)  (M : az_M) (r : (Int32 × az_M)) (h : f_X2_winsInto_76 (az_z V) G M = some r) (hp : post (some (.int r.1)) r.2) : AW Y V (az_end Y V post) 4 M 76 [] [] := by
  unfold f_X2_winsInto_76 at h
  refine az_iconst (v := 0) C dX2_winsInto_76 (by decide) ?_
  exact s_X2_winsInto_77 C G 0 M r h hp
set_option maxHeartbeats 4000000 in
set_option maxRecDepth 100000 in
theorem s_X2_winsInto_e {Y : az_Y} {V : az_V} {post : Option Value → az_M → Prop} (C : az_C Y V cX2_winsInto 4 RX2 (some .boolean) 4) (G : Nat) (p0 : Int32) (M : az_M) (r : (Int32 × az_M)) (h : f_X2_winsInto (az_z V) G p0 M = some r) (hp : post (some (.int r.1)) r.2) : AW Y V (az_end Y V post) 4 M 0 [(0, .ref (az_ad V 28)), (1, .int p0)] [] := by
  have o19 := C.hL.at 19 (ci := 8) rfl
  have o28 := C.hL.at 28 (ci := 2) rfl
  have o30 := C.hL.at 30 (ci := 4) rfl
  have a31 := C.hL.ar 31 (t := 0) (len := 145) rfl
  have a33 := C.hL.ar 33 (t := 2) (len := 1000) rfl
  unfold f_X2_winsInto at h
  refine az_aload_n C 0 dX2_winsInto_0 rfl ?_
  refine az_getr (r := 30) C o28 fl_X2_22 rfl rfl dX2_winsInto_1 ?_
  refine az_getr (r := 31) C o30 fl_X2_44 rfl rfl dX2_winsInto_4 ?_
  refine az_bipush (v := 27) C dX2_winsInto_7 (by decide) ?_
  refine az_iload_n C 1 dX2_winsInto_9 rfl ?_
  refine az_iadd C dX2_winsInto_10 ?_
  obtain ⟨g1, h⟩ := az_g h
  refine az_ild (k := (27 + p0).toNatClampNeg) C a31 g1 rfl dX2_winsInto_11 ?_
  refine az_iconst (v := 2) C dX2_winsInto_12 (by decide) ?_
  refine az_icmp_ne C 18 dX2_winsInto_13 (by decide) (fun c2 => ?_) (fun c2 => ?_)
  · have h := az_f c2 h
    refine az_aload_n C 0 dX2_winsInto_18 rfl ?_
    refine az_getr (r := 19) C o28 fl_X2_36 rfl rfl dX2_winsInto_19 ?_
    refine az_aload_n C 0 dX2_winsInto_22 rfl ?_
    refine az_getr (r := 30) C o28 fl_X2_22 rfl rfl dX2_winsInto_23 ?_
    refine az_iconst (v := 1) C dX2_winsInto_26 (by decide) ?_
    refine az_iconst (v := (-1)) C dX2_winsInto_27 (by decide) ?_
    refine az_iload_n C 1 dX2_winsInto_28 rfl ?_
    obtain ⟨q3, e4, h⟩ := az_b h
    refine az_cV (rest := []) (st2 := [.int q3.1]) C [.ref (az_ad V 30), .int 1, .int (-1), .int p0] (c_X8_ask C.hL G 30 (C.hL.pv 30 rfl) 1 (-1) p0 M e4) (by decide) li_X2_52 o19 (by decide) rfl rfl (Nat.le_of_ble_eq_true rfl) dX2_winsInto_29 rfl ?_
    refine az_istore_n C dX2_winsInto_32 rfl (by decide) rfl ?_
    refine az_aload_n C 1 dX2_winsInto_33 rfl ?_
    refine az_getr (r := 30) C o28 fl_X2_22 rfl rfl dX2_winsInto_34 ?_
    refine az_getr (r := 31) C o30 fl_X2_44 rfl rfl dX2_winsInto_37 ?_
    refine az_iconst (v := 0) C dX2_winsInto_40 (by decide) ?_
    refine az_ild (k := 0) C a31 (az_vin (by decide)) (by decide) dX2_winsInto_41 ?_
    refine az_iload_n C 0 dX2_winsInto_42 rfl ?_
    refine az_isub C dX2_winsInto_43 ?_
    refine az_istore_n C dX2_winsInto_44 rfl (by decide) rfl ?_
    refine az_iload_n C 1 dX2_winsInto_45 rfl ?_
    refine az_if_le C 76 dX2_winsInto_46 (by decide) (fun c5 => ?_) (fun c5 => ?_)
    · have h := az_t c5 h
      refine az_sub [] rfl ?_
      exact s_X2_winsInto_76 C G q3.2 r h hp
    · have h := az_f c5 h
      refine az_iload_n C 0 dX2_winsInto_49 rfl ?_
      refine az_aload_n C 2 dX2_winsInto_50 rfl ?_
      refine az_getr (r := 30) C o28 fl_X2_22 rfl rfl dX2_winsInto_51 ?_
      refine az_getr (r := 31) C o30 fl_X2_44 rfl rfl dX2_winsInto_54 ?_
      refine az_bipush (v := 18) C dX2_winsInto_57 (by decide) ?_
      refine az_ild (k := 18) C a31 (az_vin (by decide)) (by decide) dX2_winsInto_59 ?_
      refine az_icmp_lt C 76 dX2_winsInto_60 (by decide) (fun c6 => ?_) (fun c6 => ?_)
      · have h := az_t c6 h
        refine az_sub [] rfl ?_
        exact s_X2_winsInto_76 C G q3.2 r h hp
      · have h := az_f c6 h
        refine az_aload_n C 2 dX2_winsInto_63 rfl ?_
        refine az_getr (r := 33) C o28 fl_X2_29 rfl rfl dX2_winsInto_64 ?_
        refine az_iload_n C 0 dX2_winsInto_67 rfl ?_
        obtain ⟨g7, h⟩ := az_g h
        refine az_zld (k := ((q3.2.1 31 0) - q3.1).toNatClampNeg) C a33 g7 rfl dX2_winsInto_68 ?_
        refine az_if_ne C 76 dX2_winsInto_69 (by decide) (fun c8 => ?_) (fun c8 => ?_)
        · have h := az_f c8 h
          refine az_sub [] rfl ?_
          exact s_X2_winsInto_76 C G q3.2 r h hp
        · have h := az_t c8 h
          refine az_iconst (v := 1) C dX2_winsInto_72 (by decide) ?_
          refine az_goto C 77 dX2_winsInto_73 (by decide) ?_
          refine az_sub [] rfl ?_
          exact s_X2_winsInto_77 C G 1 q3.2 r h hp
  · have h := az_t c2 h
    refine az_iconst (v := 0) C dX2_winsInto_16 (by decide) ?_
    obtain rfl := Option.some.inj h
    exact az_zret C dX2_winsInto_17 rfl hp
theorem c_X2_winsInto {l : Launch} {V : az_V} (hL : az_L V) (G : Nat) (p0 : Int32) (M : az_M) {r : (Int32 × az_M)} (h : f_X2_winsInto (az_z V) G p0 M = some r) : az_Ct l V yX2_winsInto cX2_winsInto 4 (some .boolean) 4 [.ref (az_ad V 28), .int p0] M (fun v M' => v = some (.int r.1) ∧ M' = r.2) :=
  az_Ct.of (by decide) (Nat.le_of_ble_eq_true rfl) (fun Y _ _ C => s_X2_winsInto_e C G p0 M r h ⟨rfl, rfl⟩)
set_option maxHeartbeats 4000000 in
set_option maxRecDepth 100000 in
theorem s_X2_play_130 {Y : az_Y} {V : az_V} {post : Option Value → az_M → Prop} (C : az_C Y V cX2_play 4 RX2 none 5) (G : Nat) (K32 : (Int32 → Int32 → az_M → Option az_M)) (K66 : (Int32 → Int32 → Int32 → az_M → Option az_M)) (hK32 : ∀ (x1 : Int32) (x2 : Int32) (M : az_M) (r : az_M), K32 x1 x2 M = some r → post none r → AW Y V (az_end Y V post) 4 M 32 [(0, .ref (az_ad V 28)), (1, .int x1), (2, .int x2)] []) (hK66 : ∀ (x1 : Int32) (x2 : Int32) (x3 : Int32) (M : az_M) (r : az_M), K66 x1 x2 x3 M = some r → post none r → AW Y V (az_end Y V post) 4 M 66 [(0, .ref (az_ad V 28)), (1, .int x1), (2, .int x2), (3, .int x3)] []) (x1 : Int32) (x2 : Int32) (x3 : Int32) (M : az_M) (r : az_M) (h : f_X2_play_130 (az_z V) G K32 K66 x1 x2 x3 M = some r) (hp : post none r) : AW Y V (az_end Y V post) 4 M 130 [(0, .ref (az_ad V 28)), (1, .int x1), (2, .int x2), (3, .int x3)] [] := by
  unfold f_X2_play_130 at h
  refine az_iinc (v := (x3 + 1)) C 3 dX2_play_130 rfl rfl (by decide) rfl ?_
  refine az_goto C 66 dX2_play_133 (by decide) ?_
  refine az_sub [1, 2, 3, 0] rfl ?_
  exact hK66 x1 x2 (x3 + 1) M r h hp
set_option maxHeartbeats 4000000 in
set_option maxRecDepth 100000 in
theorem s_X2_play_127 {Y : az_Y} {V : az_V} {post : Option Value → az_M → Prop} (C : az_C Y V cX2_play 4 RX2 none 5) (G : Nat) (K32 : (Int32 → Int32 → az_M → Option az_M)) (K66 : (Int32 → Int32 → Int32 → az_M → Option az_M)) (hK32 : ∀ (x1 : Int32) (x2 : Int32) (M : az_M) (r : az_M), K32 x1 x2 M = some r → post none r → AW Y V (az_end Y V post) 4 M 32 [(0, .ref (az_ad V 28)), (1, .int x1), (2, .int x2)] []) (hK66 : ∀ (x1 : Int32) (x2 : Int32) (x3 : Int32) (M : az_M) (r : az_M), K66 x1 x2 x3 M = some r → post none r → AW Y V (az_end Y V post) 4 M 66 [(0, .ref (az_ad V 28)), (1, .int x1), (2, .int x2), (3, .int x3)] []) (x1 : Int32) (x2 : Int32) (x3 : Int32) (s0 : Int32) (M : az_M) (r : az_M) (h : f_X2_play_127 (az_z V) G K32 K66 x1 x2 x3 s0 M = some r) (hp : post none r) : AW Y V (az_end Y V post) 4 M 127 [(0, .ref (az_ad V 28)), (1, .int x1), (2, .int x2), (3, .int x3)] [.int s0, .ref (az_ad V 28)] := by
  have o28 := C.hL.at 28 (ci := 2) rfl
  unfold f_X2_play_127 at h
  refine az_puti C o28 fl_X2_76 rfl rfl rfl rfl dX2_play_127 ?_
  exact s_X2_play_130 C G K32 K66 hK32 hK66 x1 x2 x3 (az_i M 28 3 s0) r h hp
set_option maxHeartbeats 4000000 in
set_option maxRecDepth 100000 in
theorem s_X2_play_92 {Y : az_Y} {V : az_V} {post : Option Value → az_M → Prop} (C : az_C Y V cX2_play 4 RX2 none 5) (G : Nat) (K32 : (Int32 → Int32 → az_M → Option az_M)) (K66 : (Int32 → Int32 → Int32 → az_M → Option az_M)) (hK32 : ∀ (x1 : Int32) (x2 : Int32) (M : az_M) (r : az_M), K32 x1 x2 M = some r → post none r → AW Y V (az_end Y V post) 4 M 32 [(0, .ref (az_ad V 28)), (1, .int x1), (2, .int x2)] []) (hK66 : ∀ (x1 : Int32) (x2 : Int32) (x3 : Int32) (M : az_M) (r : az_M), K66 x1 x2 x3 M = some r → post none r → AW Y V (az_end Y V post) 4 M 66 [(0, .ref (az_ad V 28)), (1, .int x1), (2, .int x2), (3, .int x3)] []) (x1 : Int32) (x2 : Int32) (x3 : Int32) (M : az_M) (r : az_M) (h : f_X2_play_92 (az_z V) G K32 K66 x1 x2 x3 M = some r) (hp : post none r) : AW Y V (az_end Y V post) 4 M 92 [(0, .ref (az_ad V 28)), (1, .int x1), (2, .int x2), (3, .int x3)] [] := by
  have o28 := C.hL.at 28 (ci := 2) rfl
  unfold f_X2_play_92 at h
  refine az_aload_n C 0 dX2_play_92 rfl ?_
  refine az_iload_n C 3 dX2_play_93 rfl ?_
  obtain ⟨q8, e9, h⟩ := az_b h
  refine az_cV (rest := []) (st2 := [.int q8.1]) C [.int x3] (c_X2_winsInto C.hL G x3 M e9) (by decide) li_X2_79 o28 (by decide) rfl rfl (Nat.le_of_ble_eq_true rfl) dX2_play_94 rfl ?_
  refine az_if_eq C 130 dX2_play_97 (by decide) (fun c10 => ?_) (fun c10 => ?_)
  · have h := az_t c10 h
    exact s_X2_play_130 C G K32 K66 hK32 hK66 x1 x2 x3 q8.2 r h hp
  · have h := az_f c10 h
    refine az_aload_n C 0 dX2_play_100 rfl ?_
    refine az_dup C dX2_play_101 rfl ?_
    refine az_geti C o28 fl_X2_72 rfl dX2_play_102 ?_
    refine az_iconst (v := 1) C dX2_play_105 (by decide) ?_
    refine az_iadd C dX2_play_106 ?_
    refine az_puti C o28 fl_X2_72 rfl rfl rfl rfl dX2_play_107 ?_
    refine az_aload_n C 0 dX2_play_110 rfl ?_
    refine az_aload_n C 0 dX2_play_111 rfl ?_
    refine az_geti C o28 fl_X2_76 rfl dX2_play_112 ?_
    refine az_iconst (v := (-1)) C dX2_play_115 (by decide) ?_
    refine az_icmp_ne C 123 dX2_play_116 (by decide) (fun c11 => ?_) (fun c11 => ?_)
    · have h := az_f c11 h
      refine az_aload_n C 0 dX2_play_123 rfl ?_
      refine az_geti C o28 fl_X2_76 rfl dX2_play_124 ?_
      exact s_X2_play_127 C G K32 K66 hK32 hK66 x1 x2 x3 ((az_i q8.2 28 2 ((q8.2.1 28 2) + 1)).1 28 3) (az_i q8.2 28 2 ((q8.2.1 28 2) + 1)) r h hp
    · have h := az_t c11 h
      refine az_iload_n C 3 dX2_play_119 rfl ?_
      refine az_goto C 127 dX2_play_120 (by decide) ?_
      exact s_X2_play_127 C G K32 K66 hK32 hK66 x1 x2 x3 x3 (az_i q8.2 28 2 ((q8.2.1 28 2) + 1)) r h hp
set_option maxHeartbeats 4000000 in
set_option maxRecDepth 100000 in
theorem s_X2_play_153 {Y : az_Y} {V : az_V} {post : Option Value → az_M → Prop} (C : az_C Y V cX2_play 4 RX2 none 5) (G : Nat) (K32 : (Int32 → Int32 → az_M → Option az_M)) (hK32 : ∀ (x1 : Int32) (x2 : Int32) (M : az_M) (r : az_M), K32 x1 x2 M = some r → post none r → AW Y V (az_end Y V post) 4 M 32 [(0, .ref (az_ad V 28)), (1, .int x1), (2, .int x2)] []) (x1 : Int32) (x2 : Int32) (s0 : Int32) (s1 : Int32) (M : az_M) (r : az_M) (h : f_X2_play_153 (az_z V) G K32 x1 x2 s0 s1 M = some r) (hp : post none r) : AW Y V (az_end Y V post) 4 M 153 [(0, .ref (az_ad V 28)), (1, .int x1), (2, .int x2)] [.int s0, .int s1, .ref (az_ad V 33)] := by
  have a33 := C.hL.ar 33 (t := 2) (len := 1000) rfl
  unfold f_X2_play_153 at h
  obtain ⟨g13, h⟩ := az_g h
  obtain ⟨g14, h⟩ := az_g2 h
  refine az_zst (k := s1.toNatClampNeg) C a33 g13 rfl (az_vz g14) dX2_play_153 ?_
  refine az_iinc (v := (x2 + 1)) C 2 dX2_play_154 rfl rfl (by decide) rfl ?_
  refine az_goto C 32 dX2_play_157 (by decide) ?_
  refine az_sub [1, 2, 0] rfl ?_
  exact hK32 x1 (x2 + 1) (az_i M 33 s1.toNatClampNeg s0) r h hp
set_option maxHeartbeats 4000000 in
set_option maxRecDepth 100000 in
theorem s_X2_play_136 {Y : az_Y} {V : az_V} {post : Option Value → az_M → Prop} (C : az_C Y V cX2_play 4 RX2 none 5) (G : Nat) (K32 : (Int32 → Int32 → az_M → Option az_M)) (hK32 : ∀ (x1 : Int32) (x2 : Int32) (M : az_M) (r : az_M), K32 x1 x2 M = some r → post none r → AW Y V (az_end Y V post) 4 M 32 [(0, .ref (az_ad V 28)), (1, .int x1), (2, .int x2)] []) (x1 : Int32) (x2 : Int32) (M : az_M) (r : az_M) (h : f_X2_play_136 (az_z V) G K32 x1 x2 M = some r) (hp : post none r) : AW Y V (az_end Y V post) 4 M 136 [(0, .ref (az_ad V 28)), (1, .int x1), (2, .int x2)] [] := by
  have o28 := C.hL.at 28 (ci := 2) rfl
  unfold f_X2_play_136 at h
  refine az_aload_n C 0 dX2_play_136 rfl ?_
  refine az_getr (r := 33) C o28 fl_X2_29 rfl rfl dX2_play_137 ?_
  refine az_iload_n C 2 dX2_play_140 rfl ?_
  refine az_aload_n C 0 dX2_play_141 rfl ?_
  refine az_geti C o28 fl_X2_72 rfl dX2_play_142 ?_
  refine az_if_le C 152 dX2_play_145 (by decide) (fun c12 => ?_) (fun c12 => ?_)
  · have h := az_t c12 h
    refine az_iconst (v := 0) C dX2_play_152 (by decide) ?_
    exact s_X2_play_153 C G K32 hK32 x1 x2 0 x2 M r h hp
  · have h := az_f c12 h
    refine az_iconst (v := 1) C dX2_play_148 (by decide) ?_
    refine az_goto C 153 dX2_play_149 (by decide) ?_
    exact s_X2_play_153 C G K32 hK32 x1 x2 1 x2 M r h hp
set_option maxHeartbeats 4000000 in
set_option maxRecDepth 100000 in
theorem s_X2_play_66 {Y : az_Y} {V : az_V} {post : Option Value → az_M → Prop} (C : az_C Y V cX2_play 4 RX2 none 5) (G : Nat) (K32 : (Int32 → Int32 → az_M → Option az_M)) (hK32 : ∀ (x1 : Int32) (x2 : Int32) (M : az_M) (r : az_M), K32 x1 x2 M = some r → post none r → AW Y V (az_end Y V post) 4 M 32 [(0, .ref (az_ad V 28)), (1, .int x1), (2, .int x2)] []) : ∀ (F : Nat) (x1 : Int32) (x2 : Int32) (x3 : Int32) (M : az_M) (r : az_M), f_X2_play_66 (az_z V) G K32 F x1 x2 x3 M = some r → post none r → AW Y V (az_end Y V post) 4 M 66 [(0, .ref (az_ad V 28)), (1, .int x1), (2, .int x2), (3, .int x3)] [] := by
  have o1 := C.hL.at 1 (ci := 4) rfl
  have o28 := C.hL.at 28 (ci := 2) rfl
  have a2 := C.hL.ar 2 (t := 0) (len := 145) rfl
  intro F
  induction F with
  | zero =>
    intro x1 x2 x3 M r h
    exact absurd (show (none : Option az_M) = some r from h) (fun q => by cases q)
  | succ F ih =>
    intro x1 x2 x3 M r h hp
    rw [f_X2_play_66] at h
    refine az_iload_n C 3 dX2_play_66 rfl ?_
    refine az_aload_n C 0 dX2_play_67 rfl ?_
    refine az_getr (r := 1) C o28 fl_X2_33 rfl rfl dX2_play_68 ?_
    refine az_getr (r := 2) C o1 fl_X2_44 rfl rfl dX2_play_71 ?_
    refine az_bipush (v := 23) C dX2_play_74 (by decide) ?_
    refine az_ild (k := 23) C a2 (az_vin (by decide)) (by decide) dX2_play_76 ?_
    refine az_icmp_ge C 136 dX2_play_77 (by decide) (fun c5 => ?_) (fun c5 => ?_)
    · have h := az_t c5 h
      refine az_sub [0, 1, 2] rfl ?_
      exact s_X2_play_136 C G K32 hK32 x1 x2 M r h hp
    · have h := az_f c5 h
      refine az_aload_n C 0 dX2_play_80 rfl ?_
      refine az_geti C o28 fl_X2_72 rfl dX2_play_81 ?_
      refine az_if_eq C 92 dX2_play_84 (by decide) (fun c6 => ?_) (fun c6 => ?_)
      · have h := az_t c6 h
        exact s_X2_play_92 C G K32 (f_X2_play_66 (az_z V) G K32 F) hK32 ih x1 x2 x3 M r h hp
      · have h := az_f c6 h
        refine az_iload_n C 2 dX2_play_87 rfl ?_
        refine az_iload_n C 1 dX2_play_88 rfl ?_
        refine az_icmp_ne C 136 dX2_play_89 (by decide) (fun c7 => ?_) (fun c7 => ?_)
        · have h := az_f c7 h
          refine az_sub [0, 1, 2] rfl ?_
          exact s_X2_play_136 C G K32 hK32 x1 x2 M r h hp
        · have h := az_t c7 h
          exact s_X2_play_92 C G K32 (f_X2_play_66 (az_z V) G K32 F) hK32 ih x1 x2 x3 M r h hp
set_option maxHeartbeats 4000000 in
set_option maxRecDepth 100000 in
theorem s_X2_play_160 {Y : az_Y} {V : az_V} {post : Option Value → az_M → Prop} (C : az_C Y V cX2_play 4 RX2 none 5) (G : Nat)  (M : az_M) (r : az_M) (h : f_X2_play_160 (az_z V) G M = some r) (hp : post none r) : AW Y V (az_end Y V post) 4 M 160 [] [] := by
  unfold f_X2_play_160 at h
  obtain rfl := Option.some.inj h
  exact az_vret C rfl dX2_play_160 hp
set_option maxHeartbeats 4000000 in
set_option maxRecDepth 100000 in
theorem s_X2_play_32 {Y : az_Y} {V : az_V} {post : Option Value → az_M → Prop} (C : az_C Y V cX2_play 4 RX2 none 5) (G : Nat) : ∀ (F : Nat) (x1 : Int32) (x2 : Int32) (M : az_M) (r : az_M), f_X2_play_32 (az_z V) G F x1 x2 M = some r → post none r → AW Y V (az_end Y V post) 4 M 32 [(0, .ref (az_ad V 28)), (1, .int x1), (2, .int x2)] [] := by
  have o28 := C.hL.at 28 (ci := 2) rfl
  have o30 := C.hL.at 30 (ci := 4) rfl
  have a31 := C.hL.ar 31 (t := 0) (len := 145) rfl
  intro F
  induction F with
  | zero =>
    intro x1 x2 M r h
    exact absurd (show (none : Option az_M) = some r from h) (fun q => by cases q)
  | succ F ih =>
    intro x1 x2 M r h hp
    rw [f_X2_play_32] at h
    refine az_iload_n C 2 dX2_play_32 rfl ?_
    refine az_iload_n C 1 dX2_play_33 rfl ?_
    refine az_icmp_gt C 160 dX2_play_34 (by decide) (fun c3 => ?_) (fun c3 => ?_)
    · have h := az_t c3 h
      refine az_sub [] rfl ?_
      exact s_X2_play_160 C G M r h hp
    · have h := az_f c3 h
      refine az_iload_n C 2 dX2_play_37 rfl ?_
      refine az_sipush (v := 999) C dX2_play_38 (by decide) ?_
      refine az_icmp_gt C 160 dX2_play_41 (by decide) (fun c4 => ?_) (fun c4 => ?_)
      · have h := az_t c4 h
        refine az_sub [] rfl ?_
        exact s_X2_play_160 C G M r h hp
      · have h := az_f c4 h
        refine az_aload_n C 0 dX2_play_44 rfl ?_
        refine az_getr (r := 30) C o28 fl_X2_22 rfl rfl dX2_play_45 ?_
        refine az_getr (r := 31) C o30 fl_X2_44 rfl rfl dX2_play_48 ?_
        refine az_iconst (v := 0) C dX2_play_51 (by decide) ?_
        refine az_iload_n C 2 dX2_play_52 rfl ?_
        refine az_ist (k := 0) C a31 (az_vin (by decide)) (by decide) dX2_play_53 ?_
        refine az_aload_n C 0 dX2_play_54 rfl ?_
        refine az_iconst (v := 0) C dX2_play_55 (by decide) ?_
        refine az_puti C o28 fl_X2_72 rfl rfl rfl rfl dX2_play_56 ?_
        refine az_aload_n C 0 dX2_play_59 rfl ?_
        refine az_iconst (v := (-1)) C dX2_play_60 (by decide) ?_
        refine az_puti C o28 fl_X2_76 rfl rfl rfl rfl dX2_play_61 ?_
        refine az_iconst (v := 0) C dX2_play_64 (by decide) ?_
        refine az_istore_n C dX2_play_65 rfl (by decide) rfl ?_
        refine az_sub [1, 2, 3, 0] rfl ?_
        exact s_X2_play_66 C G (f_X2_play_32 (az_z V) G F) ih G x1 x2 0 (az_i (az_i (az_i M 31 0 x2) 28 2 0) 28 3 (-1)) r h hp
set_option maxHeartbeats 4000000 in
set_option maxRecDepth 100000 in
theorem s_X2_play_e {Y : az_Y} {V : az_V} {post : Option Value → az_M → Prop} (C : az_C Y V cX2_play 4 RX2 none 5) (G : Nat)  (M : az_M) (r : az_M) (h : f_X2_play (az_z V) G M = some r) (hp : post none r) : AW Y V (az_end Y V post) 4 M 0 [(0, .ref (az_ad V 28))] [] := by
  have o1 := C.hL.at 1 (ci := 4) rfl
  have o28 := C.hL.at 28 (ci := 2) rfl
  have o30 := C.hL.at 30 (ci := 4) rfl
  have a2 := C.hL.ar 2 (t := 0) (len := 145) rfl
  unfold f_X2_play at h
  refine az_aload_n C 0 dX2_play_0 rfl ?_
  refine az_getr (r := 30) C o28 fl_X2_22 rfl rfl dX2_play_1 ?_
  refine az_aload_n C 0 dX2_play_4 rfl ?_
  refine az_getr (r := 1) C o28 fl_X2_33 rfl rfl dX2_play_5 ?_
  obtain ⟨q1, e2, h⟩ := az_b h
  refine az_cV (rest := []) (st2 := []) C [.ref (az_ad V 1)] (c_X4_copy C.hL 30 (C.hL.pv 30 rfl) 1 (C.hL.pv 1 rfl) M e2) (by decide) li_X2_40 o30 (by decide) rfl rfl (Nat.le_of_ble_eq_true rfl) dX2_play_8 rfl ?_
  refine az_aload_n C 0 dX2_play_11 rfl ?_
  refine az_getr (r := 1) C o28 fl_X2_33 rfl rfl dX2_play_12 ?_
  refine az_getr (r := 2) C o1 fl_X2_44 rfl rfl dX2_play_15 ?_
  refine az_iconst (v := 0) C dX2_play_18 (by decide) ?_
  refine az_ild (k := 0) C a2 (az_vin (by decide)) (by decide) dX2_play_19 ?_
  refine az_istore_n C dX2_play_20 rfl (by decide) rfl ?_
  refine az_aload_n C 1 dX2_play_21 rfl ?_
  refine az_getr (r := 1) C o28 fl_X2_33 rfl rfl dX2_play_22 ?_
  refine az_getr (r := 2) C o1 fl_X2_44 rfl rfl dX2_play_25 ?_
  refine az_bipush (v := 18) C dX2_play_28 (by decide) ?_
  refine az_ild (k := 18) C a2 (az_vin (by decide)) (by decide) dX2_play_30 ?_
  refine az_istore_n C dX2_play_31 rfl (by decide) rfl ?_
  refine az_sub [2, 1, 0] rfl ?_
  exact s_X2_play_32 C G G (q1.1 2 0) (q1.1 2 18) q1 r h hp
theorem c_X2_play {l : Launch} {V : az_V} (hL : az_L V) (G : Nat)  (M : az_M) {r : az_M} (h : f_X2_play (az_z V) G M = some r) : az_Ct l V yX2_play cX2_play 4 none 5 [.ref (az_ad V 28)] M (fun v M' => v = none ∧ M' = r) :=
  az_Ct.of (by decide) (Nat.le_of_ble_eq_true rfl) (fun Y _ _ C => s_X2_play_e C G M r h ⟨rfl, rfl⟩)
set_option maxHeartbeats 4000000 in
set_option maxRecDepth 100000 in
theorem s_X2_drawSeason_130 {Y : az_Y} {V : az_V} {post : Option Value → az_M → Prop} (C : az_C Y V cX2_drawSeason 8 RX2 (some .int) 6) (G : Nat) (K24 : (Int32 → Int32 → Int32 → az_M → Option (Int32 × az_M))) (hK24 : ∀ (x2 : Int32) (x3 : Int32) (x4 : Int32) (M : az_M) (r : (Int32 × az_M)), K24 x2 x3 x4 M = some r → post (some (.int r.1)) r.2 → AW Y V (az_end Y V post) 8 M 24 [(0, .ref (az_ad V 28)), (2, .int x2), (3, .int x3), (4, .int x4)] []) (x2 : Int32) (x3 : Int32) (x4 : Int32) (M : az_M) (r : (Int32 × az_M)) (h : f_X2_drawSeason_130 (az_z V) G K24 x2 x3 x4 M = some r) (hp : post (some (.int r.1)) r.2) : AW Y V (az_end Y V post) 8 M 130 [(0, .ref (az_ad V 28)), (2, .int x2), (3, .int x3), (4, .int x4)] [] := by
  unfold f_X2_drawSeason_130 at h
  refine az_iinc (v := (x4 + 1)) C 3 dX2_drawSeason_130 rfl rfl (by decide) rfl ?_
  refine az_goto C 24 dX2_drawSeason_133 (by decide) ?_
  refine az_sub [1, 2, 3, 0] rfl ?_
  exact hK24 x2 x3 (x4 + 1) M r h hp
set_option maxHeartbeats 4000000 in
set_option maxRecDepth 100000 in
theorem s_X2_drawSeason_117 {Y : az_Y} {V : az_V} {post : Option Value → az_M → Prop} (C : az_C Y V cX2_drawSeason 8 RX2 (some .int) 6) (G : Nat) (K24 : (Int32 → Int32 → Int32 → az_M → Option (Int32 × az_M))) (hK24 : ∀ (x2 : Int32) (x3 : Int32) (x4 : Int32) (M : az_M) (r : (Int32 × az_M)), K24 x2 x3 x4 M = some r → post (some (.int r.1)) r.2 → AW Y V (az_end Y V post) 8 M 24 [(0, .ref (az_ad V 28)), (2, .int x2), (3, .int x3), (4, .int x4)] []) (x2 : Int32) (x4 : Int32) (s0 : Int32) (s1 : Int32) (M : az_M) (r : (Int32 × az_M)) (h : f_X2_drawSeason_117 (az_z V) G K24 x2 x4 s0 s1 M = some r) (hp : post (some (.int r.1)) r.2) : AW Y V (az_end Y V post) 8 M 117 [(0, .ref (az_ad V 28)), (2, .int x2), (4, .int x4)] [.int s0, .int s1] := by
  unfold f_X2_drawSeason_117 at h
  refine az_iadd C dX2_drawSeason_117 ?_
  refine az_istore_n C dX2_drawSeason_118 rfl (by decide) rfl ?_
  refine az_goto C 130 dX2_drawSeason_119 (by decide) ?_
  refine az_sub [1, 2, 0, 3] rfl ?_
  exact s_X2_drawSeason_130 C G K24 hK24 x2 (s1 + s0) x4 M r h hp
set_option maxHeartbeats 4000000 in
set_option maxRecDepth 100000 in
theorem s_X2_drawSeason_112 {Y : az_Y} {V : az_V} {post : Option Value → az_M → Prop} (C : az_C Y V cX2_drawSeason 8 RX2 (some .int) 6) (G : Nat) (K24 : (Int32 → Int32 → Int32 → az_M → Option (Int32 × az_M))) (hK24 : ∀ (x2 : Int32) (x3 : Int32) (x4 : Int32) (M : az_M) (r : (Int32 × az_M)), K24 x2 x3 x4 M = some r → post (some (.int r.1)) r.2 → AW Y V (az_end Y V post) 8 M 24 [(0, .ref (az_ad V 28)), (2, .int x2), (3, .int x3), (4, .int x4)] []) (x2 : Int32) (x4 : Int32) (s0 : Int32) (M : az_M) (r : (Int32 × az_M)) (h : f_X2_drawSeason_112 (az_z V) G K24 x2 x4 s0 M = some r) (hp : post (some (.int r.1)) r.2) : AW Y V (az_end Y V post) 8 M 112 [(0, .ref (az_ad V 28)), (2, .int x2), (4, .int x4)] [.int s0] := by
  unfold f_X2_drawSeason_112 at h
  refine az_iconst (v := 1) C dX2_drawSeason_112 (by decide) ?_
  refine az_goto C 117 dX2_drawSeason_113 (by decide) ?_
  exact s_X2_drawSeason_117 C G K24 hK24 x2 x4 1 s0 M r h hp
set_option maxHeartbeats 4000000 in
set_option maxRecDepth 100000 in
theorem s_X2_drawSeason_122 {Y : az_Y} {V : az_V} {post : Option Value → az_M → Prop} (C : az_C Y V cX2_drawSeason 8 RX2 (some .int) 6) (G : Nat) (K24 : (Int32 → Int32 → Int32 → az_M → Option (Int32 × az_M))) (hK24 : ∀ (x2 : Int32) (x3 : Int32) (x4 : Int32) (M : az_M) (r : (Int32 × az_M)), K24 x2 x3 x4 M = some r → post (some (.int r.1)) r.2 → AW Y V (az_end Y V post) 8 M 24 [(0, .ref (az_ad V 28)), (2, .int x2), (3, .int x3), (4, .int x4)] []) (x2 : Int32) (x3 : Int32) (x4 : Int32) (M : az_M) (r : (Int32 × az_M)) (h : f_X2_drawSeason_122 (az_z V) G K24 x2 x3 x4 M = some r) (hp : post (some (.int r.1)) r.2) : AW Y V (az_end Y V post) 8 M 122 [(0, .ref (az_ad V 28)), (2, .int x2), (3, .int x3), (4, .int x4)] [] := by
  have o28 := C.hL.at 28 (ci := 2) rfl
  have o30 := C.hL.at 30 (ci := 4) rfl
  unfold f_X2_drawSeason_122 at h
  refine az_aload_n C 0 dX2_drawSeason_122 rfl ?_
  refine az_getr (r := 30) C o28 fl_X2_22 rfl rfl dX2_drawSeason_123 ?_
  refine az_iconst (v := 3) C dX2_drawSeason_126 (by decide) ?_
  obtain ⟨q15, e16, h⟩ := az_b h
  refine az_cV (rest := []) (st2 := []) C [.int 3] (c_X4_passDays C.hL 30 (C.hL.pv 30 rfl) 3 M e16) (by decide) li_X2_96 o30 (by decide) rfl rfl (Nat.le_of_ble_eq_true rfl) dX2_drawSeason_127 rfl ?_
  exact s_X2_drawSeason_130 C G K24 hK24 x2 x3 x4 q15 r h hp
set_option maxHeartbeats 4000000 in
set_option maxRecDepth 100000 in
theorem s_X2_drawSeason_60 {Y : az_Y} {V : az_V} {post : Option Value → az_M → Prop} (C : az_C Y V cX2_drawSeason 8 RX2 (some .int) 6) (G : Nat) (K24 : (Int32 → Int32 → Int32 → az_M → Option (Int32 × az_M))) (hK24 : ∀ (x2 : Int32) (x3 : Int32) (x4 : Int32) (M : az_M) (r : (Int32 × az_M)), K24 x2 x3 x4 M = some r → post (some (.int r.1)) r.2 → AW Y V (az_end Y V post) 8 M 24 [(0, .ref (az_ad V 28)), (2, .int x2), (3, .int x3), (4, .int x4)] []) (x2 : Int32) (x3 : Int32) (x4 : Int32) (s0 : Int32) (M : az_M) (r : (Int32 × az_M)) (h : f_X2_drawSeason_60 (az_z V) G K24 x2 x3 x4 s0 M = some r) (hp : post (some (.int r.1)) r.2) : AW Y V (az_end Y V post) 8 M 60 [(0, .ref (az_ad V 28)), (2, .int x2), (3, .int x3), (4, .int x4)] [.int s0] := by
  have o19 := C.hL.at 19 (ci := 8) rfl
  have o28 := C.hL.at 28 (ci := 2) rfl
  unfold f_X2_drawSeason_60 at h
  refine az_istore C dX2_drawSeason_60 (by decide) rfl ?_
  refine az_iload C 0 dX2_drawSeason_62 rfl ?_
  refine az_iconst (v := (-1)) C dX2_drawSeason_64 (by decide) ?_
  refine az_icmp_eq C 122 dX2_drawSeason_65 (by decide) (fun c7 => ?_) (fun c7 => ?_)
  · have h := az_t c7 h
    refine az_sub [1, 2, 3, 4] rfl ?_
    exact s_X2_drawSeason_122 C G K24 hK24 x2 x3 x4 M r h hp
  · have h := az_f c7 h
    refine az_aload_n C 1 dX2_drawSeason_68 rfl ?_
    refine az_getr (r := 19) C o28 fl_X2_36 rfl rfl dX2_drawSeason_69 ?_
    refine az_aload_n C 1 dX2_drawSeason_72 rfl ?_
    refine az_getr (r := 30) C o28 fl_X2_22 rfl rfl dX2_drawSeason_73 ?_
    refine az_iload C 0 dX2_drawSeason_76 rfl ?_
    obtain ⟨q8, e9, h⟩ := az_b h
    refine az_cV (rest := []) (st2 := [.int q8.1]) C [.ref (az_ad V 30), .int s0] (c_X8_canBeHad C.hL G 30 (C.hL.pv 30 rfl) s0 M e9) (by decide) li_X2_88 o19 (by decide) rfl rfl (Nat.le_of_ble_eq_true rfl) dX2_drawSeason_78 rfl ?_
    refine az_if_eq C 122 dX2_drawSeason_81 (by decide) (fun c10 => ?_) (fun c10 => ?_)
    · have h := az_t c10 h
      refine az_sub [1, 2, 3, 4] rfl ?_
      exact s_X2_drawSeason_122 C G K24 hK24 x2 x3 x4 q8.2 r h hp
    · have h := az_f c10 h
      refine az_aload_n C 1 dX2_drawSeason_84 rfl ?_
      refine az_getr (r := 19) C o28 fl_X2_36 rfl rfl dX2_drawSeason_85 ?_
      refine az_aload_n C 1 dX2_drawSeason_88 rfl ?_
      refine az_getr (r := 30) C o28 fl_X2_22 rfl rfl dX2_drawSeason_89 ?_
      refine az_iload C 0 dX2_drawSeason_92 rfl ?_
      obtain ⟨q11, e12, h⟩ := az_b h
      refine az_cV (rest := []) (st2 := [.int q11.1]) C [.ref (az_ad V 30), .int s0] (c_X8_hold C.hL G 30 (C.hL.pv 30 rfl) s0 q8.2 e12) (by decide) li_X2_92 o19 (by decide) rfl rfl (Nat.le_of_ble_eq_true rfl) dX2_drawSeason_94 rfl ?_
      refine az_istore C dX2_drawSeason_97 (by decide) rfl ?_
      refine az_iload_n C 4 dX2_drawSeason_99 rfl ?_
      refine az_iload C 0 dX2_drawSeason_100 rfl ?_
      refine az_iconst (v := 1) C dX2_drawSeason_102 (by decide) ?_
      refine az_icmp_eq C 112 dX2_drawSeason_103 (by decide) (fun c13 => ?_) (fun c13 => ?_)
      · have h := az_t c13 h
        refine az_sub [2, 3, 5] rfl ?_
        exact s_X2_drawSeason_112 C G K24 hK24 x2 x4 x3 q11.2 r h hp
      · have h := az_f c13 h
        refine az_iload C 0 dX2_drawSeason_106 rfl ?_
        refine az_iconst (v := 2) C dX2_drawSeason_108 (by decide) ?_
        refine az_icmp_ne C 116 dX2_drawSeason_109 (by decide) (fun c14 => ?_) (fun c14 => ?_)
        · have h := az_f c14 h
          refine az_iconst (v := 0) C dX2_drawSeason_116 (by decide) ?_
          refine az_sub [2, 3, 5] rfl ?_
          exact s_X2_drawSeason_117 C G K24 hK24 x2 x4 0 x3 q11.2 r h hp
        · have h := az_t c14 h
          refine az_sub [2, 3, 5] rfl ?_
          exact s_X2_drawSeason_112 C G K24 hK24 x2 x4 x3 q11.2 r h hp
set_option maxHeartbeats 4000000 in
set_option maxRecDepth 100000 in
theorem s_X2_drawSeason_24 {Y : az_Y} {V : az_V} {post : Option Value → az_M → Prop} (C : az_C Y V cX2_drawSeason 8 RX2 (some .int) 6) (G : Nat) : ∀ (F : Nat) (x2 : Int32) (x3 : Int32) (x4 : Int32) (M : az_M) (r : (Int32 × az_M)), f_X2_drawSeason_24 (az_z V) G F x2 x3 x4 M = some r → post (some (.int r.1)) r.2 → AW Y V (az_end Y V post) 8 M 24 [(0, .ref (az_ad V 28)), (2, .int x2), (3, .int x3), (4, .int x4)] [] := by
  have o19 := C.hL.at 19 (ci := 8) rfl
  have o28 := C.hL.at 28 (ci := 2) rfl
  have o30 := C.hL.at 30 (ci := 4) rfl
  have a29 := C.hL.ar 29 (t := 0) (len := 6) rfl
  have a31 := C.hL.ar 31 (t := 0) (len := 145) rfl
  intro F
  induction F with
  | zero =>
    intro x2 x3 x4 M r h
    exact absurd (show (none : Option (Int32 × az_M)) = some r from h) (fun q => by cases q)
  | succ F ih =>
    intro x2 x3 x4 M r h hp
    rw [f_X2_drawSeason_24] at h
    refine az_iload C 3 dX2_drawSeason_24 rfl ?_
    refine az_iload_n C 1 dX2_drawSeason_26 rfl ?_
    refine az_icmp_ge C 136 dX2_drawSeason_27 (by decide) (fun c3 => ?_) (fun c3 => ?_)
    · have h := az_t c3 h
      refine az_aload_n C 0 dX2_drawSeason_136 rfl ?_
      refine az_getr (r := 30) C o28 fl_X2_22 rfl rfl dX2_drawSeason_137 ?_
      refine az_getr (r := 31) C o30 fl_X2_44 rfl rfl dX2_drawSeason_140 ?_
      refine az_iconst (v := 0) C dX2_drawSeason_143 (by decide) ?_
      refine az_aload_n C 0 dX2_drawSeason_144 rfl ?_
      refine az_getr (r := 29) C o28 fl_X2_9 rfl rfl dX2_drawSeason_145 ?_
      refine az_iconst (v := 0) C dX2_drawSeason_148 (by decide) ?_
      refine az_iconst (v := 4) C dX2_drawSeason_149 (by decide) ?_
      refine az_copy (i := 0) (j := 0) (k := 4) C (by decide) la_X2_100 a31 a29 (by decide) (by decide) (by decide) (by decide) (by decide) (by decide) (by decide) (by decide) (Nat.le_of_ble_eq_true rfl) dX2_drawSeason_150 ?_
      refine az_aload_n C 0 dX2_drawSeason_153 rfl ?_
      refine az_getr (r := 29) C o28 fl_X2_9 rfl rfl dX2_drawSeason_154 ?_
      refine az_iconst (v := 4) C dX2_drawSeason_157 (by decide) ?_
      refine az_aload_n C 0 dX2_drawSeason_158 rfl ?_
      refine az_getr (r := 30) C o28 fl_X2_22 rfl rfl dX2_drawSeason_159 ?_
      refine az_getr (r := 31) C o30 fl_X2_44 rfl rfl dX2_drawSeason_162 ?_
      refine az_bipush (v := 16) C dX2_drawSeason_165 (by decide) ?_
      refine az_ild (k := 16) C a31 (az_vin (by decide)) (by decide) dX2_drawSeason_167 ?_
      refine az_ist (k := 4) C a29 (az_vin (by decide)) (by decide) dX2_drawSeason_168 ?_
      refine az_aload_n C 0 dX2_drawSeason_169 rfl ?_
      refine az_getr (r := 29) C o28 fl_X2_9 rfl rfl dX2_drawSeason_170 ?_
      refine az_iconst (v := 5) C dX2_drawSeason_173 (by decide) ?_
      refine az_aload_n C 0 dX2_drawSeason_174 rfl ?_
      refine az_getr (r := 30) C o28 fl_X2_22 rfl rfl dX2_drawSeason_175 ?_
      refine az_getr (r := 31) C o30 fl_X2_44 rfl rfl dX2_drawSeason_178 ?_
      refine az_bipush (v := 25) C dX2_drawSeason_181 (by decide) ?_
      refine az_ild (k := 25) C a31 (az_vin (by decide)) (by decide) dX2_drawSeason_183 ?_
      refine az_ist (k := 5) C a29 (az_vin (by decide)) (by decide) dX2_drawSeason_184 ?_
      refine az_aload_n C 0 dX2_drawSeason_185 rfl ?_
      refine az_iconst (v := 1) C dX2_drawSeason_186 (by decide) ?_
      refine az_puti C o28 fl_X2_15 rfl rfl rfl rfl dX2_drawSeason_187 ?_
      refine az_iload_n C 2 dX2_drawSeason_190 rfl ?_
      obtain rfl := Option.some.inj h
      exact az_iret C dX2_drawSeason_191 hp
    · have h := az_f c3 h
      refine az_aload_n C 0 dX2_drawSeason_30 rfl ?_
      refine az_getr (r := 30) C o28 fl_X2_22 rfl rfl dX2_drawSeason_31 ?_
      refine az_getr (r := 31) C o30 fl_X2_44 rfl rfl dX2_drawSeason_34 ?_
      refine az_bipush (v := 25) C dX2_drawSeason_37 (by decide) ?_
      refine az_ild (k := 25) C a31 (az_vin (by decide)) (by decide) dX2_drawSeason_39 ?_
      refine az_istore C dX2_drawSeason_40 (by decide) rfl ?_
      refine az_iload C 0 dX2_drawSeason_42 rfl ?_
      refine az_if_le C 59 dX2_drawSeason_44 (by decide) (fun c4 => ?_) (fun c4 => ?_)
      · have h := az_t c4 h
        refine az_iconst (v := (-1)) C dX2_drawSeason_59 (by decide) ?_
        refine az_sub [1, 2, 3, 4] rfl ?_
        exact s_X2_drawSeason_60 C G (f_X2_drawSeason_24 (az_z V) G F) ih x2 x3 x4 (-1) M r h hp
      · have h := az_f c4 h
        refine az_aload_n C 1 dX2_drawSeason_47 rfl ?_
        refine az_getr (r := 19) C o28 fl_X2_36 rfl rfl dX2_drawSeason_48 ?_
        refine az_iload C 0 dX2_drawSeason_51 rfl ?_
        obtain ⟨q5, e6, h⟩ := az_b h
        refine az_cV (rest := []) (st2 := [.int q5.1]) C [.int (M.1 31 25)] (c_X8_draw C.hL (M.1 31 25) M e6) (by decide) li_X2_85 o19 (by decide) rfl rfl (Nat.le_of_ble_eq_true rfl) dX2_drawSeason_53 rfl ?_
        refine az_goto C 60 dX2_drawSeason_56 (by decide) ?_
        refine az_sub [1, 2, 3, 4] rfl ?_
        exact s_X2_drawSeason_60 C G (f_X2_drawSeason_24 (az_z V) G F) ih x2 x3 x4 q5.1 q5.2 r h hp
set_option maxHeartbeats 4000000 in
set_option maxRecDepth 100000 in
theorem s_X2_drawSeason_e {Y : az_Y} {V : az_V} {post : Option Value → az_M → Prop} (C : az_C Y V cX2_drawSeason 8 RX2 (some .int) 6) (G : Nat) (p0 : Int32) (p1 : Int32) (M : az_M) (r : (Int32 × az_M)) (h : f_X2_drawSeason (az_z V) G p0 p1 M = some r) (hp : post (some (.int r.1)) r.2) : AW Y V (az_end Y V post) 8 M 0 [(0, .ref (az_ad V 28)), (1, .int p0), (2, .int p1)] [] := by
  have o19 := C.hL.at 19 (ci := 8) rfl
  have o28 := C.hL.at 28 (ci := 2) rfl
  have o30 := C.hL.at 30 (ci := 4) rfl
  unfold f_X2_drawSeason at h
  refine az_aload_n C 0 dX2_drawSeason_0 rfl ?_
  refine az_getr (r := 30) C o28 fl_X2_22 rfl rfl dX2_drawSeason_1 ?_
  refine az_aload_n C 0 dX2_drawSeason_4 rfl ?_
  refine az_getr (r := 1) C o28 fl_X2_33 rfl rfl dX2_drawSeason_5 ?_
  obtain ⟨q1, e2, h⟩ := az_b h
  refine az_cV (rest := []) (st2 := []) C [.ref (az_ad V 1)] (c_X4_copy C.hL 30 (C.hL.pv 30 rfl) 1 (C.hL.pv 1 rfl) M e2) (by decide) li_X2_40 o30 (by decide) rfl rfl (Nat.le_of_ble_eq_true rfl) dX2_drawSeason_8 rfl ?_
  refine az_aload_n C 0 dX2_drawSeason_11 rfl ?_
  refine az_getr (r := 19) C o28 fl_X2_36 rfl rfl dX2_drawSeason_12 ?_
  refine az_iload_n C 1 dX2_drawSeason_15 rfl ?_
  refine az_puti C o19 fl_X2_82 rfl rfl rfl rfl dX2_drawSeason_16 ?_
  refine az_iconst (v := 0) C dX2_drawSeason_19 (by decide) ?_
  refine az_istore_n C dX2_drawSeason_20 rfl (by decide) rfl ?_
  refine az_iconst (v := 0) C dX2_drawSeason_21 (by decide) ?_
  refine az_istore C dX2_drawSeason_22 (by decide) rfl ?_
  refine az_sub [2, 4, 1, 0] rfl ?_
  exact s_X2_drawSeason_24 C G G p1 0 0 (az_i q1 19 0 p0) r h hp
theorem c_X2_drawSeason {l : Launch} {V : az_V} (hL : az_L V) (G : Nat) (p0 : Int32) (p1 : Int32) (M : az_M) {r : (Int32 × az_M)} (h : f_X2_drawSeason (az_z V) G p0 p1 M = some r) : az_Ct l V yX2_drawSeason cX2_drawSeason 8 (some .int) 6 [.ref (az_ad V 28), .int p0, .int p1] M (fun v M' => v = some (.int r.1) ∧ M' = r.2) :=
  az_Ct.of (by decide) (Nat.le_of_ble_eq_true rfl) (fun Y _ _ C => s_X2_drawSeason_e C G p0 p1 M r h ⟨rfl, rfl⟩)
