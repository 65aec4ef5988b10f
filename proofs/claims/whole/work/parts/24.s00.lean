set_option maxHeartbeats 4000000 in
set_option maxRecDepth 100000 in
theorem s_X8_setWords_30 {Y : az_Y} {V : az_V} {post : Option Value → az_M → Prop} (C : az_C Y V cX8_setWords 4 RX8 none 1) (a0 : Nat) (ha0 : az_pv V a0) (x3 : Int32) (s0 : Int32) (s1 : Int32) (M : az_M) (r : az_M) (h : f_X8_setWords_30 a0 x3 s0 s1 M = some r) (hp : post none r) : AW Y V (az_end Y V post) 4 M 30 [(0, .ref (az_ad V 19)), (1, .ref (az_ad V a0)), (3, .int x3)] [.int s0, .int s1, .ref (az_ad V 20)] := by
  have o19 := C.hL.at 19 (ci := 8) rfl
  have a20 := C.hL.ar 20 (t := 0) (len := 11) rfl
  unfold f_X8_setWords_30 at h
  obtain ⟨g3, h⟩ := az_g h
  refine az_ist (k := s1.toNatClampNeg) C a20 g3 rfl dX8_setWords_30 ?_
  refine az_aload_n C 0 dX8_setWords_31 rfl ?_
  refine az_getr (r := 20) C o19 fl_X8_9 rfl rfl dX8_setWords_32 ?_
  refine az_iconst (v := 2) C dX8_setWords_35 (by decide) ?_
  refine az_iload_n C 2 dX8_setWords_36 rfl ?_
  refine az_ist (k := 2) C a20 (az_vin (by decide)) (by decide) dX8_setWords_37 ?_
  refine az_aload_n C 0 dX8_setWords_38 rfl ?_
  refine az_getr (r := 20) C o19 fl_X8_9 rfl rfl dX8_setWords_39 ?_
  refine az_iconst (v := 3) C dX8_setWords_42 (by decide) ?_
  refine az_aload_n C 1 dX8_setWords_43 rfl ?_
  refine az_getr (r := (a0 + 1)) C ha0.1 fl_X8_65 rfl rfl dX8_setWords_44 ?_
  refine az_bipush (v := 27) C dX8_setWords_47 (by decide) ?_
  refine az_iload_n C 2 dX8_setWords_49 rfl ?_
  refine az_iadd C dX8_setWords_50 ?_
  obtain ⟨g4, h⟩ := az_g h
  refine az_ild (k := (27 + x3).toNatClampNeg) C ha0.2 g4 rfl dX8_setWords_51 ?_
  refine az_ist (k := 3) C a20 (az_vin (by decide)) (by decide) dX8_setWords_52 ?_
  refine az_aload_n C 0 dX8_setWords_53 rfl ?_
  refine az_getr (r := 20) C o19 fl_X8_9 rfl rfl dX8_setWords_54 ?_
  refine az_iconst (v := 4) C dX8_setWords_57 (by decide) ?_
  refine az_aload_n C 1 dX8_setWords_58 rfl ?_
  refine az_getr (r := (a0 + 1)) C ha0.1 fl_X8_65 rfl rfl dX8_setWords_59 ?_
  refine az_bipush (v := 39) C dX8_setWords_62 (by decide) ?_
  refine az_iload_n C 2 dX8_setWords_64 rfl ?_
  refine az_iadd C dX8_setWords_65 ?_
  obtain ⟨g5, h⟩ := az_g h
  refine az_ild (k := (39 + x3).toNatClampNeg) C ha0.2 g5 rfl dX8_setWords_66 ?_
  refine az_ist (k := 4) C a20 (az_vin (by decide)) (by decide) dX8_setWords_67 ?_
  refine az_aload_n C 0 dX8_setWords_68 rfl ?_
  refine az_getr (r := 20) C o19 fl_X8_9 rfl rfl dX8_setWords_69 ?_
  refine az_iconst (v := 5) C dX8_setWords_72 (by decide) ?_
  refine az_aload_n C 1 dX8_setWords_73 rfl ?_
  refine az_getr (r := (a0 + 1)) C ha0.1 fl_X8_65 rfl rfl dX8_setWords_74 ?_
  refine az_iconst (v := 4) C dX8_setWords_77 (by decide) ?_
  refine az_iload_n C 2 dX8_setWords_78 rfl ?_
  refine az_iadd C dX8_setWords_79 ?_
  obtain ⟨g6, h⟩ := az_g h
  refine az_ild (k := (4 + x3).toNatClampNeg) C ha0.2 g6 rfl dX8_setWords_80 ?_
  refine az_ist (k := 5) C a20 (az_vin (by decide)) (by decide) dX8_setWords_81 ?_
  refine az_aload_n C 0 dX8_setWords_82 rfl ?_
  refine az_getr (r := 20) C o19 fl_X8_9 rfl rfl dX8_setWords_83 ?_
  refine az_bipush (v := 6) C dX8_setWords_86 (by decide) ?_
  refine az_aload_n C 1 dX8_setWords_88 rfl ?_
  refine az_getr (r := (a0 + 1)) C ha0.1 fl_X8_65 rfl rfl dX8_setWords_89 ?_
  refine az_iconst (v := 0) C dX8_setWords_92 (by decide) ?_
  refine az_ild (k := 0) C ha0.2 (az_vin (by decide)) (by decide) dX8_setWords_93 ?_
  refine az_ist (k := 6) C a20 (az_vin (by decide)) (by decide) dX8_setWords_94 ?_
  refine az_aload_n C 0 dX8_setWords_95 rfl ?_
  refine az_getr (r := 20) C o19 fl_X8_9 rfl rfl dX8_setWords_96 ?_
  refine az_bipush (v := 7) C dX8_setWords_99 (by decide) ?_
  refine az_aload_n C 1 dX8_setWords_101 rfl ?_
  refine az_getr (r := (a0 + 1)) C ha0.1 fl_X8_65 rfl rfl dX8_setWords_102 ?_
  refine az_iconst (v := 1) C dX8_setWords_105 (by decide) ?_
  refine az_ild (k := 1) C ha0.2 (az_vin (by decide)) (by decide) dX8_setWords_106 ?_
  refine az_ist (k := 7) C a20 (az_vin (by decide)) (by decide) dX8_setWords_107 ?_
  refine az_aload_n C 0 dX8_setWords_108 rfl ?_
  refine az_getr (r := 20) C o19 fl_X8_9 rfl rfl dX8_setWords_109 ?_
  refine az_bipush (v := 8) C dX8_setWords_112 (by decide) ?_
  refine az_aload_n C 1 dX8_setWords_114 rfl ?_
  refine az_getr (r := (a0 + 1)) C ha0.1 fl_X8_65 rfl rfl dX8_setWords_115 ?_
  refine az_iconst (v := 2) C dX8_setWords_118 (by decide) ?_
  refine az_ild (k := 2) C ha0.2 (az_vin (by decide)) (by decide) dX8_setWords_119 ?_
  refine az_ist (k := 8) C a20 (az_vin (by decide)) (by decide) dX8_setWords_120 ?_
  refine az_aload_n C 0 dX8_setWords_121 rfl ?_
  refine az_getr (r := 20) C o19 fl_X8_9 rfl rfl dX8_setWords_122 ?_
  refine az_bipush (v := 9) C dX8_setWords_125 (by decide) ?_
  refine az_aload_n C 1 dX8_setWords_127 rfl ?_
  refine az_getr (r := (a0 + 1)) C ha0.1 fl_X8_65 rfl rfl dX8_setWords_128 ?_
  refine az_bipush (v := 16) C dX8_setWords_131 (by decide) ?_
  refine az_ild (k := 16) C ha0.2 (az_vin (by decide)) (by decide) dX8_setWords_133 ?_
  refine az_ist (k := 9) C a20 (az_vin (by decide)) (by decide) dX8_setWords_134 ?_
  refine az_aload_n C 0 dX8_setWords_135 rfl ?_
  refine az_getr (r := 20) C o19 fl_X8_9 rfl rfl dX8_setWords_136 ?_
  refine az_bipush (v := 10) C dX8_setWords_139 (by decide) ?_
  refine az_aload_n C 1 dX8_setWords_141 rfl ?_
  refine az_getr (r := (a0 + 1)) C ha0.1 fl_X8_65 rfl rfl dX8_setWords_142 ?_
  refine az_bipush (v := 20) C dX8_setWords_145 (by decide) ?_
  refine az_ild (k := 20) C ha0.2 (az_vin (by decide)) (by decide) dX8_setWords_147 ?_
  refine az_ist (k := 10) C a20 (az_vin (by decide)) (by decide) dX8_setWords_148 ?_
  obtain rfl := Option.some.inj h
  exact az_vret C rfl dX8_setWords_149 hp
set_option maxHeartbeats 4000000 in
set_option maxRecDepth 100000 in
theorem s_X8_setWords_e {Y : az_Y} {V : az_V} {post : Option Value → az_M → Prop} (C : az_C Y V cX8_setWords 4 RX8 none 1) (a0 : Nat) (ha0 : az_pv V a0) (p1 : Int32) (p2 : Int32) (M : az_M) (r : az_M) (h : f_X8_setWords a0 p1 p2 M = some r) (hp : post none r) : AW Y V (az_end Y V post) 4 M 0 [(0, .ref (az_ad V 19)), (1, .ref (az_ad V a0)), (2, .int p1), (3, .int p2)] [] := by
  have o19 := C.hL.at 19 (ci := 8) rfl
  have a20 := C.hL.ar 20 (t := 0) (len := 11) rfl
  unfold f_X8_setWords at h
  refine az_aload_n C 0 dX8_setWords_0 rfl ?_
  refine az_getr (r := 20) C o19 fl_X8_9 rfl rfl dX8_setWords_1 ?_
  refine az_iconst (v := 0) C dX8_setWords_4 (by decide) ?_
  refine az_iload_n C 2 dX8_setWords_5 rfl ?_
  refine az_ist (k := 0) C a20 (az_vin (by decide)) (by decide) dX8_setWords_6 ?_
  refine az_aload_n C 0 dX8_setWords_7 rfl ?_
  refine az_getr (r := 20) C o19 fl_X8_9 rfl rfl dX8_setWords_8 ?_
  refine az_iconst (v := 1) C dX8_setWords_11 (by decide) ?_
  refine az_iload_n C 2 dX8_setWords_12 rfl ?_
  refine az_iconst (v := (-1)) C dX8_setWords_13 (by decide) ?_
  refine az_icmp_ne C 21 dX8_setWords_14 (by decide) (fun c1 => ?_) (fun c1 => ?_)
  · have h := az_f c1 h
    refine az_aload_n C 1 dX8_setWords_21 rfl ?_
    refine az_getr (r := (a0 + 1)) C ha0.1 fl_X8_65 rfl rfl dX8_setWords_22 ?_
    refine az_bipush (v := 63) C dX8_setWords_25 (by decide) ?_
    refine az_iload_n C 2 dX8_setWords_27 rfl ?_
    refine az_iadd C dX8_setWords_28 ?_
    obtain ⟨g2, h⟩ := az_g h
    refine az_ild (k := (63 + p1).toNatClampNeg) C ha0.2 g2 rfl dX8_setWords_29 ?_
    refine az_sub [0, 1, 3] rfl ?_
    exact s_X8_setWords_30 C a0 ha0 p2 ((az_i M 20 0 p1).1 (a0 + 1) ((63 + p1).toNatClampNeg)) 1 (az_i M 20 0 p1) r h hp
  · have h := az_t c1 h
    refine az_iconst (v := (-1)) C dX8_setWords_17 (by decide) ?_
    refine az_goto C 30 dX8_setWords_18 (by decide) ?_
    refine az_sub [0, 1, 3] rfl ?_
    exact s_X8_setWords_30 C a0 ha0 p2 (-1) 1 (az_i M 20 0 p1) r h hp
theorem c_X8_setWords {l : Launch} {V : az_V} (hL : az_L V) (a0 : Nat) (ha0 : az_pv V a0) (p1 : Int32) (p2 : Int32) (M : az_M) {r : az_M} (h : f_X8_setWords a0 p1 p2 M = some r) : az_Ct l V yX8_setWords cX8_setWords 4 none 1 [.ref (az_ad V 19), .ref (az_ad V a0), .int p1, .int p2] M (fun v M' => v = none ∧ M' = r) :=
  az_Ct.of (by decide) (Nat.le_of_ble_eq_true rfl) (fun Y _ _ C => s_X8_setWords_e C a0 ha0 p1 p2 M r h ⟨rfl, rfl⟩)
set_option maxHeartbeats 4000000 in
set_option maxRecDepth 100000 in
theorem s_X8_withoutLaw_e {Y : az_Y} {V : az_V} {post : Option Value → az_M → Prop} (C : az_C Y V cX8_withoutLaw 4 RX8 (some .int) 1) (a0 : Nat) (ha0 : az_pv V a0) (p1 : Int32) (p2 : Int32) (p3 : Int32) (M : az_M) (r : Int32) (h : f_X8_withoutLaw a0 p1 p2 p3 M = some r) (hp : post (some (.int r)) M) : AW Y V (az_end Y V post) 4 M 0 [(0, .ref (az_ad V a0)), (1, .int p1), (2, .int p2), (3, .int p3)] [] := by
  unfold f_X8_withoutLaw at h
  refine az_iload_n C 1 dX8_withoutLaw_0 rfl ?_
  by_cases c1 : p1 = 0
  · have h := az_t c1 h
    refine az_tabIn (off := 31) C 32 dX8_withoutLaw_1 (by rw [c1]; decide) (by rw [c1]; decide) (by rw [c1]; decide) (by decide) ?_
    refine az_aload_n C 0 dX8_withoutLaw_32 rfl ?_
    refine az_getr (r := (a0 + 1)) C ha0.1 fl_X8_65 rfl rfl dX8_withoutLaw_33 ?_
    refine az_bipush (v := 63) C dX8_withoutLaw_36 (by decide) ?_
    refine az_iload_n C 2 dX8_withoutLaw_38 rfl ?_
    refine az_iadd C dX8_withoutLaw_39 ?_
    obtain ⟨g2, h⟩ := az_g h
    refine az_ild (k := (63 + p2).toNatClampNeg) C ha0.2 g2 rfl dX8_withoutLaw_40 ?_
    obtain rfl := Option.some.inj h
    exact az_iret C dX8_withoutLaw_41 hp
  have h := az_f c1 h
  have nc1 := lv_neT c1 (a := 0) (by decide)
  by_cases c3 : p1 = 1
  · have h := az_t c3 h
    refine az_tabIn (off := 41) C 42 dX8_withoutLaw_1 (by rw [c3]; decide) (by rw [c3]; decide) (by rw [c3]; decide) (by decide) ?_
    refine az_aload_n C 0 dX8_withoutLaw_42 rfl ?_
    refine az_getr (r := (a0 + 1)) C ha0.1 fl_X8_65 rfl rfl dX8_withoutLaw_43 ?_
    refine az_bipush (v := 39) C dX8_withoutLaw_46 (by decide) ?_
    refine az_iload_n C 3 dX8_withoutLaw_48 rfl ?_
    refine az_iadd C dX8_withoutLaw_49 ?_
    obtain ⟨g4, h⟩ := az_g h
    refine az_ild (k := (39 + p3).toNatClampNeg) C ha0.2 g4 rfl dX8_withoutLaw_50 ?_
    refine az_bipush (v := 10) C dX8_withoutLaw_51 (by decide) ?_
    refine az_idiv C dX8_withoutLaw_53 (by decide) ?_
    obtain rfl := Option.some.inj h
    exact az_iret C dX8_withoutLaw_54 hp
  have h := az_f c3 h
  have nc3 := lv_neT c3 (a := 1) (by decide)
  by_cases c5 : p1 = 2
  · have h := az_t c5 h
    refine az_tabIn (off := 54) C 55 dX8_withoutLaw_1 (by rw [c5]; decide) (by rw [c5]; decide) (by rw [c5]; decide) (by decide) ?_
    refine az_aload_n C 0 dX8_withoutLaw_55 rfl ?_
    refine az_getr (r := (a0 + 1)) C ha0.1 fl_X8_65 rfl rfl dX8_withoutLaw_56 ?_
    refine az_bipush (v := 39) C dX8_withoutLaw_59 (by decide) ?_
    refine az_iload_n C 3 dX8_withoutLaw_61 rfl ?_
    refine az_iadd C dX8_withoutLaw_62 ?_
    obtain ⟨g6, h⟩ := az_g h
    refine az_ild (k := (39 + p3).toNatClampNeg) C ha0.2 g6 rfl dX8_withoutLaw_63 ?_
    refine az_bipush (v := 20) C dX8_withoutLaw_64 (by decide) ?_
    refine az_idiv C dX8_withoutLaw_66 (by decide) ?_
    obtain rfl := Option.some.inj h
    exact az_iret C dX8_withoutLaw_67 hp
  have h := az_f c5 h
  have nc5 := lv_neT c5 (a := 2) (by decide)
  by_cases c7 : p1 = 3
  · have h := az_t c7 h
    refine az_tabIn (off := 67) C 68 dX8_withoutLaw_1 (by rw [c7]; decide) (by rw [c7]; decide) (by rw [c7]; decide) (by decide) ?_
    refine az_aload_n C 0 dX8_withoutLaw_68 rfl ?_
    refine az_getr (r := (a0 + 1)) C ha0.1 fl_X8_65 rfl rfl dX8_withoutLaw_69 ?_
    refine az_iconst (v := 4) C dX8_withoutLaw_72 (by decide) ?_
    refine az_iload_n C 3 dX8_withoutLaw_73 rfl ?_
    refine az_iadd C dX8_withoutLaw_74 ?_
    obtain ⟨g8, h⟩ := az_g h
    refine az_ild (k := (4 + p3).toNatClampNeg) C ha0.2 g8 rfl dX8_withoutLaw_75 ?_
    refine az_bipush (v := 10) C dX8_withoutLaw_76 (by decide) ?_
    refine az_imul C dX8_withoutLaw_78 ?_
    obtain rfl := Option.some.inj h
    exact az_iret C dX8_withoutLaw_79 hp
  have h := az_f c7 h
  have nc7 := lv_neT c7 (a := 3) (by decide)
  refine az_tabOut C 80 dX8_withoutLaw_1 (by omega) (by decide) ?_
  refine az_iconst (v := 0) C dX8_withoutLaw_80 (by decide) ?_
  obtain rfl := Option.some.inj h
  exact az_iret C dX8_withoutLaw_81 hp
theorem c_X8_withoutLaw {l : Launch} {V : az_V} (hL : az_L V) (a0 : Nat) (ha0 : az_pv V a0) (p1 : Int32) (p2 : Int32) (p3 : Int32) (M : az_M) {r : Int32} (h : f_X8_withoutLaw a0 p1 p2 p3 M = some r) : az_Ct l V yX8_withoutLaw cX8_withoutLaw 4 (some .int) 1 [.ref (az_ad V a0), .int p1, .int p2, .int p3] M (fun v M' => v = some (.int r) ∧ M' = M) :=
  az_Ct.of (by decide) (Nat.le_of_ble_eq_true rfl) (fun Y _ _ C => s_X8_withoutLaw_e C a0 ha0 p1 p2 p3 M r h ⟨rfl, rfl⟩)
set_option maxHeartbeats 4000000 in
set_option maxRecDepth 100000 in
theorem s_X8_ask_153 {Y : az_Y} {V : az_V} {post : Option Value → az_M → Prop} (C : az_C Y V cX8_ask 9 RX8 (some .int) 3) (G : Nat) (a0 : Nat) (ha0 : az_pv V a0) (K35 : (Int32 → Int32 → Int32 → Nat → Int32 → Int32 → az_M → Option (Int32 × az_M))) (hK35 : ∀ (x2 : Int32) (x3 : Int32) (x4 : Int32) (x5 : Nat) (htx5 : az_tx V x5) (x6 : Int32) (x7 : Int32) (M : az_M) (r : (Int32 × az_M)), K35 x2 x3 x4 x5 x6 x7 M = some r → post (some (.int r.1)) r.2 → AW Y V (az_end Y V post) 9 M 35 [(0, .ref (az_ad V 19)), (1, .ref (az_ad V a0)), (2, .int x2), (3, .int x3), (4, .int x4), (5, .ref (az_ad V x5)), (6, .int x6), (7, .int x7)] []) (x2 : Int32) (x3 : Int32) (x4 : Int32) (x5 : Nat) (htx5 : az_tx V x5) (x6 : Int32) (x7 : Int32) (M : az_M) (r : (Int32 × az_M)) (h : f_X8_ask_153 (az_z V) G a0 K35 x2 x3 x4 x5 x6 x7 M = some r) (hp : post (some (.int r.1)) r.2) : AW Y V (az_end Y V post) 9 M 153 [(0, .ref (az_ad V 19)), (1, .ref (az_ad V a0)), (2, .int x2), (3, .int x3), (4, .int x4), (5, .ref (az_ad V x5)), (6, .int x6), (7, .int x7)] [] := by
  unfold f_X8_ask_153 at h
  refine az_iinc (v := (x7 + (-1))) C 7 dX8_ask_153 rfl rfl (by decide) rfl ?_
  refine az_goto C 35 dX8_ask_156 (by decide) ?_
  refine az_sub [1, 2, 3, 4, 5, 6, 7, 0] rfl ?_
  exact hK35 x2 x3 x4 x5 htx5 x6 (x7 + (-1)) M r h hp
set_option maxHeartbeats 4000000 in
set_option maxRecDepth 100000 in
theorem s_X8_ask_68 {Y : az_Y} {V : az_V} {post : Option Value → az_M → Prop} (C : az_C Y V cX8_ask 9 RX8 (some .int) 3) (G : Nat) (a0 : Nat) (ha0 : az_pv V a0) (K35 : (Int32 → Int32 → Int32 → Nat → Int32 → Int32 → az_M → Option (Int32 × az_M))) (hK35 : ∀ (x2 : Int32) (x3 : Int32) (x4 : Int32) (x5 : Nat) (htx5 : az_tx V x5) (x6 : Int32) (x7 : Int32) (M : az_M) (r : (Int32 × az_M)), K35 x2 x3 x4 x5 x6 x7 M = some r → post (some (.int r.1)) r.2 → AW Y V (az_end Y V post) 9 M 35 [(0, .ref (az_ad V 19)), (1, .ref (az_ad V a0)), (2, .int x2), (3, .int x3), (4, .int x4), (5, .ref (az_ad V x5)), (6, .int x6), (7, .int x7)] []) (x2 : Int32) (x3 : Int32) (x4 : Int32) (x5 : Nat) (htx5 : az_tx V x5) (x6 : Int32) (x7 : Int32) (M : az_M) (r : (Int32 × az_M)) (h : f_X8_ask_68 (az_z V) G a0 K35 x2 x3 x4 x5 x6 x7 M = some r) (hp : post (some (.int r.1)) r.2) : AW Y V (az_end Y V post) 9 M 68 [(0, .ref (az_ad V 19)), (1, .ref (az_ad V a0)), (2, .int x2), (3, .int x3), (4, .int x4), (5, .ref (az_ad V x5)), (6, .int x6), (7, .int x7)] [] := by
  have o13 := C.hL.at 13 (ci := 6) rfl
  have o19 := C.hL.at 19 (ci := 8) rfl
  unfold f_X8_ask_68 at h
  refine az_aload_n C 0 dX8_ask_68 rfl ?_
  refine az_getr (r := 13) C o19 fl_X8_19 rfl rfl dX8_ask_69 ?_
  refine az_aload C 5 dX8_ask_72 rfl ?_
  refine az_aload C 5 dX8_ask_74 rfl ?_
  refine az_iload C 7 dX8_ask_76 rfl ?_
  refine az_iconst (v := 4) C dX8_ask_78 (by decide) ?_
  obtain ⟨q18, e19, h⟩ := az_b h
  refine az_cV (rest := [.ref (az_ad V x5), .ref (az_ad V 13)]) (st2 := [.int q18, .ref (az_ad V x5), .ref (az_ad V 13)]) C [.int x7, .int 4] (c_X10_get C.hL x5 htx5 x7 4 M e19) (by decide) li_X8_39 htx5.1 (by decide) rfl rfl (Nat.le_of_ble_eq_true rfl) dX8_ask_79 rfl ?_
  refine az_aload C 5 dX8_ask_82 rfl ?_
  refine az_iload C 7 dX8_ask_84 rfl ?_
  refine az_iconst (v := 5) C dX8_ask_86 (by decide) ?_
  obtain ⟨q20, e21, h⟩ := az_b h
  refine az_cV (rest := [.int q18, .ref (az_ad V x5), .ref (az_ad V 13)]) (st2 := [.int q20, .int q18, .ref (az_ad V x5), .ref (az_ad V 13)]) C [.int x7, .int 5] (c_X10_get C.hL x5 htx5 x7 5 M e21) (by decide) li_X8_39 htx5.1 (by decide) rfl rfl (Nat.le_of_ble_eq_true rfl) dX8_ask_87 rfl ?_
  refine az_aload_n C 0 dX8_ask_90 rfl ?_
  refine az_getr (r := 20) C o19 fl_X8_9 rfl rfl dX8_ask_91 ?_
  obtain ⟨q22, e23, h⟩ := az_b h
  refine az_cV (rest := []) (st2 := [.int q22.1]) C [.ref (az_ad V x5), .int q18, .int q20, .ref (az_ad V 20)] (c_X6_reckon C.hL G x5 htx5 20 (C.hL.ai 20 rfl) q18 q20 M e23) (by decide) li_X8_47 o13 (by decide) rfl rfl (Nat.le_of_ble_eq_true rfl) dX8_ask_94 rfl ?_
  refine az_if_le C 153 dX8_ask_97 (by decide) (fun c24 => ?_) (fun c24 => ?_)
  · have h := az_t c24 h
    exact s_X8_ask_153 C G a0 ha0 K35 hK35 x2 x3 x4 x5 htx5 x6 x7 q22.2 r h hp
  · have h := az_f c24 h
    refine az_aload_n C 0 dX8_ask_100 rfl ?_
    refine az_getr (r := 13) C o19 fl_X8_19 rfl rfl dX8_ask_101 ?_
    refine az_aload C 5 dX8_ask_104 rfl ?_
    refine az_aload C 5 dX8_ask_106 rfl ?_
    refine az_iload C 7 dX8_ask_108 rfl ?_
    refine az_iconst (v := 2) C dX8_ask_110 (by decide) ?_
    obtain ⟨q25, e26, h⟩ := az_b h
    refine az_cV (rest := [.ref (az_ad V x5), .ref (az_ad V 13)]) (st2 := [.int q25, .ref (az_ad V x5), .ref (az_ad V 13)]) C [.int x7, .int 2] (c_X10_get C.hL x5 htx5 x7 2 q22.2 e26) (by decide) li_X8_39 htx5.1 (by decide) rfl rfl (Nat.le_of_ble_eq_true rfl) dX8_ask_111 rfl ?_
    refine az_aload C 5 dX8_ask_114 rfl ?_
    refine az_iload C 7 dX8_ask_116 rfl ?_
    refine az_iconst (v := 3) C dX8_ask_118 (by decide) ?_
    obtain ⟨q27, e28, h⟩ := az_b h
    refine az_cV (rest := [.int q25, .ref (az_ad V x5), .ref (az_ad V 13)]) (st2 := [.int q27, .int q25, .ref (az_ad V x5), .ref (az_ad V 13)]) C [.int x7, .int 3] (c_X10_get C.hL x5 htx5 x7 3 q22.2 e28) (by decide) li_X8_39 htx5.1 (by decide) rfl rfl (Nat.le_of_ble_eq_true rfl) dX8_ask_119 rfl ?_
    refine az_aload_n C 0 dX8_ask_122 rfl ?_
    refine az_getr (r := 20) C o19 fl_X8_9 rfl rfl dX8_ask_123 ?_
    obtain ⟨q29, e30, h⟩ := az_b h
    refine az_cV (rest := []) (st2 := [.int q29.1]) C [.ref (az_ad V x5), .int q25, .int q27, .ref (az_ad V 20)] (c_X6_reckon C.hL G x5 htx5 20 (C.hL.ai 20 rfl) q25 q27 q22.2 e30) (by decide) li_X8_47 o13 (by decide) rfl rfl (Nat.le_of_ble_eq_true rfl) dX8_ask_126 rfl ?_
    refine az_istore C dX8_ask_129 (by decide) rfl ?_
    refine az_iload C 0 dX8_ask_131 rfl ?_
    refine az_ldc C ck_X8_53 dX8_ask_133 ?_
    refine az_icmp_eq C 153 dX8_ask_135 (by decide) (fun c31 => ?_) (fun c31 => ?_)
    · have h := az_t c31 h
      refine az_sub [1, 2, 3, 4, 5, 6, 7, 8] rfl ?_
      exact s_X8_ask_153 C G a0 ha0 K35 hK35 x2 x3 x4 x5 htx5 x6 x7 q29.2 r h hp
    · have h := az_f c31 h
      refine az_iconst (v := 0) C dX8_ask_138 (by decide) ?_
      refine az_gstN C dX8_ask_139 ?_
      refine az_iload_n C 3 dX8_ask_142 rfl ?_
      obtain ⟨g32, h⟩ := az_g h
      refine az_gld (k := x2.toNatClampNeg) (len := 5) C (by decide) (by decide) g32 rfl dX8_ask_143 ?_
      refine az_iload C 0 dX8_ask_144 rfl ?_
      refine az_min C (by decide) lm_X8_57 (Nat.le_of_ble_eq_true rfl) dX8_ask_146 ?_
      refine az_max C (by decide) lm_X8_62 (Nat.le_of_ble_eq_true rfl) dX8_ask_149 ?_
      obtain rfl := Option.some.inj h
      exact az_iret C dX8_ask_152 hp
set_option maxHeartbeats 4000000 in
set_option maxRecDepth 100000 in
theorem s_X8_ask_35 {Y : az_Y} {V : az_V} {post : Option Value → az_M → Prop} (C : az_C Y V cX8_ask 9 RX8 (some .int) 3) (G : Nat) (a0 : Nat) (ha0 : az_pv V a0) : ∀ (F : Nat) (x2 : Int32) (x3 : Int32) (x4 : Int32) (x5 : Nat) (htx5 : az_tx V x5) (x6 : Int32) (x7 : Int32) (M : az_M) (r : (Int32 × az_M)), f_X8_ask_35 (az_z V) G a0 F x2 x3 x4 x5 x6 x7 M = some r → post (some (.int r.1)) r.2 → AW Y V (az_end Y V post) 9 M 35 [(0, .ref (az_ad V 19)), (1, .ref (az_ad V a0)), (2, .int x2), (3, .int x3), (4, .int x4), (5, .ref (az_ad V x5)), (6, .int x6), (7, .int x7)] [] := by
  have o19 := C.hL.at 19 (ci := 8) rfl
  intro F
  induction F with
  | zero =>
    intro x2 x3 x4 x5 htx5 x6 x7 M r h
    exact absurd (show (none : Option (Int32 × az_M)) = some r from h) (fun q => by cases q)
  | succ F ih =>
    intro x2 x3 x4 x5 htx5 x6 x7 M r h hp
    rw [f_X8_ask_35] at h
    refine az_iload C 7 dX8_ask_35 rfl ?_
    refine az_if_lt C 159 dX8_ask_37 (by decide) (fun c9 => ?_) (fun c9 => ?_)
    · have h := az_t c9 h
      refine az_aload_n C 1 dX8_ask_159 rfl ?_
      refine az_iload_n C 2 dX8_ask_160 rfl ?_
      refine az_iload_n C 3 dX8_ask_161 rfl ?_
      refine az_iload C 4 dX8_ask_162 rfl ?_
      obtain ⟨q10, e11, h⟩ := az_b h
      refine az_cS (rest := []) (st2 := [.int q10]) C [.ref (az_ad V a0), .int x2, .int x3, .int x4] (c_X8_withoutLaw C.hL a0 ha0 x2 x3 x4 M e11) (by decide) li_X8_29 rfl rfl (Nat.le_of_ble_eq_true rfl) dX8_ask_164 rfl ?_
      obtain rfl := Option.some.inj h
      exact az_iret C dX8_ask_167 hp
    · have h := az_f c9 h
      refine az_aload C 5 dX8_ask_40 rfl ?_
      refine az_iload C 7 dX8_ask_42 rfl ?_
      refine az_iconst (v := 0) C dX8_ask_44 (by decide) ?_
      obtain ⟨q12, e13, h⟩ := az_b h
      refine az_cV (rest := []) (st2 := [.int q12]) C [.int x7, .int 0] (c_X10_get C.hL x5 htx5 x7 0 M e13) (by decide) li_X8_39 htx5.1 (by decide) rfl rfl (Nat.le_of_ble_eq_true rfl) dX8_ask_45 rfl ?_
      refine az_iload_n C 2 dX8_ask_48 rfl ?_
      refine az_icmp_ne C 153 dX8_ask_49 (by decide) (fun c14 => ?_) (fun c14 => ?_)
      · have h := az_f c14 h
        exact s_X8_ask_153 C G a0 ha0 (f_X8_ask_35 (az_z V) G a0 F) ih x2 x3 x4 x5 htx5 x6 x7 M r h hp
      · have h := az_t c14 h
        refine az_iload C 6 dX8_ask_52 rfl ?_
        refine az_if_ne C 68 dX8_ask_54 (by decide) (fun c15 => ?_) (fun c15 => ?_)
        · have h := az_f c15 h
          exact s_X8_ask_68 C G a0 ha0 (f_X8_ask_35 (az_z V) G a0 F) ih x2 x3 x4 x5 htx5 x6 x7 M r h hp
        · have h := az_t c15 h
          refine az_aload_n C 0 dX8_ask_57 rfl ?_
          refine az_aload_n C 1 dX8_ask_58 rfl ?_
          refine az_iload_n C 3 dX8_ask_59 rfl ?_
          refine az_iload C 4 dX8_ask_60 rfl ?_
          obtain ⟨q16, e17, h⟩ := az_b h
          refine az_cV (rest := []) (st2 := []) C [.ref (az_ad V a0), .int x3, .int x4] (c_X8_setWords C.hL a0 ha0 x3 x4 M e17) (by decide) li_X8_43 o19 (by decide) rfl rfl (Nat.le_of_ble_eq_true rfl) dX8_ask_62 rfl ?_
          refine az_iconst (v := 1) C dX8_ask_65 (by decide) ?_
          refine az_istore C dX8_ask_66 (by decide) rfl ?_
          refine az_sub [1, 2, 3, 4, 5, 6, 0, 7] rfl ?_
          exact s_X8_ask_68 C G a0 ha0 (f_X8_ask_35 (az_z V) G a0 F) ih x2 x3 x4 x5 htx5 1 x7 q16 r h hp
set_option maxHeartbeats 4000000 in
set_option maxRecDepth 100000 in
theorem s_X8_ask_e {Y : az_Y} {V : az_V} {post : Option Value → az_M → Prop} (C : az_C Y V cX8_ask 9 RX8 (some .int) 3) (G : Nat) (a0 : Nat) (ha0 : az_pv V a0) (p1 : Int32) (p2 : Int32) (p3 : Int32) (M : az_M) (r : (Int32 × az_M)) (h : f_X8_ask (az_z V) G a0 p1 p2 p3 M = some r) (hp : post (some (.int r.1)) r.2) : AW Y V (az_end Y V post) 9 M 0 [(0, .ref (az_ad V 19)), (1, .ref (az_ad V a0)), (2, .int p1), (3, .int p2), (4, .int p3)] [] := by
  have o3 := C.hL.at 3 (ci := 0) rfl
  have o19 := C.hL.at 19 (ci := 8) rfl
  unfold f_X8_ask at h
  refine az_aload_n C 0 dX8_ask_0 rfl ?_
  refine az_getr (r := 3) C o19 fl_X8_15 rfl rfl dX8_ask_1 ?_
  obtain ⟨q1, e2, h⟩ := az_b h
  refine az_cV (rest := []) (st2 := [va_rf (q1.map (az_ad V))]) C [] (c_X0_lawInForce C.hL 3 (C.hL.bk 3 rfl) M e2) (by decide) li_X8_23 o3 (by decide) rfl rfl (Nat.le_of_ble_eq_true rfl) dX8_ask_4 rfl ?_
  refine az_astoreO C dX8_ask_7 (by decide) rfl ?_
  refine az_aloadO C 0 dX8_ask_9 rfl ?_
  refine az_ifnonnull C 23 dX8_ask_11 (by decide) (fun c3 => ?_) (fun c3 => ?_)
  · have h := az_f c3 h
    refine az_iconst (v := 0) C dX8_ask_23 (by decide) ?_
    refine az_istore (lv' := [(6, .int 0), (5, va_rf (q1.map (az_ad V))), (0, .ref (az_ad V 19)), (1, .ref (az_ad V a0)), (2, .int p1), (3, .int p2), (4, .int p3)]) C dX8_ask_24 (by decide) (by cases q1 <;> rfl) ?_
    refine az_aloadO C 1 dX8_ask_26 rfl ?_
    obtain ⟨t6, e7, h⟩ := az_b h
    obtain ⟨g8, h⟩ := az_g2 h
    have htt6 := az_tok.tx g8
    refine az_eqlv (lv' := [(6, .int 0), (5, .ref (az_ad V t6)), (0, .ref (az_ad V 19)), (1, .ref (az_ad V a0)), (2, .int p1), (3, .int p2), (4, .int p3)]) (by rw [e7]; rfl) ?_
    refine az_eqst (st' := [.ref (az_ad V t6)]) (by rw [e7]; rfl) ?_
    refine az_geti C htt6.1 fl_X8_33 rfl dX8_ask_28 ?_
    refine az_iconst (v := 1) C dX8_ask_31 (by decide) ?_
    refine az_isub C dX8_ask_32 ?_
    refine az_istore C dX8_ask_33 (by decide) rfl ?_
    refine az_sub [3, 4, 5, 6, 7, 2, 1, 0] rfl ?_
    exact s_X8_ask_35 C G a0 ha0 G p1 p2 p3 t6 htt6 0 ((M.1 t6 3) - 1) M r h hp
  · have h := az_t c3 h
    refine az_aload_n C 2 dX8_ask_14 rfl ?_
    refine az_iload_n C 3 dX8_ask_15 rfl ?_
    refine az_iload_n C 4 dX8_ask_16 rfl ?_
    refine az_iload C 5 dX8_ask_17 rfl ?_
    obtain ⟨q4, e5, h⟩ := az_b h
    refine az_cS (rest := []) (st2 := [.int q4]) C [.ref (az_ad V a0), .int p1, .int p2, .int p3] (c_X8_withoutLaw C.hL a0 ha0 p1 p2 p3 M e5) (by decide) li_X8_29 rfl rfl (Nat.le_of_ble_eq_true rfl) dX8_ask_19 rfl ?_
    obtain rfl := Option.some.inj h
    exact az_iret C dX8_ask_22 hp
theorem c_X8_ask {l : Launch} {V : az_V} (hL : az_L V) (G : Nat) (a0 : Nat) (ha0 : az_pv V a0) (p1 : Int32) (p2 : Int32) (p3 : Int32) (M : az_M) {r : (Int32 × az_M)} (h : f_X8_ask (az_z V) G a0 p1 p2 p3 M = some r) : az_Ct l V yX8_ask cX8_ask 9 (some .int) 3 [.ref (az_ad V 19), .ref (az_ad V a0), .int p1, .int p2, .int p3] M (fun v M' => v = some (.int r.1) ∧ M' = r.2) :=
  az_Ct.of (by decide) (Nat.le_of_ble_eq_true rfl) (fun Y _ _ C => s_X8_ask_e C G a0 ha0 p1 p2 p3 M r h ⟨rfl, rfl⟩)
set_option maxHeartbeats 4000000 in
set_option maxRecDepth 100000 in
theorem s_X8_shoot_161 {Y : az_Y} {V : az_V} {post : Option Value → az_M → Prop} (C : az_C Y V cX8_shoot 7 RX8 none 4) (G : Nat) (a0 : Nat) (ha0 : az_pv V a0)  (M : az_M) (r : az_M) (h : f_X8_shoot_161 (az_z V) G a0 M = some r) (hp : post none r) : AW Y V (az_end Y V post) 7 M 161 [] [] := by
  unfold f_X8_shoot_161 at h
  obtain rfl := Option.some.inj h
  exact az_vret C rfl dX8_shoot_161 hp
set_option maxHeartbeats 4000000 in
set_option maxRecDepth 100000 in
theorem s_X8_shoot_104 {Y : az_Y} {V : az_V} {post : Option Value → az_M → Prop} (C : az_C Y V cX8_shoot 7 RX8 none 4) (G : Nat) (a0 : Nat) (ha0 : az_pv V a0) (x3 : Int32) (M : az_M) (r : az_M) (h : f_X8_shoot_104 (az_z V) G a0 x3 M = some r) (hp : post none r) : AW Y V (az_end Y V post) 7 M 104 [(1, .ref (az_ad V a0)), (3, .int x3)] [] := by
  unfold f_X8_shoot_104 at h
  refine az_aload_n C 0 dX8_shoot_104 rfl ?_
  refine az_getr (r := (a0 + 1)) C ha0.1 fl_X8_65 rfl rfl dX8_shoot_105 ?_
  refine az_bipush (v := 27) C dX8_shoot_108 (by decide) ?_
  refine az_iload_n C 1 dX8_shoot_110 rfl ?_
  refine az_iadd C dX8_shoot_111 ?_
  obtain ⟨g13, h⟩ := az_g h
  refine az_ild (k := (27 + x3).toNatClampNeg) C ha0.2 g13 rfl dX8_shoot_112 ?_
  refine az_iconst (v := 2) C dX8_shoot_113 (by decide) ?_
  refine az_icmp_ne C 127 dX8_shoot_114 (by decide) (fun c14 => ?_) (fun c14 => ?_)
  · have h := az_f c14 h
    refine az_iconst (v := 1) C dX8_shoot_127 (by decide) ?_
    refine az_aload_n C 0 dX8_shoot_128 rfl ?_
    refine az_getr (r := (a0 + 1)) C ha0.1 fl_X8_65 rfl rfl dX8_shoot_129 ?_
    refine az_bipush (v := 19) C dX8_shoot_132 (by decide) ?_
    refine az_ild (k := 19) C ha0.2 (az_vin (by decide)) (by decide) dX8_shoot_134 ?_
    refine az_max C (by decide) lm_X8_62 (Nat.le_of_ble_eq_true rfl) dX8_shoot_135 ?_
    refine az_istore C dX8_shoot_138 (by decide) rfl ?_
    refine az_aload_n C 1 dX8_shoot_140 rfl ?_
    refine az_aload_n C 1 dX8_shoot_141 rfl ?_
    refine az_getr (r := (a0 + 1)) C ha0.1 fl_X8_65 rfl rfl dX8_shoot_142 ?_
    refine az_bipush (v := 51) C dX8_shoot_145 (by decide) ?_
    refine az_iload_n C 2 dX8_shoot_147 rfl ?_
    refine az_iadd C dX8_shoot_148 ?_
    obtain ⟨g15, h⟩ := az_g h
    refine az_ild (k := (51 + x3).toNatClampNeg) C ha0.2 g15 rfl dX8_shoot_149 ?_
    refine az_iload C 0 dX8_shoot_150 rfl ?_
    refine az_iadd C dX8_shoot_152 ?_
    refine az_iconst (v := 1) C dX8_shoot_153 (by decide) ?_
    refine az_isub C dX8_shoot_154 ?_
    refine az_iload C 0 dX8_shoot_155 rfl ?_
    obtain ⟨g16, h⟩ := az_g h
    refine az_idiv C dX8_shoot_157 g16 ?_
    obtain ⟨q17, e18, h⟩ := az_b h
    refine az_cV (rest := []) (st2 := []) C [.int ((((M.1 (a0 + 1) ((51 + x3).toNatClampNeg)) + (if 1 < (M.1 (a0 + 1) 19) then (M.1 (a0 + 1) 19) else 1)) - 1) / (if 1 < (M.1 (a0 + 1) 19) then (M.1 (a0 + 1) 19) else 1))] (c_X4_passDays C.hL a0 ha0 ((((M.1 (a0 + 1) ((51 + x3).toNatClampNeg)) + (if 1 < (M.1 (a0 + 1) 19) then (M.1 (a0 + 1) 19) else 1)) - 1) / (if 1 < (M.1 (a0 + 1) 19) then (M.1 (a0 + 1) 19) else 1)) M e18) (by decide) li_X8_77 ha0.1 (by decide) rfl rfl (Nat.le_of_ble_eq_true rfl) dX8_shoot_158 rfl ?_
    refine az_sub [] rfl ?_
    exact s_X8_shoot_161 C G a0 ha0 q17 r h hp
  · have h := az_t c14 h
    refine az_aload_n C 0 dX8_shoot_117 rfl ?_
    refine az_getr (r := (a0 + 1)) C ha0.1 fl_X8_65 rfl rfl dX8_shoot_118 ?_
    refine az_iconst (v := 3) C dX8_shoot_121 (by decide) ?_
    refine az_iconst (v := 1) C dX8_shoot_122 (by decide) ?_
    refine az_ist (k := 3) C ha0.2 (az_vin (by decide)) (by decide) dX8_shoot_123 ?_
    refine az_goto C 161 dX8_shoot_124 (by decide) ?_
    refine az_sub [] rfl ?_
    exact s_X8_shoot_161 C G a0 ha0 (az_i M (a0 + 1) 3 1) r h hp
set_option maxHeartbeats 4000000 in
set_option maxRecDepth 100000 in
theorem s_X8_shoot_e {Y : az_Y} {V : az_V} {post : Option Value → az_M → Prop} (C : az_C Y V cX8_shoot 7 RX8 none 4) (G : Nat) (a0 : Nat) (ha0 : az_pv V a0) (p1 : Int32) (p2 : Int32) (M : az_M) (r : az_M) (h : f_X8_shoot (az_z V) G a0 p1 p2 M = some r) (hp : post none r) : AW Y V (az_end Y V post) 7 M 0 [(0, .ref (az_ad V 19)), (1, .ref (az_ad V a0)), (2, .int p1), (3, .int p2)] [] := by
  have o19 := C.hL.at 19 (ci := 8) rfl
  unfold f_X8_shoot at h
  refine az_aload_n C 1 dX8_shoot_0 rfl ?_
  refine az_getr (r := (a0 + 1)) C ha0.1 fl_X8_65 rfl rfl dX8_shoot_1 ?_
  refine az_iconst (v := 0) C dX8_shoot_4 (by decide) ?_
  refine az_ild (k := 0) C ha0.2 (az_vin (by decide)) (by decide) dX8_shoot_5 ?_
  refine az_aload_n C 0 dX8_shoot_6 rfl ?_
  refine az_aload_n C 1 dX8_shoot_7 rfl ?_
  refine az_iconst (v := 1) C dX8_shoot_8 (by decide) ?_
  refine az_iconst (v := (-1)) C dX8_shoot_9 (by decide) ?_
  refine az_iload_n C 3 dX8_shoot_10 rfl ?_
  obtain ⟨q1, e2, h⟩ := az_b h
  refine az_cV (rest := [.int (M.1 (a0 + 1) 0)]) (st2 := [.int q1.1, .int (M.1 (a0 + 1) 0)]) C [.ref (az_ad V a0), .int 1, .int (-1), .int p2] (c_X8_ask C.hL G a0 ha0 1 (-1) p2 M e2) (by decide) li_X8_70 o19 (by decide) rfl rfl (Nat.le_of_ble_eq_true rfl) dX8_shoot_11 rfl ?_
  refine az_min C (by decide) lm_X8_57 (Nat.le_of_ble_eq_true rfl) dX8_shoot_14 ?_
  refine az_istore C dX8_shoot_17 (by decide) rfl ?_
  refine az_aload_n C 1 dX8_shoot_19 rfl ?_
  refine az_aload_n C 2 dX8_shoot_20 rfl ?_
  refine az_iconst (v := 2) C dX8_shoot_21 (by decide) ?_
  refine az_iconst (v := (-1)) C dX8_shoot_22 (by decide) ?_
  refine az_iload_n C 4 dX8_shoot_23 rfl ?_
  obtain ⟨q3, e4, h⟩ := az_b h
  refine az_cV (rest := []) (st2 := [.int q3.1]) C [.ref (az_ad V a0), .int 2, .int (-1), .int p2] (c_X8_ask C.hL G a0 ha0 2 (-1) p2 q1.2 e4) (by decide) li_X8_70 o19 (by decide) rfl rfl (Nat.le_of_ble_eq_true rfl) dX8_shoot_24 rfl ?_
  refine az_istore C dX8_shoot_27 (by decide) rfl ?_
  refine az_aload_n C 3 dX8_shoot_29 rfl ?_
  refine az_getr (r := (a0 + 1)) C ha0.1 fl_X8_65 rfl rfl dX8_shoot_30 ?_
  refine az_iconst (v := 0) C dX8_shoot_33 (by decide) ?_
  refine az_dup2 C dX8_shoot_34 rfl rfl ?_
  refine az_ild (k := 0) C ha0.2 (az_vin (by decide)) (by decide) dX8_shoot_35 ?_
  refine az_iload C 1 dX8_shoot_36 rfl ?_
  refine az_isub C dX8_shoot_38 ?_
  refine az_ist (k := 0) C ha0.2 (az_vin (by decide)) (by decide) dX8_shoot_39 ?_
  refine az_aload_n C 3 dX8_shoot_40 rfl ?_
  refine az_getr (r := (a0 + 1)) C ha0.1 fl_X8_65 rfl rfl dX8_shoot_41 ?_
  refine az_iconst (v := 1) C dX8_shoot_44 (by decide) ?_
  refine az_bipush (v := 99) C dX8_shoot_45 (by decide) ?_
  refine az_aload_n C 3 dX8_shoot_47 rfl ?_
  refine az_getr (r := (a0 + 1)) C ha0.1 fl_X8_65 rfl rfl dX8_shoot_48 ?_
  refine az_iconst (v := 1) C dX8_shoot_51 (by decide) ?_
  refine az_ild (k := 1) C ha0.2 (az_vin (by decide)) (by decide) dX8_shoot_52 ?_
  refine az_iload C 0 dX8_shoot_53 rfl ?_
  refine az_iadd C dX8_shoot_55 ?_
  refine az_min C (by decide) lm_X8_57 (Nat.le_of_ble_eq_true rfl) dX8_shoot_56 ?_
  refine az_ist (k := 1) C ha0.2 (az_vin (by decide)) (by decide) dX8_shoot_59 ?_
  refine az_aload_n C 3 dX8_shoot_60 rfl ?_
  refine az_getr (r := (a0 + 1)) C ha0.1 fl_X8_65 rfl rfl dX8_shoot_61 ?_
  refine az_iconst (v := 4) C dX8_shoot_64 (by decide) ?_
  refine az_iload_n C 5 dX8_shoot_65 rfl ?_
  refine az_iadd C dX8_shoot_66 ?_
  refine az_dup2 C dX8_shoot_67 rfl rfl ?_
  obtain ⟨g5, h⟩ := az_g h
  refine az_ild (k := (4 + p2).toNatClampNeg) C ha0.2 g5 rfl dX8_shoot_68 ?_
  refine az_iconst (v := 1) C dX8_shoot_69 (by decide) ?_
  refine az_iadd C dX8_shoot_70 ?_
  obtain ⟨g6, h⟩ := az_g h
  refine az_ist (k := (4 + p2).toNatClampNeg) C ha0.2 g6 rfl dX8_shoot_71 ?_
  refine az_iload_n C 4 dX8_shoot_72 rfl ?_
  refine az_iconst (v := (-1)) C dX8_shoot_73 (by decide) ?_
  refine az_icmp_eq C 104 dX8_shoot_74 (by decide) (fun c7 => ?_) (fun c7 => ?_)
  · have h := az_t c7 h
    refine az_sub [3, 5] rfl ?_
    exact s_X8_shoot_104 C G a0 ha0 p2 (az_i (az_i (az_i q3.2 (a0 + 1) 0 ((q3.2.1 (a0 + 1) 0) - (if q1.1 < (M.1 (a0 + 1) 0) then q1.1 else (M.1 (a0 + 1) 0)))) (a0 + 1) 1 (if (((az_i q3.2 (a0 + 1) 0 ((q3.2.1 (a0 + 1) 0) - (if q1.1 < (M.1 (a0 + 1) 0) then q1.1 else (M.1 (a0 + 1) 0)))).1 (a0 + 1) 1) + q3.1) < 99 then (((az_i q3.2 (a0 + 1) 0 ((q3.2.1 (a0 + 1) 0) - (if q1.1 < (M.1 (a0 + 1) 0) then q1.1 else (M.1 (a0 + 1) 0)))).1 (a0 + 1) 1) + q3.1) else 99)) (a0 + 1) ((4 + p2).toNatClampNeg) (((az_i (az_i q3.2 (a0 + 1) 0 ((q3.2.1 (a0 + 1) 0) - (if q1.1 < (M.1 (a0 + 1) 0) then q1.1 else (M.1 (a0 + 1) 0)))) (a0 + 1) 1 (if (((az_i q3.2 (a0 + 1) 0 ((q3.2.1 (a0 + 1) 0) - (if q1.1 < (M.1 (a0 + 1) 0) then q1.1 else (M.1 (a0 + 1) 0)))).1 (a0 + 1) 1) + q3.1) < 99 then (((az_i q3.2 (a0 + 1) 0 ((q3.2.1 (a0 + 1) 0) - (if q1.1 < (M.1 (a0 + 1) 0) then q1.1 else (M.1 (a0 + 1) 0)))).1 (a0 + 1) 1) + q3.1) else 99)).1 (a0 + 1) ((4 + p2).toNatClampNeg)) + 1)) r h hp
  · have h := az_f c7 h
    refine az_aload_n C 3 dX8_shoot_77 rfl ?_
    refine az_getr (r := (a0 + 1)) C ha0.1 fl_X8_65 rfl rfl dX8_shoot_78 ?_
    refine az_bipush (v := 21) C dX8_shoot_81 (by decide) ?_
    refine az_aload_n C 3 dX8_shoot_83 rfl ?_
    refine az_getr (r := (a0 + 1)) C ha0.1 fl_X8_65 rfl rfl dX8_shoot_84 ?_
    refine az_bipush (v := 73) C dX8_shoot_87 (by decide) ?_
    refine az_iload_n C 4 dX8_shoot_89 rfl ?_
    refine az_iadd C dX8_shoot_90 ?_
    obtain ⟨g8, h⟩ := az_g h
    refine az_ild (k := (73 + p1).toNatClampNeg) C ha0.2 g8 rfl dX8_shoot_91 ?_
    refine az_iadd C dX8_shoot_92 ?_
    refine az_dup2 C dX8_shoot_93 rfl rfl ?_
    obtain ⟨g9, h⟩ := az_g h
    refine az_ild (k := (21 + ((az_i (az_i (az_i q3.2 (a0 + 1) 0 ((q3.2.1 (a0 + 1) 0) - (if q1.1 < (M.1 (a0 + 1) 0) then q1.1 else (M.1 (a0 + 1) 0)))) (a0 + 1) 1 (if (((az_i q3.2 (a0 + 1) 0 ((q3.2.1 (a0 + 1) 0) - (if q1.1 < (M.1 (a0 + 1) 0) then q1.1 else (M.1 (a0 + 1) 0)))).1 (a0 + 1) 1) + q3.1) < 99 then (((az_i q3.2 (a0 + 1) 0 ((q3.2.1 (a0 + 1) 0) - (if q1.1 < (M.1 (a0 + 1) 0) then q1.1 else (M.1 (a0 + 1) 0)))).1 (a0 + 1) 1) + q3.1) else 99)) (a0 + 1) ((4 + p2).toNatClampNeg) (((az_i (az_i q3.2 (a0 + 1) 0 ((q3.2.1 (a0 + 1) 0) - (if q1.1 < (M.1 (a0 + 1) 0) then q1.1 else (M.1 (a0 + 1) 0)))) (a0 + 1) 1 (if (((az_i q3.2 (a0 + 1) 0 ((q3.2.1 (a0 + 1) 0) - (if q1.1 < (M.1 (a0 + 1) 0) then q1.1 else (M.1 (a0 + 1) 0)))).1 (a0 + 1) 1) + q3.1) < 99 then (((az_i q3.2 (a0 + 1) 0 ((q3.2.1 (a0 + 1) 0) - (if q1.1 < (M.1 (a0 + 1) 0) then q1.1 else (M.1 (a0 + 1) 0)))).1 (a0 + 1) 1) + q3.1) else 99)).1 (a0 + 1) ((4 + p2).toNatClampNeg)) + 1)).1 (a0 + 1) ((73 + p1).toNatClampNeg))).toNatClampNeg) C ha0.2 g9 rfl dX8_shoot_94 ?_
    refine az_iload C 1 dX8_shoot_95 rfl ?_
    refine az_iadd C dX8_shoot_97 ?_
    obtain ⟨g10, h⟩ := az_g h
    refine az_ist (k := (21 + ((az_i (az_i (az_i q3.2 (a0 + 1) 0 ((q3.2.1 (a0 + 1) 0) - (if q1.1 < (M.1 (a0 + 1) 0) then q1.1 else (M.1 (a0 + 1) 0)))) (a0 + 1) 1 (if (((az_i q3.2 (a0 + 1) 0 ((q3.2.1 (a0 + 1) 0) - (if q1.1 < (M.1 (a0 + 1) 0) then q1.1 else (M.1 (a0 + 1) 0)))).1 (a0 + 1) 1) + q3.1) < 99 then (((az_i q3.2 (a0 + 1) 0 ((q3.2.1 (a0 + 1) 0) - (if q1.1 < (M.1 (a0 + 1) 0) then q1.1 else (M.1 (a0 + 1) 0)))).1 (a0 + 1) 1) + q3.1) else 99)) (a0 + 1) ((4 + p2).toNatClampNeg) (((az_i (az_i q3.2 (a0 + 1) 0 ((q3.2.1 (a0 + 1) 0) - (if q1.1 < (M.1 (a0 + 1) 0) then q1.1 else (M.1 (a0 + 1) 0)))) (a0 + 1) 1 (if (((az_i q3.2 (a0 + 1) 0 ((q3.2.1 (a0 + 1) 0) - (if q1.1 < (M.1 (a0 + 1) 0) then q1.1 else (M.1 (a0 + 1) 0)))).1 (a0 + 1) 1) + q3.1) < 99 then (((az_i q3.2 (a0 + 1) 0 ((q3.2.1 (a0 + 1) 0) - (if q1.1 < (M.1 (a0 + 1) 0) then q1.1 else (M.1 (a0 + 1) 0)))).1 (a0 + 1) 1) + q3.1) else 99)).1 (a0 + 1) ((4 + p2).toNatClampNeg)) + 1)).1 (a0 + 1) ((73 + p1).toNatClampNeg))).toNatClampNeg) C ha0.2 g10 rfl dX8_shoot_98 ?_
    refine az_aload_n C 3 dX8_shoot_99 rfl ?_
    refine az_iload_n C 5 dX8_shoot_100 rfl ?_
    obtain ⟨q11, e12, h⟩ := az_b h
    refine az_cV (rest := []) (st2 := []) C [.int p2] (c_X4_noteShot C.hL a0 ha0 p2 (az_i (az_i (az_i (az_i q3.2 (a0 + 1) 0 ((q3.2.1 (a0 + 1) 0) - (if q1.1 < (M.1 (a0 + 1) 0) then q1.1 else (M.1 (a0 + 1) 0)))) (a0 + 1) 1 (if (((az_i q3.2 (a0 + 1) 0 ((q3.2.1 (a0 + 1) 0) - (if q1.1 < (M.1 (a0 + 1) 0) then q1.1 else (M.1 (a0 + 1) 0)))).1 (a0 + 1) 1) + q3.1) < 99 then (((az_i q3.2 (a0 + 1) 0 ((q3.2.1 (a0 + 1) 0) - (if q1.1 < (M.1 (a0 + 1) 0) then q1.1 else (M.1 (a0 + 1) 0)))).1 (a0 + 1) 1) + q3.1) else 99)) (a0 + 1) ((4 + p2).toNatClampNeg) (((az_i (az_i q3.2 (a0 + 1) 0 ((q3.2.1 (a0 + 1) 0) - (if q1.1 < (M.1 (a0 + 1) 0) then q1.1 else (M.1 (a0 + 1) 0)))) (a0 + 1) 1 (if (((az_i q3.2 (a0 + 1) 0 ((q3.2.1 (a0 + 1) 0) - (if q1.1 < (M.1 (a0 + 1) 0) then q1.1 else (M.1 (a0 + 1) 0)))).1 (a0 + 1) 1) + q3.1) < 99 then (((az_i q3.2 (a0 + 1) 0 ((q3.2.1 (a0 + 1) 0) - (if q1.1 < (M.1 (a0 + 1) 0) then q1.1 else (M.1 (a0 + 1) 0)))).1 (a0 + 1) 1) + q3.1) else 99)).1 (a0 + 1) ((4 + p2).toNatClampNeg)) + 1)) (a0 + 1) ((21 + ((az_i (az_i (az_i q3.2 (a0 + 1) 0 ((q3.2.1 (a0 + 1) 0) - (if q1.1 < (M.1 (a0 + 1) 0) then q1.1 else (M.1 (a0 + 1) 0)))) (a0 + 1) 1 (if (((az_i q3.2 (a0 + 1) 0 ((q3.2.1 (a0 + 1) 0) - (if q1.1 < (M.1 (a0 + 1) 0) then q1.1 else (M.1 (a0 + 1) 0)))).1 (a0 + 1) 1) + q3.1) < 99 then (((az_i q3.2 (a0 + 1) 0 ((q3.2.1 (a0 + 1) 0) - (if q1.1 < (M.1 (a0 + 1) 0) then q1.1 else (M.1 (a0 + 1) 0)))).1 (a0 + 1) 1) + q3.1) else 99)) (a0 + 1) ((4 + p2).toNatClampNeg) (((az_i (az_i q3.2 (a0 + 1) 0 ((q3.2.1 (a0 + 1) 0) - (if q1.1 < (M.1 (a0 + 1) 0) then q1.1 else (M.1 (a0 + 1) 0)))) (a0 + 1) 1 (if (((az_i q3.2 (a0 + 1) 0 ((q3.2.1 (a0 + 1) 0) - (if q1.1 < (M.1 (a0 + 1) 0) then q1.1 else (M.1 (a0 + 1) 0)))).1 (a0 + 1) 1) + q3.1) < 99 then (((az_i q3.2 (a0 + 1) 0 ((q3.2.1 (a0 + 1) 0) - (if q1.1 < (M.1 (a0 + 1) 0) then q1.1 else (M.1 (a0 + 1) 0)))).1 (a0 + 1) 1) + q3.1) else 99)).1 (a0 + 1) ((4 + p2).toNatClampNeg)) + 1)).1 (a0 + 1) ((73 + p1).toNatClampNeg))).toNatClampNeg) (((az_i (az_i (az_i q3.2 (a0 + 1) 0 ((q3.2.1 (a0 + 1) 0) - (if q1.1 < (M.1 (a0 + 1) 0) then q1.1 else (M.1 (a0 + 1) 0)))) (a0 + 1) 1 (if (((az_i q3.2 (a0 + 1) 0 ((q3.2.1 (a0 + 1) 0) - (if q1.1 < (M.1 (a0 + 1) 0) then q1.1 else (M.1 (a0 + 1) 0)))).1 (a0 + 1) 1) + q3.1) < 99 then (((az_i q3.2 (a0 + 1) 0 ((q3.2.1 (a0 + 1) 0) - (if q1.1 < (M.1 (a0 + 1) 0) then q1.1 else (M.1 (a0 + 1) 0)))).1 (a0 + 1) 1) + q3.1) else 99)) (a0 + 1) ((4 + p2).toNatClampNeg) (((az_i (az_i q3.2 (a0 + 1) 0 ((q3.2.1 (a0 + 1) 0) - (if q1.1 < (M.1 (a0 + 1) 0) then q1.1 else (M.1 (a0 + 1) 0)))) (a0 + 1) 1 (if (((az_i q3.2 (a0 + 1) 0 ((q3.2.1 (a0 + 1) 0) - (if q1.1 < (M.1 (a0 + 1) 0) then q1.1 else (M.1 (a0 + 1) 0)))).1 (a0 + 1) 1) + q3.1) < 99 then (((az_i q3.2 (a0 + 1) 0 ((q3.2.1 (a0 + 1) 0) - (if q1.1 < (M.1 (a0 + 1) 0) then q1.1 else (M.1 (a0 + 1) 0)))).1 (a0 + 1) 1) + q3.1) else 99)).1 (a0 + 1) ((4 + p2).toNatClampNeg)) + 1)).1 (a0 + 1) ((21 + ((az_i (az_i (az_i q3.2 (a0 + 1) 0 ((q3.2.1 (a0 + 1) 0) - (if q1.1 < (M.1 (a0 + 1) 0) then q1.1 else (M.1 (a0 + 1) 0)))) (a0 + 1) 1 (if (((az_i q3.2 (a0 + 1) 0 ((q3.2.1 (a0 + 1) 0) - (if q1.1 < (M.1 (a0 + 1) 0) then q1.1 else (M.1 (a0 + 1) 0)))).1 (a0 + 1) 1) + q3.1) < 99 then (((az_i q3.2 (a0 + 1) 0 ((q3.2.1 (a0 + 1) 0) - (if q1.1 < (M.1 (a0 + 1) 0) then q1.1 else (M.1 (a0 + 1) 0)))).1 (a0 + 1) 1) + q3.1) else 99)) (a0 + 1) ((4 + p2).toNatClampNeg) (((az_i (az_i q3.2 (a0 + 1) 0 ((q3.2.1 (a0 + 1) 0) - (if q1.1 < (M.1 (a0 + 1) 0) then q1.1 else (M.1 (a0 + 1) 0)))) (a0 + 1) 1 (if (((az_i q3.2 (a0 + 1) 0 ((q3.2.1 (a0 + 1) 0) - (if q1.1 < (M.1 (a0 + 1) 0) then q1.1 else (M.1 (a0 + 1) 0)))).1 (a0 + 1) 1) + q3.1) < 99 then (((az_i q3.2 (a0 + 1) 0 ((q3.2.1 (a0 + 1) 0) - (if q1.1 < (M.1 (a0 + 1) 0) then q1.1 else (M.1 (a0 + 1) 0)))).1 (a0 + 1) 1) + q3.1) else 99)).1 (a0 + 1) ((4 + p2).toNatClampNeg)) + 1)).1 (a0 + 1) ((73 + p1).toNatClampNeg))).toNatClampNeg)) + (if q1.1 < (M.1 (a0 + 1) 0) then q1.1 else (M.1 (a0 + 1) 0)))) e12) (by decide) li_X8_73 ha0.1 (by decide) rfl rfl (Nat.le_of_ble_eq_true rfl) dX8_shoot_101 rfl ?_
    refine az_sub [3, 5] rfl ?_
    exact s_X8_shoot_104 C G a0 ha0 p2 q11 r h hp
theorem c_X8_shoot {l : Launch} {V : az_V} (hL : az_L V) (G : Nat) (a0 : Nat) (ha0 : az_pv V a0) (p1 : Int32) (p2 : Int32) (M : az_M) {r : az_M} (h : f_X8_shoot (az_z V) G a0 p1 p2 M = some r) : az_Ct l V yX8_shoot cX8_shoot 7 none 4 [.ref (az_ad V 19), .ref (az_ad V a0), .int p1, .int p2] M (fun v M' => v = none ∧ M' = r) :=
  az_Ct.of (by decide) (Nat.le_of_ble_eq_true rfl) (fun Y _ _ C => s_X8_shoot_e C G a0 ha0 p1 p2 M r h ⟨rfl, rfl⟩)
set_option maxHeartbeats 4000000 in
set_option maxRecDepth 100000 in
theorem s_X8_canBeHad_86 {Y : az_Y} {V : az_V} {post : Option Value → az_M → Prop} (C : az_C Y V cX8_canBeHad 6 RX8 (some .boolean) 4) (G : Nat) (a0 : Nat) (ha0 : az_pv V a0) (s0 : Int32) (M : az_M) (r : (Int32 × az_M)) (h : f_X8_canBeHad_86 (az_z V) G a0 s0 M = some r) (hp : post (some (.int r.1)) r.2) : AW Y V (az_end Y V post) 6 M 86 [] [.int s0] := by
  unfold f_X8_canBeHad_86 at h
  obtain ⟨g19, h⟩ := az_g2 h
  obtain rfl := Option.some.inj h
  exact az_zret C dX8_canBeHad_86 (az_nz g19) hp
set_option maxHeartbeats 4000000 in
set_option maxRecDepth 100000 in
theorem s_X8_canBeHad_85 {Y : az_Y} {V : az_V} {post : Option Value → az_M → Prop} (C : az_C Y V cX8_canBeHad 6 RX8 (some .boolean) 4) (G : Nat) (a0 : Nat) (ha0 : az_pv V a0)  (M : az_M) (r : (Int32 × az_M)) (h : f_X8_canBeHad_85 (az_z V) G a0 M = some r) (hp : post (some (.int r.1)) r.2) : AW Y V (az_end Y V post) 6 M 85 [] [] := by
  unfold f_X8_canBeHad_85 at h
  refine az_iconst (v := 0) C dX8_canBeHad_85 (by decide) ?_
  exact s_X8_canBeHad_86 C G a0 ha0 0 M r h hp
set_option maxHeartbeats 4000000 in
set_option maxRecDepth 100000 in
theorem s_X8_canBeHad_e {Y : az_Y} {V : az_V} {post : Option Value → az_M → Prop} (C : az_C Y V cX8_canBeHad 6 RX8 (some .boolean) 4) (G : Nat) (a0 : Nat) (ha0 : az_pv V a0) (p1 : Int32) (M : az_M) (r : (Int32 × az_M)) (h : f_X8_canBeHad (az_z V) G a0 p1 M = some r) (hp : post (some (.int r.1)) r.2) : AW Y V (az_end Y V post) 6 M 0 [(0, .ref (az_ad V 19)), (1, .ref (az_ad V a0)), (2, .int p1)] [] := by
  have o19 := C.hL.at 19 (ci := 8) rfl
  unfold f_X8_canBeHad at h
  refine az_aload_n C 1 dX8_canBeHad_0 rfl ?_
  refine az_getr (r := (a0 + 1)) C ha0.1 fl_X8_65 rfl rfl dX8_canBeHad_1 ?_
  refine az_bipush (v := 93) C dX8_canBeHad_4 (by decide) ?_
  refine az_iload_n C 2 dX8_canBeHad_6 rfl ?_
  refine az_iadd C dX8_canBeHad_7 ?_
  obtain ⟨g1, h⟩ := az_g h
  refine az_ild (k := (93 + p1).toNatClampNeg) C ha0.2 g1 rfl dX8_canBeHad_8 ?_
  refine az_istore_n C dX8_canBeHad_9 rfl (by decide) rfl ?_
  refine az_aload_n C 2 dX8_canBeHad_10 rfl ?_
  refine az_getr (r := (a0 + 1)) C ha0.1 fl_X8_65 rfl rfl dX8_canBeHad_11 ?_
  refine az_bipush (v := 100) C dX8_canBeHad_14 (by decide) ?_
  refine az_iload_n C 3 dX8_canBeHad_16 rfl ?_
  refine az_iadd C dX8_canBeHad_17 ?_
  obtain ⟨g2, h⟩ := az_g h
  refine az_ild (k := (100 + p1).toNatClampNeg) C ha0.2 g2 rfl dX8_canBeHad_18 ?_
  refine az_istore C dX8_canBeHad_19 (by decide) rfl ?_
  refine az_aload_n C 3 dX8_canBeHad_21 rfl ?_
  refine az_getr (r := (a0 + 1)) C ha0.1 fl_X8_65 rfl rfl dX8_canBeHad_22 ?_
  refine az_bipush (v := 107) C dX8_canBeHad_25 (by decide) ?_
  refine az_iload_n C 4 dX8_canBeHad_27 rfl ?_
  refine az_iadd C dX8_canBeHad_28 ?_
  obtain ⟨g3, h⟩ := az_g h
  refine az_ild (k := (107 + p1).toNatClampNeg) C ha0.2 g3 rfl dX8_canBeHad_29 ?_
  refine az_istore C dX8_canBeHad_30 (by decide) rfl ?_
  refine az_aload_n C 4 dX8_canBeHad_32 rfl ?_
  obtain ⟨q4, e5, h⟩ := az_b h
  refine az_cV (rest := []) (st2 := [.int q4]) C [] (c_X4_canBeFired C.hL a0 ha0 M e5) (by decide) li_X8_80 ha0.1 (by decide) rfl rfl (Nat.le_of_ble_eq_true rfl) dX8_canBeHad_33 rfl ?_
  refine az_if_eq C 85 dX8_canBeHad_36 (by decide) (fun c6 => ?_) (fun c6 => ?_)
  · have h := az_t c6 h
    refine az_sub [] rfl ?_
    exact s_X8_canBeHad_85 C G a0 ha0 M r h hp
  · have h := az_f c6 h
    refine az_aload_n C 4 dX8_canBeHad_39 rfl ?_
    refine az_iload_n C 2 dX8_canBeHad_40 rfl ?_
    obtain ⟨q7, e8, h⟩ := az_b h
    refine az_cV (rest := []) (st2 := [.int q7]) C [.int (M.1 (a0 + 1) ((93 + p1).toNatClampNeg))] (c_X4_isHurt C.hL a0 ha0 (M.1 (a0 + 1) ((93 + p1).toNatClampNeg)) M e8) (by decide) li_X8_84 ha0.1 (by decide) rfl rfl (Nat.le_of_ble_eq_true rfl) dX8_canBeHad_41 rfl ?_
    refine az_if_ne C 85 dX8_canBeHad_44 (by decide) (fun c9 => ?_) (fun c9 => ?_)
    · have h := az_f c9 h
      refine az_sub [] rfl ?_
      exact s_X8_canBeHad_85 C G a0 ha0 M r h hp
    · have h := az_t c9 h
      refine az_aload_n C 4 dX8_canBeHad_47 rfl ?_
      refine az_iload C 1 dX8_canBeHad_48 rfl ?_
      obtain ⟨q10, e11, h⟩ := az_b h
      refine az_cV (rest := []) (st2 := [.int q10]) C [.int (M.1 (a0 + 1) ((100 + p1).toNatClampNeg))] (c_X4_isHurt C.hL a0 ha0 (M.1 (a0 + 1) ((100 + p1).toNatClampNeg)) M e11) (by decide) li_X8_84 ha0.1 (by decide) rfl rfl (Nat.le_of_ble_eq_true rfl) dX8_canBeHad_50 rfl ?_
      refine az_if_ne C 85 dX8_canBeHad_53 (by decide) (fun c12 => ?_) (fun c12 => ?_)
      · have h := az_f c12 h
        refine az_sub [] rfl ?_
        exact s_X8_canBeHad_85 C G a0 ha0 M r h hp
      · have h := az_t c12 h
        refine az_aload_n C 3 dX8_canBeHad_56 rfl ?_
        refine az_aload_n C 4 dX8_canBeHad_57 rfl ?_
        refine az_iconst (v := 4) C dX8_canBeHad_58 (by decide) ?_
        refine az_iload_n C 2 dX8_canBeHad_59 rfl ?_
        refine az_iload C 0 dX8_canBeHad_60 rfl ?_
        obtain ⟨q13, e14, h⟩ := az_b h
        refine az_cV (rest := []) (st2 := [.int q13.1]) C [.ref (az_ad V a0), .int 4, .int (M.1 (a0 + 1) ((93 + p1).toNatClampNeg)), .int (M.1 (a0 + 1) ((107 + p1).toNatClampNeg))] (c_X8_ask C.hL G a0 ha0 4 (M.1 (a0 + 1) ((93 + p1).toNatClampNeg)) (M.1 (a0 + 1) ((107 + p1).toNatClampNeg)) M e14) (by decide) li_X8_70 o19 (by decide) rfl rfl (Nat.le_of_ble_eq_true rfl) dX8_canBeHad_62 rfl ?_
        refine az_if_ne C 85 dX8_canBeHad_65 (by decide) (fun c15 => ?_) (fun c15 => ?_)
        · have h := az_f c15 h
          refine az_sub [] rfl ?_
          exact s_X8_canBeHad_85 C G a0 ha0 q13.2 r h hp
        · have h := az_t c15 h
          refine az_aload_n C 3 dX8_canBeHad_68 rfl ?_
          refine az_aload_n C 4 dX8_canBeHad_69 rfl ?_
          refine az_iconst (v := 4) C dX8_canBeHad_70 (by decide) ?_
          refine az_iload C 1 dX8_canBeHad_71 rfl ?_
          refine az_iload C 0 dX8_canBeHad_73 rfl ?_
          obtain ⟨q16, e17, h⟩ := az_b h
          refine az_cV (rest := []) (st2 := [.int q16.1]) C [.ref (az_ad V a0), .int 4, .int (M.1 (a0 + 1) ((100 + p1).toNatClampNeg)), .int (M.1 (a0 + 1) ((107 + p1).toNatClampNeg))] (c_X8_ask C.hL G a0 ha0 4 (M.1 (a0 + 1) ((100 + p1).toNatClampNeg)) (M.1 (a0 + 1) ((107 + p1).toNatClampNeg)) q13.2 e17) (by decide) li_X8_70 o19 (by decide) rfl rfl (Nat.le_of_ble_eq_true rfl) dX8_canBeHad_75 rfl ?_
          refine az_if_ne C 85 dX8_canBeHad_78 (by decide) (fun c18 => ?_) (fun c18 => ?_)
          · have h := az_f c18 h
            refine az_sub [] rfl ?_
            exact s_X8_canBeHad_85 C G a0 ha0 q16.2 r h hp
          · have h := az_t c18 h
            refine az_iconst (v := 1) C dX8_canBeHad_81 (by decide) ?_
            refine az_goto C 86 dX8_canBeHad_82 (by decide) ?_
            refine az_sub [] rfl ?_
            exact s_X8_canBeHad_86 C G a0 ha0 1 q16.2 r h hp
theorem c_X8_canBeHad {l : Launch} {V : az_V} (hL : az_L V) (G : Nat) (a0 : Nat) (ha0 : az_pv V a0) (p1 : Int32) (M : az_M) {r : (Int32 × az_M)} (h : f_X8_canBeHad (az_z V) G a0 p1 M = some r) : az_Ct l V yX8_canBeHad cX8_canBeHad 6 (some .boolean) 4 [.ref (az_ad V 19), .ref (az_ad V a0), .int p1] M (fun v M' => v = some (.int r.1) ∧ M' = r.2) :=
  az_Ct.of (by decide) (Nat.le_of_ble_eq_true rfl) (fun Y _ _ C => s_X8_canBeHad_e C G a0 ha0 p1 M r h ⟨rfl, rfl⟩)
set_option maxHeartbeats 4000000 in
set_option maxRecDepth 100000 in
theorem s_X8_draw_34 {Y : az_Y} {V : az_V} {post : Option Value → az_M → Prop} (C : az_C Y V cX8_draw 2 RX8 (some .int) 1) (s0 : Int32) (M : az_M) (r : (Int32 × az_M)) (h : f_X8_draw_34 s0 M = some r) (hp : post (some (.int r.1)) r.2) : AW Y V (az_end Y V post) 2 M 34 [] [.int s0] := by
  unfold f_X8_draw_34 at h
  obtain rfl := Option.some.inj h
  exact az_iret C dX8_draw_34 hp
set_option maxHeartbeats 4000000 in
set_option maxRecDepth 100000 in
theorem s_X8_draw_e {Y : az_Y} {V : az_V} {post : Option Value → az_M → Prop} (C : az_C Y V cX8_draw 2 RX8 (some .int) 1) (p0 : Int32) (M : az_M) (r : (Int32 × az_M)) (h : f_X8_draw p0 M = some r) (hp : post (some (.int r.1)) r.2) : AW Y V (az_end Y V post) 2 M 0 [(0, .ref (az_ad V 19)), (1, .int p0)] [] := by
  have o19 := C.hL.at 19 (ci := 8) rfl
  unfold f_X8_draw at h
  refine az_aload_n C 0 dX8_draw_0 rfl ?_
  refine az_aload_n C 0 dX8_draw_1 rfl ?_
  refine az_geti C o19 fl_X8_98 rfl dX8_draw_2 ?_
  refine az_sipush (v := 1103) C dX8_draw_5 (by decide) ?_
  refine az_imul C dX8_draw_8 ?_
  refine az_sipush (v := 12345) C dX8_draw_9 (by decide) ?_
  refine az_iadd C dX8_draw_12 ?_
  refine az_ldc C ck_X8_101 dX8_draw_13 ?_
  refine az_irem2 C dX8_draw_15 (by decide) ?_
  refine az_puti C o19 fl_X8_98 rfl rfl rfl rfl dX8_draw_16 ?_
  refine az_iload_n C 1 dX8_draw_19 rfl ?_
  refine az_iconst (v := 1) C dX8_draw_20 (by decide) ?_
  refine az_icmp_ge C 28 dX8_draw_21 (by decide) (fun c1 => ?_) (fun c1 => ?_)
  · have h := az_t c1 h
    refine az_aload_n C 0 dX8_draw_28 rfl ?_
    refine az_geti C o19 fl_X8_98 rfl dX8_draw_29 ?_
    refine az_iload_n C 1 dX8_draw_32 rfl ?_
    obtain ⟨g2, h⟩ := az_g h
    refine az_irem2 C dX8_draw_33 g2 ?_
    refine az_sub [] rfl ?_
    exact s_X8_draw_34 C (az_rem ((az_i M 19 0 (az_rem (((M.1 19 0) * 1103) + 12345) 1000003)).1 19 0) p0) (az_i M 19 0 (az_rem (((M.1 19 0) * 1103) + 12345) 1000003)) r h hp
  · have h := az_f c1 h
    refine az_iconst (v := 0) C dX8_draw_24 (by decide) ?_
    refine az_goto C 34 dX8_draw_25 (by decide) ?_
    refine az_sub [] rfl ?_
    exact s_X8_draw_34 C 0 (az_i M 19 0 (az_rem (((M.1 19 0) * 1103) + 12345) 1000003)) r h hp
theorem c_X8_draw {l : Launch} {V : az_V} (hL : az_L V) (p0 : Int32) (M : az_M) {r : (Int32 × az_M)} (h : f_X8_draw p0 M = some r) : az_Ct l V yX8_draw cX8_draw 2 (some .int) 1 [.ref (az_ad V 19), .int p0] M (fun v M' => v = some (.int r.1) ∧ M' = r.2) :=
  az_Ct.of (by decide) (Nat.le_of_ble_eq_true rfl) (fun Y _ _ C => s_X8_draw_e C p0 M r h ⟨rfl, rfl⟩)
set_option maxHeartbeats 4000000 in
set_option maxRecDepth 100000 in
theorem s_X8_hold_182 {Y : az_Y} {V : az_V} {post : Option Value → az_M → Prop} (C : az_C Y V cX8_hold 11 RX8 (some .int) 5) (G : Nat) (a0 : Nat) (ha0 : az_pv V a0) (K38 : (Int32 → Int32 → Int32 → Int32 → Int32 → Int32 → az_M → Option (Int32 × az_M))) (hK38 : ∀ (x2 : Int32) (x3 : Int32) (x4 : Int32) (x5 : Int32) (x6 : Int32) (x7 : Int32) (M : az_M) (r : (Int32 × az_M)), K38 x2 x3 x4 x5 x6 x7 M = some r → post (some (.int r.1)) r.2 → AW Y V (az_end Y V post) 11 M 38 [(0, .ref (az_ad V 19)), (1, .ref (az_ad V a0)), (2, .int x2), (3, .int x3), (4, .int x4), (5, .int x5), (6, .int x6), (7, .int x7)] []) (x2 : Int32) (x3 : Int32) (x4 : Int32) (x5 : Int32) (x6 : Int32) (x7 : Int32) (M : az_M) (r : (Int32 × az_M)) (h : f_X8_hold_182 (az_z V) G a0 K38 x2 x3 x4 x5 x6 x7 M = some r) (hp : post (some (.int r.1)) r.2) : AW Y V (az_end Y V post) 11 M 182 [(0, .ref (az_ad V 19)), (1, .ref (az_ad V a0)), (2, .int x2), (3, .int x3), (4, .int x4), (5, .int x5), (6, .int x6), (7, .int x7)] [] := by
  unfold f_X8_hold_182 at h
  refine az_iinc (v := (x7 + 1)) C 7 dX8_hold_182 rfl rfl (by decide) rfl ?_
  refine az_goto C 38 dX8_hold_185 (by decide) ?_
  refine az_sub [1, 2, 3, 4, 5, 6, 7, 0] rfl ?_
  exact hK38 x2 x3 x4 x5 x6 (x7 + 1) M r h hp
set_option maxHeartbeats 4000000 in
set_option maxRecDepth 100000 in
theorem s_X8_hold_168 {Y : az_Y} {V : az_V} {post : Option Value → az_M → Prop} (C : az_C Y V cX8_hold 11 RX8 (some .int) 5) (G : Nat) (a0 : Nat) (ha0 : az_pv V a0) (K38 : (Int32 → Int32 → Int32 → Int32 → Int32 → Int32 → az_M → Option (Int32 × az_M))) (hK38 : ∀ (x2 : Int32) (x3 : Int32) (x4 : Int32) (x5 : Int32) (x6 : Int32) (x7 : Int32) (M : az_M) (r : (Int32 × az_M)), K38 x2 x3 x4 x5 x6 x7 M = some r → post (some (.int r.1)) r.2 → AW Y V (az_end Y V post) 11 M 38 [(0, .ref (az_ad V 19)), (1, .ref (az_ad V a0)), (2, .int x2), (3, .int x3), (4, .int x4), (5, .int x5), (6, .int x6), (7, .int x7)] []) (x2 : Int32) (x3 : Int32) (x4 : Int32) (x5 : Int32) (x7 : Int32) (s0 : Int32) (M : az_M) (r : (Int32 × az_M)) (h : f_X8_hold_168 (az_z V) G a0 K38 x2 x3 x4 x5 x7 s0 M = some r) (hp : post (some (.int r.1)) r.2) : AW Y V (az_end Y V post) 11 M 168 [(0, .ref (az_ad V 19)), (1, .ref (az_ad V a0)), (2, .int x2), (3, .int x3), (4, .int x4), (5, .int x5), (7, .int x7)] [.int s0] := by
  unfold f_X8_hold_168 at h
  refine az_istore C dX8_hold_168 (by decide) rfl ?_
  refine az_goto C 182 dX8_hold_170 (by decide) ?_
  refine az_sub [1, 2, 3, 4, 5, 6, 0, 7] rfl ?_
  exact s_X8_hold_182 C G a0 ha0 K38 hK38 x2 x3 x4 x5 s0 x7 M r h hp
set_option maxHeartbeats 4000000 in
set_option maxRecDepth 100000 in
theorem s_X8_hold_127 {Y : az_Y} {V : az_V} {post : Option Value → az_M → Prop} (C : az_C Y V cX8_hold 11 RX8 (some .int) 5) (G : Nat) (a0 : Nat) (ha0 : az_pv V a0) (K38 : (Int32 → Int32 → Int32 → Int32 → Int32 → Int32 → az_M → Option (Int32 × az_M))) (hK38 : ∀ (x2 : Int32) (x3 : Int32) (x4 : Int32) (x5 : Int32) (x6 : Int32) (x7 : Int32) (M : az_M) (r : (Int32 × az_M)), K38 x2 x3 x4 x5 x6 x7 M = some r → post (some (.int r.1)) r.2 → AW Y V (az_end Y V post) 11 M 38 [(0, .ref (az_ad V 19)), (1, .ref (az_ad V a0)), (2, .int x2), (3, .int x3), (4, .int x4), (5, .int x5), (6, .int x6), (7, .int x7)] []) (x2 : Int32) (x3 : Int32) (x4 : Int32) (x5 : Int32) (x7 : Int32) (x8 : Int32) (s0 : Int32) (M : az_M) (r : (Int32 × az_M)) (h : f_X8_hold_127 (az_z V) G a0 K38 x2 x3 x4 x5 x7 x8 s0 M = some r) (hp : post (some (.int r.1)) r.2) : AW Y V (az_end Y V post) 11 M 127 [(0, .ref (az_ad V 19)), (1, .ref (az_ad V a0)), (2, .int x2), (3, .int x3), (4, .int x4), (5, .int x5), (7, .int x7), (8, .int x8)] [.int s0] := by
  unfold f_X8_hold_127 at h
  refine az_istore C dX8_hold_127 (by decide) rfl ?_
  refine az_aload_n C 2 dX8_hold_129 rfl ?_
  refine az_getr (r := (a0 + 1)) C ha0.1 fl_X8_65 rfl rfl dX8_hold_130 ?_
  refine az_bipush (v := 83) C dX8_hold_133 (by decide) ?_
  refine az_iload C 0 dX8_hold_135 rfl ?_
  refine az_iadd C dX8_hold_137 ?_
  refine az_aload_n C 2 dX8_hold_138 rfl ?_
  refine az_getr (r := (a0 + 1)) C ha0.1 fl_X8_65 rfl rfl dX8_hold_139 ?_
  refine az_bipush (v := 16) C dX8_hold_142 (by decide) ?_
  refine az_ild (k := 16) C ha0.2 (az_vin (by decide)) (by decide) dX8_hold_144 ?_
  refine az_bipush (v := 7) C dX8_hold_145 (by decide) ?_
  refine az_iadd C dX8_hold_147 ?_
  obtain ⟨g19, h⟩ := az_g h
  refine az_ist (k := (83 + s0).toNatClampNeg) C ha0.2 g19 rfl dX8_hold_148 ?_
  refine az_aload_n C 2 dX8_hold_149 rfl ?_
  refine az_bipush (v := 12) C dX8_hold_150 (by decide) ?_
  refine az_iload C 0 dX8_hold_152 rfl ?_
  refine az_iadd C dX8_hold_154 ?_
  obtain ⟨q20, e21, h⟩ := az_b h
  refine az_cV (rest := []) (st2 := []) C [.int (12 + s0)] (c_X4_noteShot C.hL a0 ha0 (12 + s0) (az_i M (a0 + 1) ((83 + s0).toNatClampNeg) ((M.1 (a0 + 1) 16) + 7)) e21) (by decide) li_X8_73 ha0.1 (by decide) rfl rfl (Nat.le_of_ble_eq_true rfl) dX8_hold_155 rfl ?_
  refine az_iload C 8 dX8_hold_158 rfl ?_
  refine az_if_eq C 167 dX8_hold_160 (by decide) (fun c22 => ?_) (fun c22 => ?_)
  · have h := az_t c22 h
    refine az_iconst (v := 2) C dX8_hold_167 (by decide) ?_
    refine az_sub [1, 2, 3, 4, 5, 6, 7] rfl ?_
    exact s_X8_hold_168 C G a0 ha0 K38 hK38 x2 x3 x4 x5 x7 2 q20 r h hp
  · have h := az_f c22 h
    refine az_iconst (v := 1) C dX8_hold_163 (by decide) ?_
    refine az_goto C 168 dX8_hold_164 (by decide) ?_
    refine az_sub [1, 2, 3, 4, 5, 6, 7] rfl ?_
    exact s_X8_hold_168 C G a0 ha0 K38 hK38 x2 x3 x4 x5 x7 1 q20 r h hp
set_option maxHeartbeats 4000000 in
set_option maxRecDepth 100000 in
theorem s_X8_hold_82 {Y : az_Y} {V : az_V} {post : Option Value → az_M → Prop} (C : az_C Y V cX8_hold 11 RX8 (some .int) 5) (G : Nat) (a0 : Nat) (ha0 : az_pv V a0) (K38 : (Int32 → Int32 → Int32 → Int32 → Int32 → Int32 → az_M → Option (Int32 × az_M))) (hK38 : ∀ (x2 : Int32) (x3 : Int32) (x4 : Int32) (x5 : Int32) (x6 : Int32) (x7 : Int32) (M : az_M) (r : (Int32 × az_M)), K38 x2 x3 x4 x5 x6 x7 M = some r → post (some (.int r.1)) r.2 → AW Y V (az_end Y V post) 11 M 38 [(0, .ref (az_ad V 19)), (1, .ref (az_ad V a0)), (2, .int x2), (3, .int x3), (4, .int x4), (5, .int x5), (6, .int x6), (7, .int x7)] []) (x2 : Int32) (x3 : Int32) (x4 : Int32) (x5 : Int32) (x6 : Int32) (x7 : Int32) (x8 : Int32) (s0 : Int32) (M : az_M) (r : (Int32 × az_M)) (h : f_X8_hold_82 (az_z V) G a0 K38 x2 x3 x4 x5 x6 x7 x8 s0 M = some r) (hp : post (some (.int r.1)) r.2) : AW Y V (az_end Y V post) 11 M 82 [(0, .ref (az_ad V 19)), (1, .ref (az_ad V a0)), (2, .int x2), (3, .int x3), (4, .int x4), (5, .int x5), (6, .int x6), (7, .int x7), (8, .int x8)] [.int s0] := by
  have o19 := C.hL.at 19 (ci := 8) rfl
  unfold f_X8_hold_82 at h
  refine az_istore C dX8_hold_82 (by decide) rfl ?_
  refine az_aload_n C 2 dX8_hold_84 rfl ?_
  obtain ⟨q8, e9, h⟩ := az_b h
  refine az_cV (rest := []) (st2 := [.int q8]) C [] (c_X4_canBeFired C.hL a0 ha0 M e9) (by decide) li_X8_80 ha0.1 (by decide) rfl rfl (Nat.le_of_ble_eq_true rfl) dX8_hold_85 rfl ?_
  refine az_if_ne C 97 dX8_hold_88 (by decide) (fun c10 => ?_) (fun c10 => ?_)
  · have h := az_f c10 h
    refine az_aload_n C 1 dX8_hold_97 rfl ?_
    refine az_bipush (v := 10) C dX8_hold_98 (by decide) ?_
    obtain ⟨q11, e12, h⟩ := az_b h
    refine az_cV (rest := []) (st2 := [.int q11.1]) C [.int 10] (c_X8_draw C.hL 10 M e12) (by decide) li_X8_88 o19 (by decide) rfl rfl (Nat.le_of_ble_eq_true rfl) dX8_hold_100 rfl ?_
    refine az_aload_n C 1 dX8_hold_103 rfl ?_
    refine az_aload_n C 2 dX8_hold_104 rfl ?_
    refine az_iconst (v := 0) C dX8_hold_105 (by decide) ?_
    refine az_iload C 0 dX8_hold_106 rfl ?_
    refine az_iload C 6 dX8_hold_108 rfl ?_
    obtain ⟨q13, e14, h⟩ := az_b h
    refine az_cV (rest := [.int q11.1]) (st2 := [.int q13.1, .int q11.1]) C [.ref (az_ad V a0), .int 0, .int s0, .int x5] (c_X8_ask C.hL G a0 ha0 0 s0 x5 q11.2 e14) (by decide) li_X8_70 o19 (by decide) rfl rfl (Nat.le_of_ble_eq_true rfl) dX8_hold_110 rfl ?_
    refine az_icmp_ge C 173 dX8_hold_113 (by decide) (fun c15 => ?_) (fun c15 => ?_)
    · have h := az_t c15 h
      refine az_aload_n C 1 dX8_hold_173 rfl ?_
      refine az_aload_n C 2 dX8_hold_174 rfl ?_
      refine az_iload C 0 dX8_hold_175 rfl ?_
      refine az_iload C 6 dX8_hold_177 rfl ?_
      obtain ⟨q16, e17, h⟩ := az_b h
      refine az_cV (rest := []) (st2 := []) C [.ref (az_ad V a0), .int s0, .int x5] (c_X8_shoot C.hL G a0 ha0 s0 x5 q13.2 e17) (by decide) li_X8_92 o19 (by decide) rfl rfl (Nat.le_of_ble_eq_true rfl) dX8_hold_179 rfl ?_
      refine az_sub [1, 2, 3, 4, 5, 6, 7, 8] rfl ?_
      exact s_X8_hold_182 C G a0 ha0 K38 hK38 x2 x3 x4 x5 x6 x7 q16 r h hp
    · have h := az_f c15 h
      refine az_iload C 9 dX8_hold_116 rfl ?_
      refine az_if_eq C 126 dX8_hold_118 (by decide) (fun c18 => ?_) (fun c18 => ?_)
      · have h := az_t c18 h
        refine az_iload_n C 4 dX8_hold_126 rfl ?_
        refine az_sub [1, 2, 3, 4, 5, 6, 8, 9] rfl ?_
        exact s_X8_hold_127 C G a0 ha0 K38 hK38 x2 x3 x4 x5 x7 x8 x3 q13.2 r h hp
      · have h := az_f c18 h
        refine az_iload C 5 dX8_hold_121 rfl ?_
        refine az_goto C 127 dX8_hold_123 (by decide) ?_
        refine az_sub [1, 2, 3, 4, 5, 6, 8, 9] rfl ?_
        exact s_X8_hold_127 C G a0 ha0 K38 hK38 x2 x3 x4 x5 x7 x8 x4 q13.2 r h hp
  · have h := az_t c10 h
    refine az_iconst (v := 3) C dX8_hold_91 (by decide) ?_
    refine az_istore C dX8_hold_92 (by decide) rfl ?_
    refine az_goto C 182 dX8_hold_94 (by decide) ?_
    refine az_sub [2, 3, 4, 5, 6, 7, 0, 8] rfl ?_
    exact s_X8_hold_182 C G a0 ha0 K38 hK38 x2 x3 x4 x5 3 x7 M r h hp
set_option maxHeartbeats 4000000 in
set_option maxRecDepth 100000 in
theorem s_X8_hold_69 {Y : az_Y} {V : az_V} {post : Option Value → az_M → Prop} (C : az_C Y V cX8_hold 11 RX8 (some .int) 5) (G : Nat) (a0 : Nat) (ha0 : az_pv V a0) (K38 : (Int32 → Int32 → Int32 → Int32 → Int32 → Int32 → az_M → Option (Int32 × az_M))) (hK38 : ∀ (x2 : Int32) (x3 : Int32) (x4 : Int32) (x5 : Int32) (x6 : Int32) (x7 : Int32) (M : az_M) (r : (Int32 × az_M)), K38 x2 x3 x4 x5 x6 x7 M = some r → post (some (.int r.1)) r.2 → AW Y V (az_end Y V post) 11 M 38 [(0, .ref (az_ad V 19)), (1, .ref (az_ad V a0)), (2, .int x2), (3, .int x3), (4, .int x4), (5, .int x5), (6, .int x6), (7, .int x7)] []) (x2 : Int32) (x3 : Int32) (x4 : Int32) (x5 : Int32) (x6 : Int32) (x7 : Int32) (s0 : Int32) (M : az_M) (r : (Int32 × az_M)) (h : f_X8_hold_69 (az_z V) G a0 K38 x2 x3 x4 x5 x6 x7 s0 M = some r) (hp : post (some (.int r.1)) r.2) : AW Y V (az_end Y V post) 11 M 69 [(0, .ref (az_ad V 19)), (1, .ref (az_ad V a0)), (2, .int x2), (3, .int x3), (4, .int x4), (5, .int x5), (6, .int x6), (7, .int x7)] [.int s0] := by
  unfold f_X8_hold_69 at h
  refine az_istore C dX8_hold_69 (by decide) rfl ?_
  refine az_iload C 0 dX8_hold_71 rfl ?_
  refine az_if_eq C 80 dX8_hold_73 (by decide) (fun c7 => ?_) (fun c7 => ?_)
  · have h := az_t c7 h
    refine az_iload C 5 dX8_hold_80 rfl ?_
    refine az_sub [1, 2, 3, 4, 5, 6, 7, 8, 0] rfl ?_
    exact s_X8_hold_82 C G a0 ha0 K38 hK38 x2 x3 x4 x5 x6 x7 s0 x4 M r h hp
  · have h := az_f c7 h
    refine az_iload_n C 4 dX8_hold_76 rfl ?_
    refine az_goto C 82 dX8_hold_77 (by decide) ?_
    refine az_sub [1, 2, 3, 4, 5, 6, 7, 8, 0] rfl ?_
    exact s_X8_hold_82 C G a0 ha0 K38 hK38 x2 x3 x4 x5 x6 x7 s0 x3 M r h hp
set_option maxHeartbeats 4000000 in
set_option maxRecDepth 100000 in
theorem s_X8_hold_188 {Y : az_Y} {V : az_V} {post : Option Value → az_M → Prop} (C : az_C Y V cX8_hold 11 RX8 (some .int) 5) (G : Nat) (a0 : Nat) (ha0 : az_pv V a0) (x2 : Int32) (x6 : Int32) (M : az_M) (r : (Int32 × az_M)) (h : f_X8_hold_188 (az_z V) G a0 x2 x6 M = some r) (hp : post (some (.int r.1)) r.2) : AW Y V (az_end Y V post) 11 M 188 [(1, .ref (az_ad V a0)), (2, .int x2), (6, .int x6)] [] := by
  unfold f_X8_hold_188 at h
  refine az_aload_n C 0 dX8_hold_188 rfl ?_
  refine az_iload_n C 1 dX8_hold_189 rfl ?_
  obtain ⟨q23, e24, h⟩ := az_b h
  refine az_cV (rest := []) (st2 := []) C [.int x2] (c_X4_dropQuarrel C.hL G a0 ha0 x2 M e24) (by decide) li_X8_95 ha0.1 (by decide) rfl rfl (Nat.le_of_ble_eq_true rfl) dX8_hold_190 rfl ?_
  refine az_iload C 2 dX8_hold_193 rfl ?_
  obtain rfl := Option.some.inj h
  exact az_iret C dX8_hold_195 hp
set_option maxHeartbeats 4000000 in
set_option maxRecDepth 100000 in
theorem s_X8_hold_38 {Y : az_Y} {V : az_V} {post : Option Value → az_M → Prop} (C : az_C Y V cX8_hold 11 RX8 (some .int) 5) (G : Nat) (a0 : Nat) (ha0 : az_pv V a0) : ∀ (F : Nat) (x2 : Int32) (x3 : Int32) (x4 : Int32) (x5 : Int32) (x6 : Int32) (x7 : Int32) (M : az_M) (r : (Int32 × az_M)), f_X8_hold_38 (az_z V) G a0 F x2 x3 x4 x5 x6 x7 M = some r → post (some (.int r.1)) r.2 → AW Y V (az_end Y V post) 11 M 38 [(0, .ref (az_ad V 19)), (1, .ref (az_ad V a0)), (2, .int x2), (3, .int x3), (4, .int x4), (5, .int x5), (6, .int x6), (7, .int x7)] [] := by
  intro F
  induction F with
  | zero =>
    intro x2 x3 x4 x5 x6 x7 M r h
    exact absurd (show (none : Option (Int32 × az_M)) = some r from h) (fun q => by cases q)
  | succ F ih =>
    intro x2 x3 x4 x5 x6 x7 M r h hp
    rw [f_X8_hold_38] at h
    refine az_iload C 7 dX8_hold_38 rfl ?_
    refine az_iconst (v := 2) C dX8_hold_40 (by decide) ?_
    refine az_aload_n C 1 dX8_hold_41 rfl ?_
    refine az_getr (r := (a0 + 1)) C ha0.1 fl_X8_65 rfl rfl dX8_hold_42 ?_
    refine az_bipush (v := 17) C dX8_hold_45 (by decide) ?_
    refine az_ild (k := 17) C ha0.2 (az_vin (by decide)) (by decide) dX8_hold_47 ?_
    refine az_imul C dX8_hold_48 ?_
    refine az_icmp_ge C 188 dX8_hold_49 (by decide) (fun c4 => ?_) (fun c4 => ?_)
    · have h := az_t c4 h
      refine az_sub [1, 2, 6] rfl ?_
      exact s_X8_hold_188 C G a0 ha0 x2 x6 M r h hp
    · have h := az_f c4 h
      refine az_iload C 6 dX8_hold_52 rfl ?_
      refine az_if_ne C 188 dX8_hold_54 (by decide) (fun c5 => ?_) (fun c5 => ?_)
      · have h := az_f c5 h
        refine az_sub [1, 2, 6] rfl ?_
        exact s_X8_hold_188 C G a0 ha0 x2 x6 M r h hp
      · have h := az_t c5 h
        refine az_iload C 7 dX8_hold_57 rfl ?_
        refine az_iconst (v := 2) C dX8_hold_59 (by decide) ?_
        refine az_irem2 C dX8_hold_60 (by decide) ?_
        refine az_if_ne C 68 dX8_hold_61 (by decide) (fun c6 => ?_) (fun c6 => ?_)
        · have h := az_f c6 h
          refine az_iconst (v := 0) C dX8_hold_68 (by decide) ?_
          exact s_X8_hold_69 C G a0 ha0 (f_X8_hold_38 (az_z V) G a0 F) ih x2 x3 x4 x5 x6 x7 0 M r h hp
        · have h := az_t c6 h
          refine az_iconst (v := 1) C dX8_hold_64 (by decide) ?_
          refine az_goto C 69 dX8_hold_65 (by decide) ?_
          exact s_X8_hold_69 C G a0 ha0 (f_X8_hold_38 (az_z V) G a0 F) ih x2 x3 x4 x5 x6 x7 1 M r h hp
set_option maxHeartbeats 4000000 in
set_option maxRecDepth 100000 in
theorem s_X8_hold_e {Y : az_Y} {V : az_V} {post : Option Value → az_M → Prop} (C : az_C Y V cX8_hold 11 RX8 (some .int) 5) (G : Nat) (a0 : Nat) (ha0 : az_pv V a0) (p1 : Int32) (M : az_M) (r : (Int32 × az_M)) (h : f_X8_hold (az_z V) G a0 p1 M = some r) (hp : post (some (.int r.1)) r.2) : AW Y V (az_end Y V post) 11 M 0 [(0, .ref (az_ad V 19)), (1, .ref (az_ad V a0)), (2, .int p1)] [] := by
  unfold f_X8_hold at h
  refine az_aload_n C 1 dX8_hold_0 rfl ?_
  refine az_getr (r := (a0 + 1)) C ha0.1 fl_X8_65 rfl rfl dX8_hold_1 ?_
  refine az_bipush (v := 93) C dX8_hold_4 (by decide) ?_
  refine az_iload_n C 2 dX8_hold_6 rfl ?_
  refine az_iadd C dX8_hold_7 ?_
  obtain ⟨g1, h⟩ := az_g h
  refine az_ild (k := (93 + p1).toNatClampNeg) C ha0.2 g1 rfl dX8_hold_8 ?_
  refine az_istore_n C dX8_hold_9 rfl (by decide) rfl ?_
  refine az_aload_n C 2 dX8_hold_10 rfl ?_
  refine az_getr (r := (a0 + 1)) C ha0.1 fl_X8_65 rfl rfl dX8_hold_11 ?_
  refine az_bipush (v := 100) C dX8_hold_14 (by decide) ?_
  refine az_iload_n C 3 dX8_hold_16 rfl ?_
  refine az_iadd C dX8_hold_17 ?_
  obtain ⟨g2, h⟩ := az_g h
  refine az_ild (k := (100 + p1).toNatClampNeg) C ha0.2 g2 rfl dX8_hold_18 ?_
  refine az_istore C dX8_hold_19 (by decide) rfl ?_
  refine az_aload_n C 3 dX8_hold_21 rfl ?_
  refine az_getr (r := (a0 + 1)) C ha0.1 fl_X8_65 rfl rfl dX8_hold_22 ?_
  refine az_bipush (v := 107) C dX8_hold_25 (by decide) ?_
  refine az_iload_n C 4 dX8_hold_27 rfl ?_
  refine az_iadd C dX8_hold_28 ?_
  obtain ⟨g3, h⟩ := az_g h
  refine az_ild (k := (107 + p1).toNatClampNeg) C ha0.2 g3 rfl dX8_hold_29 ?_
  refine az_istore C dX8_hold_30 (by decide) rfl ?_
  refine az_iconst (v := 0) C dX8_hold_32 (by decide) ?_
  refine az_istore C dX8_hold_33 (by decide) rfl ?_
  refine az_iconst (v := 0) C dX8_hold_35 (by decide) ?_
  refine az_istore C dX8_hold_36 (by decide) rfl ?_
  refine az_sub [5, 6, 7, 4, 3, 2, 1, 0] rfl ?_
  exact s_X8_hold_38 C G a0 ha0 G p1 (M.1 (a0 + 1) ((93 + p1).toNatClampNeg)) (M.1 (a0 + 1) ((100 + p1).toNatClampNeg)) (M.1 (a0 + 1) ((107 + p1).toNatClampNeg)) 0 0 M r h hp
theorem c_X8_hold {l : Launch} {V : az_V} (hL : az_L V) (G : Nat) (a0 : Nat) (ha0 : az_pv V a0) (p1 : Int32) (M : az_M) {r : (Int32 × az_M)} (h : f_X8_hold (az_z V) G a0 p1 M = some r) : az_Ct l V yX8_hold cX8_hold 11 (some .int) 5 [.ref (az_ad V 19), .ref (az_ad V a0), .int p1] M (fun v M' => v = some (.int r.1) ∧ M' = r.2) :=
  az_Ct.of (by decide) (Nat.le_of_ble_eq_true rfl) (fun Y _ _ C => s_X8_hold_e C G a0 ha0 p1 M r h ⟨rfl, rfl⟩)
