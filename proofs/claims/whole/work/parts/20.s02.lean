set_option maxHeartbeats 4000000 in
set_option maxRecDepth 100000 in
theorem s_X12_of_32 {Y : az_Y} {V : az_V} {post : Option Value → az_M → Prop} (C : az_C Y V cX12_of 3 RX12 (some .int) 7) (G : Nat)  (M : az_M) (r : (Int32 × az_M)) (h : f_X12_of_32 G M = some r) (hp : post (some (.int r.1)) r.2) : AW Y V (az_end Y V post) 3 M 32 [] [] := by
  unfold f_X12_of_32 at h
  refine az_iconst (v := (-1)) C dX12_of_32 (by decide) ?_
  obtain rfl := Option.some.inj h
  exact az_iret C dX12_of_33 hp
set_option maxHeartbeats 4000000 in
set_option maxRecDepth 100000 in
theorem s_X12_of_77 {Y : az_Y} {V : az_V} {post : Option Value → az_M → Prop} (C : az_C Y V cX12_of 3 RX12 (some .int) 7) (G : Nat) (s0 : Int32) (M : az_M) (r : (Int32 × az_M)) (h : f_X12_of_77 G s0 M = some r) (hp : post (some (.int r.1)) r.2) : AW Y V (az_end Y V post) 3 M 77 [] [.int s0] := by
  unfold f_X12_of_77 at h
  obtain rfl := Option.some.inj h
  exact az_iret C dX12_of_77 hp
set_option maxHeartbeats 4000000 in
set_option maxRecDepth 100000 in
theorem s_X12_of_34 {Y : az_Y} {V : az_V} {post : Option Value → az_M → Prop} (C : az_C Y V cX12_of 3 RX12 (some .int) 7) (G : Nat) (x1 : Int32) (x2 : Int32) (M : az_M) (r : (Int32 × az_M)) (h : f_X12_of_34 G x1 x2 M = some r) (hp : post (some (.int r.1)) r.2) : AW Y V (az_end Y V post) 3 M 34 [(0, .ref (az_ad V 40)), (1, .int x1), (2, .int x2)] [] := by
  have o40 := C.hL.at 40 (ci := 12) rfl
  unfold f_X12_of_34 at h
  refine az_iload_n C 2 dX12_of_34 rfl ?_
  refine az_iconst (v := 3) C dX12_of_35 (by decide) ?_
  refine az_icmp_ge C 48 dX12_of_36 (by decide) (fun c9 => ?_) (fun c9 => ?_)
  · have h := az_t c9 h
    refine az_iload_n C 2 dX12_of_48 rfl ?_
    refine az_iconst (v := 3) C dX12_of_49 (by decide) ?_
    refine az_icmp_ne C 69 dX12_of_50 (by decide) (fun c10 => ?_) (fun c10 => ?_)
    · have h := az_f c10 h
      refine az_aload_n C 0 dX12_of_69 rfl ?_
      refine az_iload_n C 1 dX12_of_70 rfl ?_
      refine az_iload_n C 2 dX12_of_71 rfl ?_
      refine az_iconst (v := 4) C dX12_of_72 (by decide) ?_
      refine az_isub C dX12_of_73 ?_
      obtain ⟨q11, e12, h⟩ := az_b h
      refine az_cV (rest := []) (st2 := [.int q11.1]) C [.int x1, .int (x2 - 4)] (c_X12_aimsOf C.hL G x1 (x2 - 4) M e12) (by decide) li_X12_235 o40 (by decide) rfl rfl (Nat.le_of_ble_eq_true rfl) dX12_of_74 rfl ?_
      refine az_sub [] rfl ?_
      exact s_X12_of_77 C G q11.1 q11.2 r h hp
    · have h := az_t c10 h
      refine az_aload_n C 0 dX12_of_53 rfl ?_
      refine az_iload_n C 1 dX12_of_54 rfl ?_
      obtain ⟨q13, e14, h⟩ := az_b h
      refine az_cV (rest := []) (st2 := [.int q13]) C [.int x1] (c_X12_isHurt C.hL x1 M e14) (by decide) li_X12_232 o40 (by decide) rfl rfl (Nat.le_of_ble_eq_true rfl) dX12_of_55 rfl ?_
      refine az_if_eq C 65 dX12_of_58 (by decide) (fun c15 => ?_) (fun c15 => ?_)
      · have h := az_t c15 h
        refine az_iconst (v := 0) C dX12_of_65 (by decide) ?_
        refine az_goto C 77 dX12_of_66 (by decide) ?_
        refine az_sub [] rfl ?_
        exact s_X12_of_77 C G 0 M r h hp
      · have h := az_f c15 h
        refine az_iconst (v := 1) C dX12_of_61 (by decide) ?_
        refine az_goto C 77 dX12_of_62 (by decide) ?_
        refine az_sub [] rfl ?_
        exact s_X12_of_77 C G 1 M r h hp
  · have h := az_f c9 h
    refine az_aload_n C 0 dX12_of_39 rfl ?_
    refine az_iload_n C 1 dX12_of_40 rfl ?_
    refine az_iload_n C 2 dX12_of_41 rfl ?_
    obtain ⟨q16, e17, h⟩ := az_b h
    refine az_cV (rest := []) (st2 := [.int q16]) C [.int x1, .int x2] (c_X12_ofPerson C.hL x1 x2 M e17) (by decide) li_X12_226 o40 (by decide) rfl rfl (Nat.le_of_ble_eq_true rfl) dX12_of_42 rfl ?_
    refine az_goto C 77 dX12_of_45 (by decide) ?_
    refine az_sub [] rfl ?_
    exact s_X12_of_77 C G q16 M r h hp
set_option maxHeartbeats 4000000 in
set_option maxRecDepth 100000 in
theorem s_X12_of_e {Y : az_Y} {V : az_V} {post : Option Value → az_M → Prop} (C : az_C Y V cX12_of 3 RX12 (some .int) 7) (G : Nat) (p0 : Int32) (p1 : Int32) (M : az_M) (r : (Int32 × az_M)) (h : f_X12_of G p0 p1 M = some r) (hp : post (some (.int r.1)) r.2) : AW Y V (az_end Y V post) 3 M 0 [(0, .ref (az_ad V 40)), (1, .int p0), (2, .int p1)] [] := by
  have o40 := C.hL.at 40 (ci := 12) rfl
  unfold f_X12_of at h
  refine az_aload_n C 0 dX12_of_0 rfl ?_
  refine az_iconst (v := 0) C dX12_of_1 (by decide) ?_
  refine az_puti C o40 fl_X12_149 rfl rfl rfl rfl dX12_of_2 ?_
  refine az_aload_n C 0 dX12_of_5 rfl ?_
  refine az_iload_n C 1 dX12_of_6 rfl ?_
  obtain ⟨q1, e2, h⟩ := az_b h
  refine az_cV (rest := []) (st2 := [.int q1]) C [.int p0] (c_X12_isPerson C.hL p0 (az_i M 40 0 0) e2) (by decide) li_X12_229 o40 (by decide) rfl rfl (Nat.le_of_ble_eq_true rfl) dX12_of_7 rfl ?_
  refine az_if_eq C 32 dX12_of_10 (by decide) (fun c3 => ?_) (fun c3 => ?_)
  · have h := az_t c3 h
    refine az_sub [] rfl ?_
    exact s_X12_of_32 C G (az_i M 40 0 0) r h hp
  · have h := az_f c3 h
    refine az_iload_n C 2 dX12_of_13 rfl ?_
    refine az_if_lt C 32 dX12_of_14 (by decide) (fun c4 => ?_) (fun c4 => ?_)
    · have h := az_t c4 h
      refine az_sub [] rfl ?_
      exact s_X12_of_32 C G (az_i M 40 0 0) r h hp
    · have h := az_f c4 h
      refine az_iload_n C 2 dX12_of_17 rfl ?_
      refine az_iconst (v := 3) C dX12_of_18 (by decide) ?_
      refine az_icmp_le C 34 dX12_of_19 (by decide) (fun c5 => ?_) (fun c5 => ?_)
      · have h := az_t c5 h
        exact s_X12_of_34 C G p0 p1 (az_i M 40 0 0) r h hp
      · have h := az_f c5 h
        refine az_aload_n C 0 dX12_of_22 rfl ?_
        refine az_iload_n C 2 dX12_of_23 rfl ?_
        refine az_iconst (v := 4) C dX12_of_24 (by decide) ?_
        refine az_isub C dX12_of_25 ?_
        obtain ⟨q6, e7, h⟩ := az_b h
        refine az_cV (rest := []) (st2 := [.int q6]) C [.int (p1 - 4)] (c_X12_isPlace C.hL (p1 - 4) (az_i M 40 0 0) e7) (by decide) li_X12_206 o40 (by decide) rfl rfl (Nat.le_of_ble_eq_true rfl) dX12_of_26 rfl ?_
        refine az_if_ne C 34 dX12_of_29 (by decide) (fun c8 => ?_) (fun c8 => ?_)
        · have h := az_f c8 h
          exact s_X12_of_34 C G p0 p1 (az_i M 40 0 0) r h hp
        · have h := az_t c8 h
          refine az_sub [] rfl ?_
          exact s_X12_of_32 C G (az_i M 40 0 0) r h hp
theorem c_X12_of {l : Launch} {V : az_V} (hL : az_L V) (G : Nat) (p0 : Int32) (p1 : Int32) (M : az_M) {r : (Int32 × az_M)} (h : f_X12_of G p0 p1 M = some r) : az_Ct l V yX12_of cX12_of 3 (some .int) 7 [.ref (az_ad V 40), .int p0, .int p1] M (fun v M' => v = some (.int r.1) ∧ M' = r.2) :=
  az_Ct.of (by decide) (Nat.le_of_ble_eq_true rfl) (fun Y _ _ C => s_X12_of_e C G p0 p1 M r h ⟨rfl, rfl⟩)
set_option maxHeartbeats 4000000 in
set_option maxRecDepth 100000 in
theorem s_X12_quarrel_23 {Y : az_Y} {V : az_V} {post : Option Value → az_M → Prop} (C : az_C Y V cX12_quarrel 7 RX12 (some .int) 3)  (M : az_M) (r : (Int32 × az_M)) (h : f_X12_quarrel_23 M = some r) (hp : post (some (.int r.1)) r.2) : AW Y V (az_end Y V post) 7 M 23 [(0, .ref (az_ad V 40))] [] := by
  have o40 := C.hL.at 40 (ci := 12) rfl
  unfold f_X12_quarrel_23 at h
  refine az_aload_n C 0 dX12_quarrel_23 rfl ?_
  refine az_iconst (v := (-1)) C dX12_quarrel_24 (by decide) ?_
  obtain ⟨q25, e26, h⟩ := az_b h
  refine az_cV (rest := []) (st2 := [.int q25.1]) C [.int (-1)] (c_X12_tell C.hL (-1) M e26) (by decide) li_X12_158 o40 (by decide) rfl rfl (Nat.le_of_ble_eq_true rfl) dX12_quarrel_25 rfl ?_
  obtain rfl := Option.some.inj h
  exact az_iret C dX12_quarrel_28 hp
set_option maxHeartbeats 4000000 in
set_option maxRecDepth 100000 in
theorem s_X12_quarrel_53 {Y : az_Y} {V : az_V} {post : Option Value → az_M → Prop} (C : az_C Y V cX12_quarrel 7 RX12 (some .int) 3)  (M : az_M) (r : (Int32 × az_M)) (h : f_X12_quarrel_53 M = some r) (hp : post (some (.int r.1)) r.2) : AW Y V (az_end Y V post) 7 M 53 [(0, .ref (az_ad V 40))] [] := by
  have o40 := C.hL.at 40 (ci := 12) rfl
  unfold f_X12_quarrel_53 at h
  refine az_aload_n C 0 dX12_quarrel_53 rfl ?_
  refine az_bipush (v := (-2)) C dX12_quarrel_54 (by decide) ?_
  obtain ⟨q23, e24, h⟩ := az_b h
  refine az_cV (rest := []) (st2 := [.int q23.1]) C [.int (-2)] (c_X12_tell C.hL (-2) M e24) (by decide) li_X12_158 o40 (by decide) rfl rfl (Nat.le_of_ble_eq_true rfl) dX12_quarrel_56 rfl ?_
  obtain rfl := Option.some.inj h
  exact az_iret C dX12_quarrel_59 hp
set_option maxHeartbeats 4000000 in
set_option maxRecDepth 100000 in
theorem s_X12_quarrel_e {Y : az_Y} {V : az_V} {post : Option Value → az_M → Prop} (C : az_C Y V cX12_quarrel 7 RX12 (some .int) 3) (p0 : Int32) (p1 : Int32) (p2 : Int32) (p3 : Int32) (M : az_M) (r : (Int32 × az_M)) (h : f_X12_quarrel p0 p1 p2 p3 M = some r) (hp : post (some (.int r.1)) r.2) : AW Y V (az_end Y V post) 7 M 0 [(0, .ref (az_ad V 40)), (1, .int p0), (2, .int p1), (3, .int p2), (4, .int p3)] [] := by
  have o40 := C.hL.at 40 (ci := 12) rfl
  have a42 := C.hL.ar 42 (t := 0) (len := 5550) rfl
  unfold f_X12_quarrel at h
  refine az_aload_n C 0 dX12_quarrel_0 rfl ?_
  refine az_iconst (v := 0) C dX12_quarrel_1 (by decide) ?_
  refine az_puti C o40 fl_X12_149 rfl rfl rfl rfl dX12_quarrel_2 ?_
  refine az_iload_n C 1 dX12_quarrel_5 rfl ?_
  refine az_iload_n C 2 dX12_quarrel_6 rfl ?_
  refine az_icmp_eq C 23 dX12_quarrel_7 (by decide) (fun c1 => ?_) (fun c1 => ?_)
  · have h := az_t c1 h
    refine az_sub [0] rfl ?_
    exact s_X12_quarrel_23 C (az_i M 40 0 0) r h hp
  · have h := az_f c1 h
    refine az_iload C 4 dX12_quarrel_10 rfl ?_
    refine az_i2l C dX12_quarrel_12 ?_
    refine az_lconst (v := 0) C dX12_quarrel_13 (by decide) ?_
    refine az_ldc2 C ck_X12_178 dX12_quarrel_14 ?_
    obtain ⟨q2, e3, h⟩ := az_b h
    refine az_cS (rest := []) (st2 := [.int q2]) C [.long p3.toInt64, .long 0, .long 999] (c_X12_in C.hL p3.toInt64 0 999 (az_i M 40 0 0) e3) (by decide) li_X12_169 rfl rfl (Nat.le_of_ble_eq_true rfl) dX12_quarrel_17 rfl ?_
    refine az_if_ne C 29 dX12_quarrel_20 (by decide) (fun c4 => ?_) (fun c4 => ?_)
    · have h := az_f c4 h
      refine az_aload_n C 0 dX12_quarrel_29 rfl ?_
      refine az_iload_n C 1 dX12_quarrel_30 rfl ?_
      obtain ⟨q5, e6, h⟩ := az_b h
      refine az_cV (rest := []) (st2 := [.int q5]) C [.int p0] (c_X12_isPerson C.hL p0 (az_i M 40 0 0) e6) (by decide) li_X12_229 o40 (by decide) rfl rfl (Nat.le_of_ble_eq_true rfl) dX12_quarrel_31 rfl ?_
      refine az_if_eq C 53 dX12_quarrel_34 (by decide) (fun c7 => ?_) (fun c7 => ?_)
      · have h := az_t c7 h
        refine az_sub [0] rfl ?_
        exact s_X12_quarrel_53 C (az_i M 40 0 0) r h hp
      · have h := az_f c7 h
        refine az_aload_n C 0 dX12_quarrel_37 rfl ?_
        refine az_iload_n C 2 dX12_quarrel_38 rfl ?_
        obtain ⟨q8, e9, h⟩ := az_b h
        refine az_cV (rest := []) (st2 := [.int q8]) C [.int p1] (c_X12_isPerson C.hL p1 (az_i M 40 0 0) e9) (by decide) li_X12_229 o40 (by decide) rfl rfl (Nat.le_of_ble_eq_true rfl) dX12_quarrel_39 rfl ?_
        refine az_if_eq C 53 dX12_quarrel_42 (by decide) (fun c10 => ?_) (fun c10 => ?_)
        · have h := az_t c10 h
          refine az_sub [0] rfl ?_
          exact s_X12_quarrel_53 C (az_i M 40 0 0) r h hp
        · have h := az_f c10 h
          refine az_aload_n C 0 dX12_quarrel_45 rfl ?_
          refine az_iload_n C 3 dX12_quarrel_46 rfl ?_
          obtain ⟨q11, e12, h⟩ := az_b h
          refine az_cV (rest := []) (st2 := [.int q11]) C [.int p2] (c_X12_isPlace C.hL p2 (az_i M 40 0 0) e12) (by decide) li_X12_206 o40 (by decide) rfl rfl (Nat.le_of_ble_eq_true rfl) dX12_quarrel_47 rfl ?_
          refine az_if_ne C 60 dX12_quarrel_50 (by decide) (fun c13 => ?_) (fun c13 => ?_)
          · have h := az_f c13 h
            refine az_aload_n C 0 dX12_quarrel_60 rfl ?_
            refine az_getr (r := 42) C o40 fl_X12_13 rfl rfl dX12_quarrel_61 ?_
            refine az_iconst (v := 2) C dX12_quarrel_64 (by decide) ?_
            refine az_ild (k := 2) C a42 (az_vin (by decide)) (by decide) dX12_quarrel_65 ?_
            refine az_istore C dX12_quarrel_66 (by decide) rfl ?_
            refine az_iload C 0 dX12_quarrel_68 rfl ?_
            refine az_bipush (v := 7) C dX12_quarrel_70 (by decide) ?_
            refine az_icmp_ne C 82 dX12_quarrel_72 (by decide) (fun c14 => ?_) (fun c14 => ?_)
            · have h := az_f c14 h
              refine az_bipush (v := 95) C dX12_quarrel_82 (by decide) ?_
              refine az_iconst (v := 4) C dX12_quarrel_84 (by decide) ?_
              refine az_iload C 0 dX12_quarrel_85 rfl ?_
              refine az_imul C dX12_quarrel_87 ?_
              refine az_iadd C dX12_quarrel_88 ?_
              refine az_istore C dX12_quarrel_89 (by decide) rfl ?_
              refine az_aload_n C 2 dX12_quarrel_91 rfl ?_
              refine az_getr (r := 42) C o40 fl_X12_13 rfl rfl dX12_quarrel_92 ?_
              refine az_iload C 0 dX12_quarrel_95 rfl ?_
              refine az_iload_n C 3 dX12_quarrel_97 rfl ?_
              obtain ⟨g15, h⟩ := az_g h
              refine az_ist (k := (95 + (4 * ((az_i M 40 0 0).1 42 2))).toNatClampNeg) C a42 g15 rfl dX12_quarrel_98 ?_
              refine az_aload_n C 2 dX12_quarrel_99 rfl ?_
              refine az_getr (r := 42) C o40 fl_X12_13 rfl rfl dX12_quarrel_100 ?_
              refine az_iload C 0 dX12_quarrel_103 rfl ?_
              refine az_iconst (v := 1) C dX12_quarrel_105 (by decide) ?_
              refine az_iadd C dX12_quarrel_106 ?_
              refine az_iload_n C 4 dX12_quarrel_107 rfl ?_
              obtain ⟨g16, h⟩ := az_g h
              refine az_ist (k := ((95 + (4 * ((az_i M 40 0 0).1 42 2))) + 1).toNatClampNeg) C a42 g16 rfl dX12_quarrel_108 ?_
              refine az_aload_n C 2 dX12_quarrel_109 rfl ?_
              refine az_getr (r := 42) C o40 fl_X12_13 rfl rfl dX12_quarrel_110 ?_
              refine az_iload C 0 dX12_quarrel_113 rfl ?_
              refine az_iconst (v := 2) C dX12_quarrel_115 (by decide) ?_
              refine az_iadd C dX12_quarrel_116 ?_
              refine az_iload_n C 5 dX12_quarrel_117 rfl ?_
              obtain ⟨g17, h⟩ := az_g h
              refine az_ist (k := ((95 + (4 * ((az_i M 40 0 0).1 42 2))) + 2).toNatClampNeg) C a42 g17 rfl dX12_quarrel_118 ?_
              refine az_aload_n C 2 dX12_quarrel_119 rfl ?_
              refine az_getr (r := 42) C o40 fl_X12_13 rfl rfl dX12_quarrel_120 ?_
              refine az_iload C 0 dX12_quarrel_123 rfl ?_
              refine az_iconst (v := 3) C dX12_quarrel_125 (by decide) ?_
              refine az_iadd C dX12_quarrel_126 ?_
              refine az_iload C 6 dX12_quarrel_127 rfl ?_
              obtain ⟨g18, h⟩ := az_g h
              refine az_ist (k := ((95 + (4 * ((az_i M 40 0 0).1 42 2))) + 3).toNatClampNeg) C a42 g18 rfl dX12_quarrel_129 ?_
              refine az_aload_n C 2 dX12_quarrel_130 rfl ?_
              refine az_getr (r := 42) C o40 fl_X12_13 rfl rfl dX12_quarrel_131 ?_
              refine az_iconst (v := 2) C dX12_quarrel_134 (by decide) ?_
              refine az_dup2 C dX12_quarrel_135 rfl rfl ?_
              refine az_ild (k := 2) C a42 (az_vin (by decide)) (by decide) dX12_quarrel_136 ?_
              refine az_iconst (v := 1) C dX12_quarrel_137 (by decide) ?_
              refine az_iadd C dX12_quarrel_138 ?_
              refine az_ist (k := 2) C a42 (az_vin (by decide)) (by decide) dX12_quarrel_139 ?_
              refine az_aload_n C 2 dX12_quarrel_140 rfl ?_
              refine az_iload C 1 dX12_quarrel_141 rfl ?_
              obtain ⟨q19, e20, h⟩ := az_b h
              refine az_cV (rest := []) (st2 := [.int q19.1]) C [.int ((az_i M 40 0 0).1 42 2)] (c_X12_settled C.hL ((az_i M 40 0 0).1 42 2) (az_i (az_i (az_i (az_i (az_i (az_i M 40 0 0) 42 ((95 + (4 * ((az_i M 40 0 0).1 42 2))).toNatClampNeg) p0) 42 (((95 + (4 * ((az_i M 40 0 0).1 42 2))) + 1).toNatClampNeg) p1) 42 (((95 + (4 * ((az_i M 40 0 0).1 42 2))) + 2).toNatClampNeg) p2) 42 (((95 + (4 * ((az_i M 40 0 0).1 42 2))) + 3).toNatClampNeg) p3) 42 2 (((az_i (az_i (az_i (az_i (az_i M 40 0 0) 42 ((95 + (4 * ((az_i M 40 0 0).1 42 2))).toNatClampNeg) p0) 42 (((95 + (4 * ((az_i M 40 0 0).1 42 2))) + 1).toNatClampNeg) p1) 42 (((95 + (4 * ((az_i M 40 0 0).1 42 2))) + 2).toNatClampNeg) p2) 42 (((95 + (4 * ((az_i M 40 0 0).1 42 2))) + 3).toNatClampNeg) p3).1 42 2) + 1)) e20) (by decide) li_X12_173 o40 (by decide) rfl rfl (Nat.le_of_ble_eq_true rfl) dX12_quarrel_143 rfl ?_
              obtain rfl := Option.some.inj h
              exact az_iret C dX12_quarrel_146 hp
            · have h := az_t c14 h
              refine az_aload_n C 1 dX12_quarrel_75 rfl ?_
              refine az_bipush (v := (-5)) C dX12_quarrel_76 (by decide) ?_
              obtain ⟨q21, e22, h⟩ := az_b h
              refine az_cV (rest := []) (st2 := [.int q21.1]) C [.int (-5)] (c_X12_tell C.hL (-5) (az_i M 40 0 0) e22) (by decide) li_X12_158 o40 (by decide) rfl rfl (Nat.le_of_ble_eq_true rfl) dX12_quarrel_78 rfl ?_
              obtain rfl := Option.some.inj h
              exact az_iret C dX12_quarrel_81 hp
          · have h := az_t c13 h
            refine az_sub [0] rfl ?_
            exact s_X12_quarrel_53 C (az_i M 40 0 0) r h hp
    · have h := az_t c4 h
      refine az_sub [0] rfl ?_
      exact s_X12_quarrel_23 C (az_i M 40 0 0) r h hp
theorem c_X12_quarrel {l : Launch} {V : az_V} (hL : az_L V) (p0 : Int32) (p1 : Int32) (p2 : Int32) (p3 : Int32) (M : az_M) {r : (Int32 × az_M)} (h : f_X12_quarrel p0 p1 p2 p3 M = some r) : az_Ct l V yX12_quarrel cX12_quarrel 7 (some .int) 3 [.ref (az_ad V 40), .int p0, .int p1, .int p2, .int p3] M (fun v M' => v = some (.int r.1) ∧ M' = r.2) :=
  az_Ct.of (by decide) (Nat.le_of_ble_eq_true rfl) (fun Y _ _ C => s_X12_quarrel_e C p0 p1 p2 p3 M r h ⟨rfl, rfl⟩)
set_option maxHeartbeats 4000000 in
set_option maxRecDepth 100000 in
theorem s_X12_isBarred_23 {Y : az_Y} {V : az_V} {post : Option Value → az_M → Prop} (C : az_C Y V cX12_isBarred 3 RX12 (some .boolean) 6) (G : Nat) (s0 : Int32) (M : az_M) (r : (Int32 × az_M)) (h : f_X12_isBarred_23 G s0 M = some r) (hp : post (some (.int r.1)) r.2) : AW Y V (az_end Y V post) 3 M 23 [] [.int s0] := by
  unfold f_X12_isBarred_23 at h
  obtain ⟨g6, h⟩ := az_g2 h
  obtain rfl := Option.some.inj h
  exact az_zret C dX12_isBarred_23 (az_nz g6) hp
set_option maxHeartbeats 4000000 in
set_option maxRecDepth 100000 in
theorem s_X12_isBarred_e {Y : az_Y} {V : az_V} {post : Option Value → az_M → Prop} (C : az_C Y V cX12_isBarred 3 RX12 (some .boolean) 6) (G : Nat) (p0 : Int32) (p1 : Int32) (M : az_M) (r : (Int32 × az_M)) (h : f_X12_isBarred G p0 p1 M = some r) (hp : post (some (.int r.1)) r.2) : AW Y V (az_end Y V post) 3 M 0 [(0, .ref (az_ad V 40)), (1, .int p0), (2, .int p1)] [] := by
  have o40 := C.hL.at 40 (ci := 12) rfl
  unfold f_X12_isBarred at h
  refine az_aload_n C 0 dX12_isBarred_0 rfl ?_
  refine az_iconst (v := 4) C dX12_isBarred_1 (by decide) ?_
  refine az_iload_n C 1 dX12_isBarred_2 rfl ?_
  refine az_iload_n C 2 dX12_isBarred_3 rfl ?_
  refine az_aload_n C 0 dX12_isBarred_4 rfl ?_
  refine az_iconst (v := 0) C dX12_isBarred_5 (by decide) ?_
  obtain ⟨q1, e2, h⟩ := az_b h
  refine az_cV (rest := [.int p1, .int p0, .int 4, .ref (az_ad V 40)]) (st2 := [.int q1, .int p1, .int p0, .int 4, .ref (az_ad V 40)]) C [.int 0] (c_X12_bulletOf C.hL 0 M e2) (by decide) li_X12_186 o40 (by decide) rfl rfl (Nat.le_of_ble_eq_true rfl) dX12_isBarred_6 rfl ?_
  refine az_lconst (v := 0) C dX12_isBarred_9 (by decide) ?_
  obtain ⟨q3, e4, h⟩ := az_b h
  refine az_cV (rest := []) (st2 := [.long q3.1]) C [.int 4, .int p0, .int p1, .int q1, .long 0] (c_X12_tells C.hL G 4 p0 p1 q1 0 M e4) (by decide) li_X12_441 o40 (by decide) rfl rfl (Nat.le_of_ble_eq_true rfl) dX12_isBarred_10 rfl ?_
  refine az_lconst (v := 1) C dX12_isBarred_13 (by decide) ?_
  refine az_lcmp C dX12_isBarred_14 ?_
  refine az_if_ne C 22 dX12_isBarred_15 (by decide) (fun c5 => ?_) (fun c5 => ?_)
  · have h := az_f (fun z => c5 (az_c_eq.mpr z)) h
    refine az_iconst (v := 0) C dX12_isBarred_22 (by decide) ?_
    refine az_sub [] rfl ?_
    exact s_X12_isBarred_23 C G 0 q3.2 r h hp
  · have h := az_t (az_c_eq.mp c5) h
    refine az_iconst (v := 1) C dX12_isBarred_18 (by decide) ?_
    refine az_goto C 23 dX12_isBarred_19 (by decide) ?_
    refine az_sub [] rfl ?_
    exact s_X12_isBarred_23 C G 1 q3.2 r h hp
theorem c_X12_isBarred {l : Launch} {V : az_V} (hL : az_L V) (G : Nat) (p0 : Int32) (p1 : Int32) (M : az_M) {r : (Int32 × az_M)} (h : f_X12_isBarred G p0 p1 M = some r) : az_Ct l V yX12_isBarred cX12_isBarred 3 (some .boolean) 6 [.ref (az_ad V 40), .int p0, .int p1] M (fun v M' => v = some (.int r.1) ∧ M' = r.2) :=
  az_Ct.of (by decide) (Nat.le_of_ble_eq_true rfl) (fun Y _ _ C => s_X12_isBarred_e C G p0 p1 M r h ⟨rfl, rfl⟩)
set_option maxHeartbeats 4000000 in
set_option maxRecDepth 100000 in
theorem s_X12_canHave_58 {Y : az_Y} {V : az_V} {post : Option Value → az_M → Prop} (C : az_C Y V cX12_canHave 6 RX12 (some .boolean) 7) (G : Nat) (K15 : (Int32 → Int32 → Int32 → Int32 → az_M → Option (Int32 × az_M))) (hK15 : ∀ (x1 : Int32) (x2 : Int32) (x3 : Int32) (x4 : Int32) (M : az_M) (r : (Int32 × az_M)), K15 x1 x2 x3 x4 M = some r → post (some (.int r.1)) r.2 → AW Y V (az_end Y V post) 6 M 15 [(0, .ref (az_ad V 40)), (1, .int x1), (2, .int x2), (3, .int x3), (4, .int x4)] []) (x1 : Int32) (x2 : Int32) (x4 : Int32) (s0 : Int32) (M : az_M) (r : (Int32 × az_M)) (h : f_X12_canHave_58 G K15 x1 x2 x4 s0 M = some r) (hp : post (some (.int r.1)) r.2) : AW Y V (az_end Y V post) 6 M 58 [(0, .ref (az_ad V 40)), (1, .int x1), (2, .int x2), (4, .int x4)] [.int s0] := by
  unfold f_X12_canHave_58 at h
  refine az_istore_n C dX12_canHave_58 rfl (by decide) rfl ?_
  refine az_iinc (v := (x4 + 1)) C 4 dX12_canHave_59 rfl rfl (by decide) rfl ?_
  refine az_goto C 15 dX12_canHave_62 (by decide) ?_
  refine az_sub [2, 3, 4, 1, 0] rfl ?_
  exact hK15 x1 x2 s0 (x4 + 1) M r h hp
set_option maxHeartbeats 4000000 in
set_option maxRecDepth 100000 in
theorem s_X12_canHave_57 {Y : az_Y} {V : az_V} {post : Option Value → az_M → Prop} (C : az_C Y V cX12_canHave 6 RX12 (some .boolean) 7) (G : Nat) (K15 : (Int32 → Int32 → Int32 → Int32 → az_M → Option (Int32 × az_M))) (hK15 : ∀ (x1 : Int32) (x2 : Int32) (x3 : Int32) (x4 : Int32) (M : az_M) (r : (Int32 × az_M)), K15 x1 x2 x3 x4 M = some r → post (some (.int r.1)) r.2 → AW Y V (az_end Y V post) 6 M 15 [(0, .ref (az_ad V 40)), (1, .int x1), (2, .int x2), (3, .int x3), (4, .int x4)] []) (x1 : Int32) (x2 : Int32) (x4 : Int32) (M : az_M) (r : (Int32 × az_M)) (h : f_X12_canHave_57 G K15 x1 x2 x4 M = some r) (hp : post (some (.int r.1)) r.2) : AW Y V (az_end Y V post) 6 M 57 [(0, .ref (az_ad V 40)), (1, .int x1), (2, .int x2), (4, .int x4)] [] := by
  unfold f_X12_canHave_57 at h
  refine az_iconst (v := 0) C dX12_canHave_57 (by decide) ?_
  exact s_X12_canHave_58 C G K15 hK15 x1 x2 x4 0 M r h hp
set_option maxHeartbeats 4000000 in
set_option maxRecDepth 100000 in
theorem s_X12_canHave_15 {Y : az_Y} {V : az_V} {post : Option Value → az_M → Prop} (C : az_C Y V cX12_canHave 6 RX12 (some .boolean) 7) (G : Nat) : ∀ (F : Nat) (x1 : Int32) (x2 : Int32) (x3 : Int32) (x4 : Int32) (M : az_M) (r : (Int32 × az_M)), f_X12_canHave_15 G F x1 x2 x3 x4 M = some r → post (some (.int r.1)) r.2 → AW Y V (az_end Y V post) 6 M 15 [(0, .ref (az_ad V 40)), (1, .int x1), (2, .int x2), (3, .int x3), (4, .int x4)] [] := by
  have o40 := C.hL.at 40 (ci := 12) rfl
  intro F
  induction F with
  | zero =>
    intro x1 x2 x3 x4 M r h
    exact absurd (show (none : Option (Int32 × az_M)) = some r from h) (fun q => by cases q)
  | succ F ih =>
    intro x1 x2 x3 x4 M r h hp
    rw [f_X12_canHave_15] at h
    refine az_iload C 4 dX12_canHave_15 rfl ?_
    refine az_iconst (v := 2) C dX12_canHave_17 (by decide) ?_
    refine az_icmp_ge C 65 dX12_canHave_18 (by decide) (fun c5 => ?_) (fun c5 => ?_)
    · have h := az_t c5 h
      refine az_iload_n C 3 dX12_canHave_65 rfl ?_
      obtain ⟨g6, h⟩ := az_g2 h
      obtain rfl := Option.some.inj h
      exact az_zret C dX12_canHave_66 (az_nz g6) hp
    · have h := az_f c5 h
      refine az_aload_n C 0 dX12_canHave_21 rfl ?_
      refine az_iload_n C 1 dX12_canHave_22 rfl ?_
      refine az_iload C 4 dX12_canHave_23 rfl ?_
      obtain ⟨q7, e8, h⟩ := az_b h
      refine az_cV (rest := []) (st2 := [.int q7]) C [.int x1, .int x4] (c_X12_ofQuarrel C.hL x1 x4 M e8) (by decide) li_X12_238 o40 (by decide) rfl rfl (Nat.le_of_ble_eq_true rfl) dX12_canHave_25 rfl ?_
      refine az_istore C dX12_canHave_28 (by decide) rfl ?_
      refine az_iload_n C 4 dX12_canHave_30 rfl ?_
      refine az_if_eq C 57 dX12_canHave_31 (by decide) (fun c9 => ?_) (fun c9 => ?_)
      · have h := az_t c9 h
        refine az_sub [1, 2, 3, 5] rfl ?_
        exact s_X12_canHave_57 C G (f_X12_canHave_15 G F) ih x1 x2 x4 M r h hp
      · have h := az_f c9 h
        refine az_aload_n C 1 dX12_canHave_34 rfl ?_
        refine az_iload C 0 dX12_canHave_35 rfl ?_
        obtain ⟨q10, e11, h⟩ := az_b h
        refine az_cV (rest := []) (st2 := [.int q10]) C [.int q7] (c_X12_isHurt C.hL q7 M e11) (by decide) li_X12_232 o40 (by decide) rfl rfl (Nat.le_of_ble_eq_true rfl) dX12_canHave_37 rfl ?_
        refine az_if_ne C 57 dX12_canHave_40 (by decide) (fun c12 => ?_) (fun c12 => ?_)
        · have h := az_f c12 h
          refine az_sub [1, 2, 3, 5] rfl ?_
          exact s_X12_canHave_57 C G (f_X12_canHave_15 G F) ih x1 x2 x4 M r h hp
        · have h := az_t c12 h
          refine az_aload_n C 1 dX12_canHave_43 rfl ?_
          refine az_iload C 0 dX12_canHave_44 rfl ?_
          refine az_iload_n C 3 dX12_canHave_46 rfl ?_
          obtain ⟨q13, e14, h⟩ := az_b h
          refine az_cV (rest := []) (st2 := [.int q13.1]) C [.int q7, .int x2] (c_X12_isBarred C.hL G q7 x2 M e14) (by decide) li_X12_241 o40 (by decide) rfl rfl (Nat.le_of_ble_eq_true rfl) dX12_canHave_47 rfl ?_
          refine az_if_ne C 57 dX12_canHave_50 (by decide) (fun c15 => ?_) (fun c15 => ?_)
          · have h := az_f c15 h
            refine az_sub [1, 2, 3, 5] rfl ?_
            exact s_X12_canHave_57 C G (f_X12_canHave_15 G F) ih x1 x2 x4 q13.2 r h hp
          · have h := az_t c15 h
            refine az_iconst (v := 1) C dX12_canHave_53 (by decide) ?_
            refine az_goto C 58 dX12_canHave_54 (by decide) ?_
            refine az_sub [1, 2, 3, 5] rfl ?_
            exact s_X12_canHave_58 C G (f_X12_canHave_15 G F) ih x1 x2 x4 1 q13.2 r h hp
set_option maxHeartbeats 4000000 in
set_option maxRecDepth 100000 in
theorem s_X12_canHave_e {Y : az_Y} {V : az_V} {post : Option Value → az_M → Prop} (C : az_C Y V cX12_canHave 6 RX12 (some .boolean) 7) (G : Nat) (p0 : Int32) (M : az_M) (r : (Int32 × az_M)) (h : f_X12_canHave G p0 M = some r) (hp : post (some (.int r.1)) r.2) : AW Y V (az_end Y V post) 6 M 0 [(0, .ref (az_ad V 40)), (1, .int p0)] [] := by
  have o40 := C.hL.at 40 (ci := 12) rfl
  unfold f_X12_canHave at h
  refine az_aload_n C 0 dX12_canHave_0 rfl ?_
  refine az_iload_n C 1 dX12_canHave_1 rfl ?_
  refine az_iconst (v := 2) C dX12_canHave_2 (by decide) ?_
  obtain ⟨q1, e2, h⟩ := az_b h
  refine az_cV (rest := []) (st2 := [.int q1]) C [.int p0, .int 2] (c_X12_ofQuarrel C.hL p0 2 M e2) (by decide) li_X12_238 o40 (by decide) rfl rfl (Nat.le_of_ble_eq_true rfl) dX12_canHave_3 rfl ?_
  refine az_istore_n C dX12_canHave_6 rfl (by decide) rfl ?_
  refine az_aload_n C 1 dX12_canHave_7 rfl ?_
  obtain ⟨q3, e4, h⟩ := az_b h
  refine az_cV (rest := []) (st2 := [.int q3]) C [] (c_X12_canFire C.hL M e4) (by decide) li_X12_194 o40 (by decide) rfl rfl (Nat.le_of_ble_eq_true rfl) dX12_canHave_8 rfl ?_
  refine az_istore_n C dX12_canHave_11 rfl (by decide) rfl ?_
  refine az_iconst (v := 0) C dX12_canHave_12 (by decide) ?_
  refine az_istore C dX12_canHave_13 (by decide) rfl ?_
  refine az_sub [3, 4, 2, 1, 0] rfl ?_
  exact s_X12_canHave_15 C G G p0 q1 q3 0 M r h hp
theorem c_X12_canHave {l : Launch} {V : az_V} (hL : az_L V) (G : Nat) (p0 : Int32) (M : az_M) {r : (Int32 × az_M)} (h : f_X12_canHave G p0 M = some r) : az_Ct l V yX12_canHave cX12_canHave 6 (some .boolean) 7 [.ref (az_ad V 40), .int p0] M (fun v M' => v = some (.int r.1) ∧ M' = r.2) :=
  az_Ct.of (by decide) (Nat.le_of_ble_eq_true rfl) (fun Y _ _ C => s_X12_canHave_e C G p0 M r h ⟨rfl, rfl⟩)
set_option maxHeartbeats 4000000 in
set_option maxRecDepth 100000 in
theorem s_X12_about_25 {Y : az_Y} {V : az_V} {post : Option Value → az_M → Prop} (C : az_C Y V cX12_about 3 RX12 (some .int) 8) (G : Nat)  (M : az_M) (r : (Int32 × az_M)) (h : f_X12_about_25 G M = some r) (hp : post (some (.int r.1)) r.2) : AW Y V (az_end Y V post) 3 M 25 [] [] := by
  unfold f_X12_about_25 at h
  refine az_iconst (v := (-1)) C dX12_about_25 (by decide) ?_
  obtain rfl := Option.some.inj h
  exact az_iret C dX12_about_26 hp
set_option maxHeartbeats 4000000 in
set_option maxRecDepth 100000 in
theorem s_X12_about_54 {Y : az_Y} {V : az_V} {post : Option Value → az_M → Prop} (C : az_C Y V cX12_about 3 RX12 (some .int) 8) (G : Nat) (s0 : Int32) (M : az_M) (r : (Int32 × az_M)) (h : f_X12_about_54 G s0 M = some r) (hp : post (some (.int r.1)) r.2) : AW Y V (az_end Y V post) 3 M 54 [] [.int s0] := by
  unfold f_X12_about_54 at h
  obtain rfl := Option.some.inj h
  exact az_iret C dX12_about_54 hp
set_option maxHeartbeats 4000000 in
set_option maxRecDepth 100000 in
theorem s_X12_about_e {Y : az_Y} {V : az_V} {post : Option Value → az_M → Prop} (C : az_C Y V cX12_about 3 RX12 (some .int) 8) (G : Nat) (p0 : Int32) (p1 : Int32) (M : az_M) (r : (Int32 × az_M)) (h : f_X12_about G p0 p1 M = some r) (hp : post (some (.int r.1)) r.2) : AW Y V (az_end Y V post) 3 M 0 [(0, .ref (az_ad V 40)), (1, .int p0), (2, .int p1)] [] := by
  have o40 := C.hL.at 40 (ci := 12) rfl
  unfold f_X12_about at h
  refine az_aload_n C 0 dX12_about_0 rfl ?_
  refine az_iconst (v := 0) C dX12_about_1 (by decide) ?_
  refine az_puti C o40 fl_X12_149 rfl rfl rfl rfl dX12_about_2 ?_
  refine az_aload_n C 0 dX12_about_5 rfl ?_
  refine az_iload_n C 1 dX12_about_6 rfl ?_
  obtain ⟨q1, e2, h⟩ := az_b h
  refine az_cV (rest := []) (st2 := [.int q1]) C [.int p0] (c_X12_isQuarrel C.hL p0 (az_i M 40 0 0) e2) (by decide) li_X12_245 o40 (by decide) rfl rfl (Nat.le_of_ble_eq_true rfl) dX12_about_7 rfl ?_
  refine az_if_eq C 25 dX12_about_10 (by decide) (fun c3 => ?_) (fun c3 => ?_)
  · have h := az_t c3 h
    refine az_sub [] rfl ?_
    exact s_X12_about_25 C G (az_i M 40 0 0) r h hp
  · have h := az_f c3 h
    refine az_iload_n C 2 dX12_about_13 rfl ?_
    refine az_i2l C dX12_about_14 ?_
    refine az_lconst (v := 0) C dX12_about_15 (by decide) ?_
    refine az_ldc2 C ck_X12_248 dX12_about_16 ?_
    obtain ⟨q4, e5, h⟩ := az_b h
    refine az_cS (rest := []) (st2 := [.int q4]) C [.long p1.toInt64, .long 0, .long 4] (c_X12_in C.hL p1.toInt64 0 4 (az_i M 40 0 0) e5) (by decide) li_X12_169 rfl rfl (Nat.le_of_ble_eq_true rfl) dX12_about_19 rfl ?_
    refine az_if_ne C 27 dX12_about_22 (by decide) (fun c6 => ?_) (fun c6 => ?_)
    · have h := az_f c6 h
      refine az_iload_n C 2 dX12_about_27 rfl ?_
      refine az_iconst (v := 4) C dX12_about_28 (by decide) ?_
      refine az_icmp_ge C 41 dX12_about_29 (by decide) (fun c7 => ?_) (fun c7 => ?_)
      · have h := az_t c7 h
        refine az_aload_n C 0 dX12_about_41 rfl ?_
        refine az_iload_n C 1 dX12_about_42 rfl ?_
        obtain ⟨q8, e9, h⟩ := az_b h
        refine az_cV (rest := []) (st2 := [.int q8.1]) C [.int p0] (c_X12_canHave C.hL G p0 (az_i M 40 0 0) e9) (by decide) li_X12_250 o40 (by decide) rfl rfl (Nat.le_of_ble_eq_true rfl) dX12_about_43 rfl ?_
        refine az_if_eq C 53 dX12_about_46 (by decide) (fun c10 => ?_) (fun c10 => ?_)
        · have h := az_t c10 h
          refine az_iconst (v := 0) C dX12_about_53 (by decide) ?_
          refine az_sub [] rfl ?_
          exact s_X12_about_54 C G 0 q8.2 r h hp
        · have h := az_f c10 h
          refine az_iconst (v := 1) C dX12_about_49 (by decide) ?_
          refine az_goto C 54 dX12_about_50 (by decide) ?_
          refine az_sub [] rfl ?_
          exact s_X12_about_54 C G 1 q8.2 r h hp
      · have h := az_f c7 h
        refine az_aload_n C 0 dX12_about_32 rfl ?_
        refine az_iload_n C 1 dX12_about_33 rfl ?_
        refine az_iload_n C 2 dX12_about_34 rfl ?_
        obtain ⟨q11, e12, h⟩ := az_b h
        refine az_cV (rest := []) (st2 := [.int q11]) C [.int p0, .int p1] (c_X12_ofQuarrel C.hL p0 p1 (az_i M 40 0 0) e12) (by decide) li_X12_238 o40 (by decide) rfl rfl (Nat.le_of_ble_eq_true rfl) dX12_about_35 rfl ?_
        refine az_goto C 54 dX12_about_38 (by decide) ?_
        refine az_sub [] rfl ?_
        exact s_X12_about_54 C G q11 (az_i M 40 0 0) r h hp
    · have h := az_t c6 h
      refine az_sub [] rfl ?_
      exact s_X12_about_25 C G (az_i M 40 0 0) r h hp
theorem c_X12_about {l : Launch} {V : az_V} (hL : az_L V) (G : Nat) (p0 : Int32) (p1 : Int32) (M : az_M) {r : (Int32 × az_M)} (h : f_X12_about G p0 p1 M = some r) : az_Ct l V yX12_about cX12_about 3 (some .int) 8 [.ref (az_ad V 40), .int p0, .int p1] M (fun v M' => v = some (.int r.1) ∧ M' = r.2) :=
  az_Ct.of (by decide) (Nat.le_of_ble_eq_true rfl) (fun Y _ _ C => s_X12_about_e C G p0 p1 M r h ⟨rfl, rfl⟩)
set_option maxHeartbeats 4000000 in
set_option maxRecDepth 100000 in
theorem s_X12_isTerm_e {Y : az_Y} {V : az_V} {post : Option Value → az_M → Prop} (C : az_C Y V cX12_isTerm 2 RX12 (some .boolean) 2) (p0 : Int32) (p1 : Int32) (M : az_M) (r : Int32) (h : f_X12_isTerm p0 p1 M = some r) (hp : post (some (.int r)) M) : AW Y V (az_end Y V post) 2 M 0 [(0, .int p0), (1, .int p1)] [] := by
  unfold f_X12_isTerm at h
  refine az_iload_n C 0 dX12_isTerm_0 rfl ?_
  by_cases c1 : p0 = 0
  · have h := az_t c1 h
    refine az_tabIn (off := 35) C 36 dX12_isTerm_1 (by rw [c1]; decide) (by rw [c1]; decide) (by rw [c1]; decide) (by decide) ?_
    refine az_iload_n C 1 dX12_isTerm_36 rfl ?_
    refine az_i2l C dX12_isTerm_37 ?_
    refine az_lconst (v := 0) C dX12_isTerm_38 (by decide) ?_
    refine az_ldc2 C ck_X12_178 dX12_isTerm_39 ?_
    obtain ⟨q2, e3, h⟩ := az_b h
    refine az_cS (rest := []) (st2 := [.int q2]) C [.long p1.toInt64, .long 0, .long 999] (c_X12_in C.hL p1.toInt64 0 999 M e3) (by decide) li_X12_169 rfl rfl (Nat.le_of_ble_eq_true rfl) dX12_isTerm_42 rfl ?_
    obtain ⟨g4, h⟩ := az_g2 h
    obtain rfl := Option.some.inj h
    exact az_zret C dX12_isTerm_45 (az_nz g4) hp
  have h := az_f c1 h
  have nc1 := lv_neT c1 (a := 0) (by decide)
  by_cases c5 : p0 = 1
  · have h := az_t c5 h
    refine az_tabIn (off := 45) C 46 dX12_isTerm_1 (by rw [c5]; decide) (by rw [c5]; decide) (by rw [c5]; decide) (by decide) ?_
    refine az_iload_n C 1 dX12_isTerm_46 rfl ?_
    refine az_i2l C dX12_isTerm_47 ?_
    refine az_lconst (v := 1) C dX12_isTerm_48 (by decide) ?_
    refine az_ldc2 C ck_X12_248 dX12_isTerm_49 ?_
    obtain ⟨q6, e7, h⟩ := az_b h
    refine az_cS (rest := []) (st2 := [.int q6]) C [.long p1.toInt64, .long 1, .long 4] (c_X12_in C.hL p1.toInt64 1 4 M e7) (by decide) li_X12_169 rfl rfl (Nat.le_of_ble_eq_true rfl) dX12_isTerm_52 rfl ?_
    obtain ⟨g8, h⟩ := az_g2 h
    obtain rfl := Option.some.inj h
    exact az_zret C dX12_isTerm_55 (az_nz g8) hp
  have h := az_f c5 h
  have nc5 := lv_neT c5 (a := 1) (by decide)
  by_cases c9 : p0 = 2
  · have h := az_t c9 h
    refine az_tabIn (off := 55) C 56 dX12_isTerm_1 (by rw [c9]; decide) (by rw [c9]; decide) (by rw [c9]; decide) (by decide) ?_
    refine az_iload_n C 1 dX12_isTerm_56 rfl ?_
    refine az_i2l C dX12_isTerm_57 ?_
    refine az_lconst (v := 1) C dX12_isTerm_58 (by decide) ?_
    refine az_ldc2 C ck_X12_180 dX12_isTerm_59 ?_
    obtain ⟨q10, e11, h⟩ := az_b h
    refine az_cS (rest := []) (st2 := [.int q10]) C [.long p1.toInt64, .long 1, .long 99] (c_X12_in C.hL p1.toInt64 1 99 M e11) (by decide) li_X12_169 rfl rfl (Nat.le_of_ble_eq_true rfl) dX12_isTerm_62 rfl ?_
    obtain ⟨g12, h⟩ := az_g2 h
    obtain rfl := Option.some.inj h
    exact az_zret C dX12_isTerm_65 (az_nz g12) hp
  have h := az_f c9 h
  have nc9 := lv_neT c9 (a := 2) (by decide)
  by_cases c13 : p0 = 3
  · have h := az_t c13 h
    refine az_tabIn (off := 65) C 66 dX12_isTerm_1 (by rw [c13]; decide) (by rw [c13]; decide) (by rw [c13]; decide) (by decide) ?_
    refine az_iload_n C 1 dX12_isTerm_66 rfl ?_
    refine az_i2l C dX12_isTerm_67 ?_
    refine az_lconst (v := 1) C dX12_isTerm_68 (by decide) ?_
    refine az_ldc2 C ck_X12_253 dX12_isTerm_69 ?_
    obtain ⟨q14, e15, h⟩ := az_b h
    refine az_cS (rest := []) (st2 := [.int q14]) C [.long p1.toInt64, .long 1, .long 9] (c_X12_in C.hL p1.toInt64 1 9 M e15) (by decide) li_X12_169 rfl rfl (Nat.le_of_ble_eq_true rfl) dX12_isTerm_72 rfl ?_
    obtain ⟨g16, h⟩ := az_g2 h
    obtain rfl := Option.some.inj h
    exact az_zret C dX12_isTerm_75 (az_nz g16) hp
  have h := az_f c13 h
  have nc13 := lv_neT c13 (a := 3) (by decide)
  by_cases c17 : p0 = 4
  · have h := az_t c17 h
    refine az_tabIn (off := 75) C 76 dX12_isTerm_1 (by rw [c17]; decide) (by rw [c17]; decide) (by rw [c17]; decide) (by decide) ?_
    refine az_iload_n C 1 dX12_isTerm_76 rfl ?_
    refine az_i2l C dX12_isTerm_77 ?_
    refine az_lconst (v := 0) C dX12_isTerm_78 (by decide) ?_
    refine az_ldc2 C ck_X12_253 dX12_isTerm_79 ?_
    obtain ⟨q18, e19, h⟩ := az_b h
    refine az_cS (rest := []) (st2 := [.int q18]) C [.long p1.toInt64, .long 0, .long 9] (c_X12_in C.hL p1.toInt64 0 9 M e19) (by decide) li_X12_169 rfl rfl (Nat.le_of_ble_eq_true rfl) dX12_isTerm_82 rfl ?_
    obtain ⟨g20, h⟩ := az_g2 h
    obtain rfl := Option.some.inj h
    exact az_zret C dX12_isTerm_85 (az_nz g20) hp
  have h := az_f c17 h
  have nc17 := lv_neT c17 (a := 4) (by decide)
  refine az_tabOut C 86 dX12_isTerm_1 (by omega) (by decide) ?_
  refine az_iconst (v := 0) C dX12_isTerm_86 (by decide) ?_
  obtain rfl := Option.some.inj h
  exact az_zret C dX12_isTerm_87 rfl hp
theorem c_X12_isTerm {l : Launch} {V : az_V} (hL : az_L V) (p0 : Int32) (p1 : Int32) (M : az_M) {r : Int32} (h : f_X12_isTerm p0 p1 M = some r) : az_Ct l V yX12_isTerm cX12_isTerm 2 (some .boolean) 2 [.int p0, .int p1] M (fun v M' => v = some (.int r) ∧ M' = M) :=
  az_Ct.of (by decide) (Nat.le_of_ble_eq_true rfl) (fun Y _ _ C => s_X12_isTerm_e C p0 p1 M r h ⟨rfl, rfl⟩)
set_option maxHeartbeats 4000000 in
set_option maxRecDepth 100000 in
theorem s_X12_terms_e {Y : az_Y} {V : az_V} {post : Option Value → az_M → Prop} (C : az_C Y V cX12_terms 3 RX12 (some .int) 3) (p0 : Int32) (p1 : Int32) (M : az_M) (r : (Int32 × az_M)) (h : f_X12_terms p0 p1 M = some r) (hp : post (some (.int r.1)) r.2) : AW Y V (az_end Y V post) 3 M 0 [(0, .ref (az_ad V 40)), (1, .int p0), (2, .int p1)] [] := by
  have o40 := C.hL.at 40 (ci := 12) rfl
  unfold f_X12_terms at h
  refine az_aload_n C 0 dX12_terms_0 rfl ?_
  refine az_iconst (v := 0) C dX12_terms_1 (by decide) ?_
  refine az_puti C o40 fl_X12_149 rfl rfl rfl rfl dX12_terms_2 ?_
  refine az_iload_n C 1 dX12_terms_5 rfl ?_
  refine az_iload_n C 2 dX12_terms_6 rfl ?_
  obtain ⟨q1, e2, h⟩ := az_b h
  refine az_cS (rest := []) (st2 := [.int q1]) C [.int p0, .int p1] (c_X12_isTerm C.hL p0 p1 (az_i M 40 0 0) e2) (by decide) li_X12_255 rfl rfl (Nat.le_of_ble_eq_true rfl) dX12_terms_7 rfl ?_
  refine az_if_ne C 19 dX12_terms_10 (by decide) (fun c3 => ?_) (fun c3 => ?_)
  · have h := az_f c3 h
    refine az_aload_n C 0 dX12_terms_19 rfl ?_
    refine az_iconst (v := 0) C dX12_terms_20 (by decide) ?_
    refine az_puti C o40 fl_X12_155 rfl rfl rfl rfl dX12_terms_21 ?_
    refine az_aload_n C 0 dX12_terms_24 rfl ?_
    refine az_bipush (v := 6) C dX12_terms_25 (by decide) ?_
    refine az_iload_n C 1 dX12_terms_27 rfl ?_
    refine az_iadd C dX12_terms_28 ?_
    refine az_iload_n C 2 dX12_terms_29 rfl ?_
    obtain ⟨q4, e5, h⟩ := az_b h
    refine az_cV (rest := []) (st2 := [.int q4.1]) C [.int (6 + p0), .int p1] (c_X12_change C.hL (6 + p0) p1 (az_i (az_i M 40 0 0) 40 8 0) e5) (by decide) li_X12_182 o40 (by decide) rfl rfl (Nat.le_of_ble_eq_true rfl) dX12_terms_30 rfl ?_
    obtain rfl := Option.some.inj h
    exact az_iret C dX12_terms_33 hp
  · have h := az_t c3 h
    refine az_aload_n C 0 dX12_terms_13 rfl ?_
    refine az_iconst (v := (-1)) C dX12_terms_14 (by decide) ?_
    obtain ⟨q6, e7, h⟩ := az_b h
    refine az_cV (rest := []) (st2 := [.int q6.1]) C [.int (-1)] (c_X12_tell C.hL (-1) (az_i M 40 0 0) e7) (by decide) li_X12_158 o40 (by decide) rfl rfl (Nat.le_of_ble_eq_true rfl) dX12_terms_15 rfl ?_
    obtain rfl := Option.some.inj h
    exact az_iret C dX12_terms_18 hp
theorem c_X12_terms {l : Launch} {V : az_V} (hL : az_L V) (p0 : Int32) (p1 : Int32) (M : az_M) {r : (Int32 × az_M)} (h : f_X12_terms p0 p1 M = some r) : az_Ct l V yX12_terms cX12_terms 3 (some .int) 3 [.ref (az_ad V 40), .int p0, .int p1] M (fun v M' => v = some (.int r.1) ∧ M' = r.2) :=
  az_Ct.of (by decide) (Nat.le_of_ble_eq_true rfl) (fun Y _ _ C => s_X12_terms_e C p0 p1 M r h ⟨rfl, rfl⟩)
set_option maxHeartbeats 4000000 in
set_option maxRecDepth 100000 in
theorem s_X12_row_92 {Y : az_Y} {V : az_V} {post : Option Value → az_M → Prop} (C : az_C Y V cX12_row 4 RX12 (some .int) 3) (G : Nat) (K35 : (Int32 → Int32 → Int32 → az_M → Option (Int32 × az_M))) (hK35 : ∀ (x1 : Int32) (x2 : Int32) (x3 : Int32) (M : az_M) (r : (Int32 × az_M)), K35 x1 x2 x3 M = some r → post (some (.int r.1)) r.2 → AW Y V (az_end Y V post) 4 M 35 [(0, .ref (az_ad V 40)), (1, .int x1), (2, .int x2), (3, .int x3)] []) (x1 : Int32) (x2 : Int32) (x3 : Int32) (M : az_M) (r : (Int32 × az_M)) (h : f_X12_row_92 G K35 x1 x2 x3 M = some r) (hp : post (some (.int r.1)) r.2) : AW Y V (az_end Y V post) 4 M 92 [(0, .ref (az_ad V 40)), (1, .int x1), (2, .int x2), (3, .int x3)] [] := by
  unfold f_X12_row_92 at h
  refine az_iinc (v := (x3 + 3)) C 3 dX12_row_92 rfl rfl (by decide) rfl ?_
  refine az_goto C 35 dX12_row_95 (by decide) ?_
  refine az_sub [1, 2, 3, 0] rfl ?_
  exact hK35 x1 x2 (x3 + 3) M r h hp
set_option maxHeartbeats 4000000 in
set_option maxRecDepth 100000 in
theorem s_X12_row_82 {Y : az_Y} {V : az_V} {post : Option Value → az_M → Prop} (C : az_C Y V cX12_row 4 RX12 (some .int) 3) (G : Nat) (K35 : (Int32 → Int32 → Int32 → az_M → Option (Int32 × az_M))) (hK35 : ∀ (x1 : Int32) (x2 : Int32) (x3 : Int32) (M : az_M) (r : (Int32 × az_M)), K35 x1 x2 x3 M = some r → post (some (.int r.1)) r.2 → AW Y V (az_end Y V post) 4 M 35 [(0, .ref (az_ad V 40)), (1, .int x1), (2, .int x2), (3, .int x3)] []) (x1 : Int32) (x2 : Int32) (x3 : Int32) (M : az_M) (r : (Int32 × az_M)) (h : f_X12_row_82 G K35 x1 x2 x3 M = some r) (hp : post (some (.int r.1)) r.2) : AW Y V (az_end Y V post) 4 M 82 [(0, .ref (az_ad V 40)), (1, .int x1), (2, .int x2), (3, .int x3)] [] := by
  have o40 := C.hL.at 40 (ci := 12) rfl
  unfold f_X12_row_82 at h
  refine az_aload_n C 0 dX12_row_82 rfl ?_
  refine az_dup C dX12_row_83 rfl ?_
  refine az_geti C o40 fl_X12_261 rfl dX12_row_84 ?_
  refine az_iconst (v := 1) C dX12_row_87 (by decide) ?_
  refine az_iadd C dX12_row_88 ?_
  refine az_puti C o40 fl_X12_261 rfl rfl rfl rfl dX12_row_89 ?_
  exact s_X12_row_92 C G K35 hK35 x1 x2 x3 (az_i M 40 11 ((M.1 40 11) + 1)) r h hp
set_option maxHeartbeats 4000000 in
set_option maxRecDepth 100000 in
theorem s_X12_row_35 {Y : az_Y} {V : az_V} {post : Option Value → az_M → Prop} (C : az_C Y V cX12_row 4 RX12 (some .int) 3) (G : Nat) : ∀ (F : Nat) (x1 : Int32) (x2 : Int32) (x3 : Int32) (M : az_M) (r : (Int32 × az_M)), f_X12_row_35 G F x1 x2 x3 M = some r → post (some (.int r.1)) r.2 → AW Y V (az_end Y V post) 4 M 35 [(0, .ref (az_ad V 40)), (1, .int x1), (2, .int x2), (3, .int x3)] [] := by
  have o40 := C.hL.at 40 (ci := 12) rfl
  have a49 := C.hL.ar 49 (t := 0) (len := 400) rfl
  intro F
  induction F with
  | zero =>
    intro x1 x2 x3 M r h
    exact absurd (show (none : Option (Int32 × az_M)) = some r from h) (fun q => by cases q)
  | succ F ih =>
    intro x1 x2 x3 M r h hp
    rw [f_X12_row_35] at h
    refine az_iload_n C 3 dX12_row_35 rfl ?_
    refine az_iload_n C 1 dX12_row_36 rfl ?_
    refine az_icmp_ge C 98 dX12_row_37 (by decide) (fun c4 => ?_) (fun c4 => ?_)
    · have h := az_t c4 h
      refine az_aload_n C 0 dX12_row_98 rfl ?_
      refine az_iload_n C 2 dX12_row_99 rfl ?_
      obtain ⟨q5, e6, h⟩ := az_b h
      refine az_cV (rest := []) (st2 := [.int q5.1]) C [.int x2] (c_X12_settled C.hL x2 M e6) (by decide) li_X12_173 o40 (by decide) rfl rfl (Nat.le_of_ble_eq_true rfl) dX12_row_100 rfl ?_
      obtain rfl := Option.some.inj h
      exact az_iret C dX12_row_103 hp
    · have h := az_f c4 h
      refine az_iload_n C 3 dX12_row_40 rfl ?_
      refine az_iconst (v := 2) C dX12_row_41 (by decide) ?_
      refine az_iadd C dX12_row_42 ?_
      refine az_iload_n C 1 dX12_row_43 rfl ?_
      refine az_icmp_ge C 82 dX12_row_44 (by decide) (fun c7 => ?_) (fun c7 => ?_)
      · have h := az_t c7 h
        exact s_X12_row_82 C G (f_X12_row_35 G F) ih x1 x2 x3 M r h hp
      · have h := az_f c7 h
        refine az_aload_n C 0 dX12_row_47 rfl ?_
        refine az_aload_n C 0 dX12_row_48 rfl ?_
        refine az_getr (r := 49) C o40 fl_X12_35 rfl rfl dX12_row_49 ?_
        refine az_iload_n C 3 dX12_row_52 rfl ?_
        obtain ⟨g8, h⟩ := az_g h
        refine az_ild (k := x3.toNatClampNeg) C a49 g8 rfl dX12_row_53 ?_
        refine az_aload_n C 0 dX12_row_54 rfl ?_
        refine az_getr (r := 49) C o40 fl_X12_35 rfl rfl dX12_row_55 ?_
        refine az_iload_n C 3 dX12_row_58 rfl ?_
        refine az_iconst (v := 1) C dX12_row_59 (by decide) ?_
        refine az_iadd C dX12_row_60 ?_
        obtain ⟨g9, h⟩ := az_g h
        refine az_ild (k := (x3 + 1).toNatClampNeg) C a49 g9 rfl dX12_row_61 ?_
        refine az_aload_n C 0 dX12_row_62 rfl ?_
        refine az_getr (r := 49) C o40 fl_X12_35 rfl rfl dX12_row_63 ?_
        refine az_iload_n C 3 dX12_row_66 rfl ?_
        refine az_iconst (v := 2) C dX12_row_67 (by decide) ?_
        refine az_iadd C dX12_row_68 ?_
        obtain ⟨g10, h⟩ := az_g h
        refine az_ild (k := (x3 + 2).toNatClampNeg) C a49 g10 rfl dX12_row_69 ?_
        obtain ⟨q11, e12, h⟩ := az_b h
        refine az_cV (rest := []) (st2 := [.int q11.1]) C [.int (M.1 49 x3.toNatClampNeg), .int (M.1 49 ((x3 + 1).toNatClampNeg)), .int (M.1 49 ((x3 + 2).toNatClampNeg))] (c_X12_place1 C.hL (M.1 49 x3.toNatClampNeg) (M.1 49 ((x3 + 1).toNatClampNeg)) (M.1 49 ((x3 + 2).toNatClampNeg)) M e12) (by decide) li_X12_202 o40 (by decide) rfl rfl (Nat.le_of_ble_eq_true rfl) dX12_row_70 rfl ?_
        refine az_if_lt C 82 dX12_row_73 (by decide) (fun c13 => ?_) (fun c13 => ?_)
        · have h := az_t c13 h
          exact s_X12_row_82 C G (f_X12_row_35 G F) ih x1 x2 x3 q11.2 r h hp
        · have h := az_f c13 h
          refine az_iinc (v := (x2 + 1)) C 2 dX12_row_76 rfl rfl (by decide) rfl ?_
          refine az_goto C 92 dX12_row_79 (by decide) ?_
          refine az_sub [1, 2, 0, 3] rfl ?_
          exact s_X12_row_92 C G (f_X12_row_35 G F) ih x1 (x2 + 1) x3 q11.2 r h hp
set_option maxHeartbeats 4000000 in
set_option maxRecDepth 100000 in
theorem s_X12_row_e {Y : az_Y} {V : az_V} {post : Option Value → az_M → Prop} (C : az_C Y V cX12_row 4 RX12 (some .int) 3) (G : Nat)  (M : az_M) (r : (Int32 × az_M)) (h : f_X12_row G M = some r) (hp : post (some (.int r.1)) r.2) : AW Y V (az_end Y V post) 4 M 0 [(0, .ref (az_ad V 40))] [] := by
  have o40 := C.hL.at 40 (ci := 12) rfl
  unfold f_X12_row at h
  refine az_aload_n C 0 dX12_row_0 rfl ?_
  refine az_iconst (v := 0) C dX12_row_1 (by decide) ?_
  refine az_puti C o40 fl_X12_149 rfl rfl rfl rfl dX12_row_2 ?_
  refine az_aload_n C 0 dX12_row_5 rfl ?_
  refine az_geti C o40 fl_X12_258 rfl dX12_row_6 ?_
  refine az_istore_n C dX12_row_9 rfl (by decide) rfl ?_
  refine az_aload_n C 1 dX12_row_10 rfl ?_
  refine az_iconst (v := 0) C dX12_row_11 (by decide) ?_
  refine az_puti C o40 fl_X12_258 rfl rfl rfl rfl dX12_row_12 ?_
  refine az_iload_n C 0 dX12_row_15 rfl ?_
  refine az_if_ne C 26 dX12_row_16 (by decide) (fun c1 => ?_) (fun c1 => ?_)
  · have h := az_f c1 h
    refine az_aload_n C 1 dX12_row_26 rfl ?_
    refine az_iconst (v := 0) C dX12_row_27 (by decide) ?_
    refine az_puti C o40 fl_X12_261 rfl rfl rfl rfl dX12_row_28 ?_
    refine az_iconst (v := 0) C dX12_row_31 (by decide) ?_
    refine az_istore_n C dX12_row_32 rfl (by decide) rfl ?_
    refine az_iconst (v := 0) C dX12_row_33 (by decide) ?_
    refine az_istore_n C dX12_row_34 rfl (by decide) rfl ?_
    refine az_sub [3, 2, 1, 0] rfl ?_
    exact s_X12_row_35 C G G ((az_i M 40 0 0).1 40 13) 0 0 (az_i (az_i (az_i M 40 0 0) 40 13 0) 40 11 0) r h hp
  · have h := az_t c1 h
    refine az_aload_n C 1 dX12_row_19 rfl ?_
    refine az_bipush (v := (-6)) C dX12_row_20 (by decide) ?_
    obtain ⟨q2, e3, h⟩ := az_b h
    refine az_cV (rest := []) (st2 := [.int q2.1]) C [.int (-6)] (c_X12_tell C.hL (-6) (az_i (az_i M 40 0 0) 40 13 0) e3) (by decide) li_X12_158 o40 (by decide) rfl rfl (Nat.le_of_ble_eq_true rfl) dX12_row_22 rfl ?_
    obtain rfl := Option.some.inj h
    exact az_iret C dX12_row_25 hp
theorem c_X12_row {l : Launch} {V : az_V} (hL : az_L V) (G : Nat)  (M : az_M) {r : (Int32 × az_M)} (h : f_X12_row G M = some r) : az_Ct l V yX12_row cX12_row 4 (some .int) 3 [.ref (az_ad V 40)] M (fun v M' => v = some (.int r.1) ∧ M' = r.2) :=
  az_Ct.of (by decide) (Nat.le_of_ble_eq_true rfl) (fun Y _ _ C => s_X12_row_e C G M r h ⟨rfl, rfl⟩)
set_option maxHeartbeats 4000000 in
set_option maxRecDepth 100000 in
theorem s_X12_chips_e {Y : az_Y} {V : az_V} {post : Option Value → az_M → Prop} (C : az_C Y V cX12_chips 1 RX12 (some .int) 1)  (M : az_M) (r : (Int32 × az_M)) (h : f_X12_chips M = some r) (hp : post (some (.int r.1)) r.2) : AW Y V (az_end Y V post) 1 M 0 [(0, .ref (az_ad V 40))] [] := by
  have o40 := C.hL.at 40 (ci := 12) rfl
  unfold f_X12_chips at h
  refine az_aload_n C 0 dX12_chips_0 rfl ?_
  refine az_iconst (v := 0) C dX12_chips_1 (by decide) ?_
  refine az_puti C o40 fl_X12_149 rfl rfl rfl rfl dX12_chips_2 ?_
  refine az_aload_n C 0 dX12_chips_5 rfl ?_
  refine az_geti C o40 fl_X12_261 rfl dX12_chips_6 ?_
  obtain rfl := Option.some.inj h
  exact az_iret C dX12_chips_9 hp
theorem c_X12_chips {l : Launch} {V : az_V} (hL : az_L V)  (M : az_M) {r : (Int32 × az_M)} (h : f_X12_chips M = some r) : az_Ct l V yX12_chips cX12_chips 1 (some .int) 1 [.ref (az_ad V 40)] M (fun v M' => v = some (.int r.1) ∧ M' = r.2) :=
  az_Ct.of (by decide) (Nat.le_of_ble_eq_true rfl) (fun Y _ _ C => s_X12_chips_e C M r h ⟨rfl, rfl⟩)
set_option maxHeartbeats 4000000 in
set_option maxRecDepth 100000 in
theorem s_X12_four_3 {Y : az_Y} {V : az_V} {post : Option Value → az_M → Prop} (C : az_C Y V cX12_four 3 RX12 none 1) (G : Nat) : ∀ (F : Nat) (x1 : Int32) (x2 : Int32) (M : az_M) (r : az_M), f_X12_four_3 G F x1 x2 M = some r → post none r → AW Y V (az_end Y V post) 3 M 3 [(0, .ref (az_ad V 40)), (1, .int x1), (2, .int x2)] [] := by
  have o40 := C.hL.at 40 (ci := 12) rfl
  have a49 := C.hL.ar 49 (t := 0) (len := 400) rfl
  intro F
  induction F with
  | zero =>
    intro x1 x2 M r h
    exact absurd (show (none : Option az_M) = some r from h) (fun q => by cases q)
  | succ F ih =>
    intro x1 x2 M r h hp
    rw [f_X12_four_3] at h
    refine az_iload_n C 2 dX12_four_3 rfl ?_
    refine az_if_lt C 39 dX12_four_4 (by decide) (fun c1 => ?_) (fun c1 => ?_)
    · have h := az_t c1 h
      obtain rfl := Option.some.inj h
      exact az_vret C rfl dX12_four_39 hp
    · have h := az_f c1 h
      refine az_aload_n C 0 dX12_four_7 rfl ?_
      refine az_getr (r := 49) C o40 fl_X12_35 rfl rfl dX12_four_8 ?_
      refine az_aload_n C 0 dX12_four_11 rfl ?_
      refine az_geti C o40 fl_X12_258 rfl dX12_four_12 ?_
      refine az_iload_n C 1 dX12_four_15 rfl ?_
      refine az_iload_n C 2 dX12_four_16 rfl ?_
      refine az_ishr C dX12_four_17 ?_
      refine az_sipush (v := 255) C dX12_four_18 (by decide) ?_
      refine az_iand C dX12_four_21 ?_
      obtain ⟨g2, h⟩ := az_g h
      refine az_ist (k := (M.1 40 13).toNatClampNeg) C a49 g2 rfl dX12_four_22 ?_
      refine az_aload_n C 0 dX12_four_23 rfl ?_
      refine az_dup C dX12_four_24 rfl ?_
      refine az_geti C o40 fl_X12_258 rfl dX12_four_25 ?_
      refine az_iconst (v := 1) C dX12_four_28 (by decide) ?_
      refine az_iadd C dX12_four_29 ?_
      refine az_puti C o40 fl_X12_258 rfl rfl rfl rfl dX12_four_30 ?_
      refine az_iinc (v := (x2 + (-8))) C 2 dX12_four_33 rfl rfl (by decide) rfl ?_
      refine az_goto C 3 dX12_four_36 (by decide) ?_
      refine az_sub [1, 2, 0] rfl ?_
      exact ih x1 (x2 + (-8)) (az_i (az_i M 49 ((M.1 40 13).toNatClampNeg) ((x1 >>> (x2 &&& 31)) &&& 255)) 40 13 (((az_i M 49 ((M.1 40 13).toNatClampNeg) ((x1 >>> (x2 &&& 31)) &&& 255)).1 40 13) + 1)) r h hp
set_option maxHeartbeats 4000000 in
set_option maxRecDepth 100000 in
theorem s_X12_four_e {Y : az_Y} {V : az_V} {post : Option Value → az_M → Prop} (C : az_C Y V cX12_four 3 RX12 none 1) (G : Nat) (p0 : Int32) (M : az_M) (r : az_M) (h : f_X12_four G p0 M = some r) (hp : post none r) : AW Y V (az_end Y V post) 3 M 0 [(0, .ref (az_ad V 40)), (1, .int p0)] [] := by
  unfold f_X12_four at h
  refine az_bipush (v := 24) C dX12_four_0 (by decide) ?_
  refine az_istore_n C dX12_four_2 rfl (by decide) rfl ?_
  refine az_sub [1, 2, 0] rfl ?_
  exact s_X12_four_3 C G G p0 24 M r h hp
theorem c_X12_four {l : Launch} {V : az_V} (hL : az_L V) (G : Nat) (p0 : Int32) (M : az_M) {r : az_M} (h : f_X12_four G p0 M = some r) : az_Ct l V yX12_four cX12_four 3 none 1 [.ref (az_ad V 40), .int p0] M (fun v M' => v = none ∧ M' = r) :=
  az_Ct.of (by decide) (Nat.le_of_ble_eq_true rfl) (fun Y _ _ C => s_X12_four_e C G p0 M r h ⟨rfl, rfl⟩)
set_option maxHeartbeats 4000000 in
set_option maxRecDepth 100000 in
theorem s_X12_feed_e {Y : az_Y} {V : az_V} {post : Option Value → az_M → Prop} (C : az_C Y V cX12_feed 6 RX12 (some .int) 2) (G : Nat) (p0 : Int32) (p1 : Int32) (p2 : Int32) (p3 : Int32) (p4 : Int32) (M : az_M) (r : (Int32 × az_M)) (h : f_X12_feed G p0 p1 p2 p3 p4 M = some r) (hp : post (some (.int r.1)) r.2) : AW Y V (az_end Y V post) 6 M 0 [(0, .ref (az_ad V 40)), (1, .int p0), (2, .int p1), (3, .int p2), (4, .int p3), (5, .int p4)] [] := by
  have o40 := C.hL.at 40 (ci := 12) rfl
  unfold f_X12_feed at h
  refine az_aload_n C 0 dX12_feed_0 rfl ?_
  refine az_iconst (v := 0) C dX12_feed_1 (by decide) ?_
  refine az_puti C o40 fl_X12_149 rfl rfl rfl rfl dX12_feed_2 ?_
  refine az_aload_n C 0 dX12_feed_5 rfl ?_
  refine az_geti C o40 fl_X12_258 rfl dX12_feed_6 ?_
  refine az_bipush (v := 20) C dX12_feed_9 (by decide) ?_
  refine az_iadd C dX12_feed_11 ?_
  refine az_sipush (v := 400) C dX12_feed_12 (by decide) ?_
  refine az_icmp_le C 20 dX12_feed_15 (by decide) (fun c1 => ?_) (fun c1 => ?_)
  · have h := az_t c1 h
    refine az_aload_n C 0 dX12_feed_20 rfl ?_
    refine az_iload_n C 1 dX12_feed_21 rfl ?_
    obtain ⟨q2, e3, h⟩ := az_b h
    refine az_cV (rest := []) (st2 := []) C [.int p0] (c_X12_four C.hL G p0 (az_i M 40 0 0) e3) (by decide) li_X12_264 o40 (by decide) rfl rfl (Nat.le_of_ble_eq_true rfl) dX12_feed_22 rfl ?_
    refine az_aload_n C 0 dX12_feed_25 rfl ?_
    refine az_iload_n C 2 dX12_feed_26 rfl ?_
    obtain ⟨q4, e5, h⟩ := az_b h
    refine az_cV (rest := []) (st2 := []) C [.int p1] (c_X12_four C.hL G p1 q2 e5) (by decide) li_X12_264 o40 (by decide) rfl rfl (Nat.le_of_ble_eq_true rfl) dX12_feed_27 rfl ?_
    refine az_aload_n C 0 dX12_feed_30 rfl ?_
    refine az_iload_n C 3 dX12_feed_31 rfl ?_
    obtain ⟨q6, e7, h⟩ := az_b h
    refine az_cV (rest := []) (st2 := []) C [.int p2] (c_X12_four C.hL G p2 q4 e7) (by decide) li_X12_264 o40 (by decide) rfl rfl (Nat.le_of_ble_eq_true rfl) dX12_feed_32 rfl ?_
    refine az_aload_n C 0 dX12_feed_35 rfl ?_
    refine az_iload C 4 dX12_feed_36 rfl ?_
    obtain ⟨q8, e9, h⟩ := az_b h
    refine az_cV (rest := []) (st2 := []) C [.int p3] (c_X12_four C.hL G p3 q6 e9) (by decide) li_X12_264 o40 (by decide) rfl rfl (Nat.le_of_ble_eq_true rfl) dX12_feed_38 rfl ?_
    refine az_aload_n C 0 dX12_feed_41 rfl ?_
    refine az_iload C 5 dX12_feed_42 rfl ?_
    obtain ⟨q10, e11, h⟩ := az_b h
    refine az_cV (rest := []) (st2 := []) C [.int p4] (c_X12_four C.hL G p4 q8 e11) (by decide) li_X12_264 o40 (by decide) rfl rfl (Nat.le_of_ble_eq_true rfl) dX12_feed_44 rfl ?_
    refine az_aload_n C 0 dX12_feed_47 rfl ?_
    refine az_geti C o40 fl_X12_258 rfl dX12_feed_48 ?_
    obtain rfl := Option.some.inj h
    exact az_iret C dX12_feed_51 hp
  · have h := az_f c1 h
    refine az_iconst (v := (-1)) C dX12_feed_18 (by decide) ?_
    obtain rfl := Option.some.inj h
    exact az_iret C dX12_feed_19 hp
theorem c_X12_feed {l : Launch} {V : az_V} (hL : az_L V) (G : Nat) (p0 : Int32) (p1 : Int32) (p2 : Int32) (p3 : Int32) (p4 : Int32) (M : az_M) {r : (Int32 × az_M)} (h : f_X12_feed G p0 p1 p2 p3 p4 M = some r) : az_Ct l V yX12_feed cX12_feed 6 (some .int) 2 [.ref (az_ad V 40), .int p0, .int p1, .int p2, .int p3, .int p4] M (fun v M' => v = some (.int r.1) ∧ M' = r.2) :=
  az_Ct.of (by decide) (Nat.le_of_ble_eq_true rfl) (fun Y _ _ C => s_X12_feed_e C G p0 p1 p2 p3 p4 M r h ⟨rfl, rfl⟩)
set_option maxHeartbeats 4000000 in
set_option maxRecDepth 100000 in
theorem s_X12_end_17 {Y : az_Y} {V : az_V} {post : Option Value → az_M → Prop} (C : az_C Y V cX12_end 2 RX12 (some .int) 1)  (M : az_M) (r : (Int32 × az_M)) (h : f_X12_end_17 M = some r) (hp : post (some (.int r.1)) r.2) : AW Y V (az_end Y V post) 2 M 17 [] [] := by
  unfold f_X12_end_17 at h
  refine az_iconst (v := (-1)) C dX12_end_17 (by decide) ?_
  obtain rfl := Option.some.inj h
  exact az_iret C dX12_end_18 hp
set_option maxHeartbeats 4000000 in
set_option maxRecDepth 100000 in
theorem s_X12_end_e {Y : az_Y} {V : az_V} {post : Option Value → az_M → Prop} (C : az_C Y V cX12_end 2 RX12 (some .int) 1) (p0 : Int32) (M : az_M) (r : (Int32 × az_M)) (h : f_X12_end p0 M = some r) (hp : post (some (.int r.1)) r.2) : AW Y V (az_end Y V post) 2 M 0 [(0, .ref (az_ad V 40)), (1, .int p0)] [] := by
  have o40 := C.hL.at 40 (ci := 12) rfl
  unfold f_X12_end at h
  refine az_aload_n C 0 dX12_end_0 rfl ?_
  refine az_iconst (v := 0) C dX12_end_1 (by decide) ?_
  refine az_puti C o40 fl_X12_149 rfl rfl rfl rfl dX12_end_2 ?_
  refine az_iload_n C 1 dX12_end_5 rfl ?_
  refine az_if_lt C 17 dX12_end_6 (by decide) (fun c1 => ?_) (fun c1 => ?_)
  · have h := az_t c1 h
    refine az_sub [] rfl ?_
    exact s_X12_end_17 C (az_i M 40 0 0) r h hp
  · have h := az_f c1 h
    refine az_iload_n C 1 dX12_end_9 rfl ?_
    refine az_aload_n C 0 dX12_end_10 rfl ?_
    refine az_geti C o40 fl_X12_258 rfl dX12_end_11 ?_
    refine az_icmp_le C 19 dX12_end_14 (by decide) (fun c2 => ?_) (fun c2 => ?_)
    · have h := az_t c2 h
      refine az_aload_n C 0 dX12_end_19 rfl ?_
      refine az_iload_n C 1 dX12_end_20 rfl ?_
      refine az_puti C o40 fl_X12_258 rfl rfl rfl rfl dX12_end_21 ?_
      refine az_iload_n C 1 dX12_end_24 rfl ?_
      obtain rfl := Option.some.inj h
      exact az_iret C dX12_end_25 hp
    · have h := az_f c2 h
      refine az_sub [] rfl ?_
      exact s_X12_end_17 C (az_i M 40 0 0) r h hp
theorem c_X12_end {l : Launch} {V : az_V} (hL : az_L V) (p0 : Int32) (M : az_M) {r : (Int32 × az_M)} (h : f_X12_end p0 M = some r) : az_Ct l V yX12_end cX12_end 2 (some .int) 1 [.ref (az_ad V 40), .int p0] M (fun v M' => v = some (.int r.1) ∧ M' = r.2) :=
  az_Ct.of (by decide) (Nat.le_of_ble_eq_true rfl) (fun Y _ _ C => s_X12_end_e C p0 M r h ⟨rfl, rfl⟩)
set_option maxHeartbeats 4000000 in
set_option maxRecDepth 100000 in
theorem s_X12_isSmall_17 {Y : az_Y} {V : az_V} {post : Option Value → az_M → Prop} (C : az_C Y V cX12_isSmall 1 RX12 (some .boolean) 1) (s0 : Int32) (M : az_M) (r : Int32) (h : f_X12_isSmall_17 s0 M = some r) (hp : post (some (.int r)) M) : AW Y V (az_end Y V post) 1 M 17 [] [.int s0] := by
  unfold f_X12_isSmall_17 at h
  obtain ⟨g3, h⟩ := az_g2 h
  obtain rfl := Option.some.inj h
  exact az_zret C dX12_isSmall_17 (az_nz g3) hp
set_option maxHeartbeats 4000000 in
set_option maxRecDepth 100000 in
theorem s_X12_isSmall_16 {Y : az_Y} {V : az_V} {post : Option Value → az_M → Prop} (C : az_C Y V cX12_isSmall 1 RX12 (some .boolean) 1)  (M : az_M) (r : Int32) (h : f_X12_isSmall_16 M = some r) (hp : post (some (.int r)) M) : AW Y V (az_end Y V post) 1 M 16 [] [] := by
  unfold f_X12_isSmall_16 at h
  refine az_iconst (v := 0) C dX12_isSmall_16 (by decide) ?_
  exact s_X12_isSmall_17 C 0 M r h hp
set_option maxHeartbeats 4000000 in
set_option maxRecDepth 100000 in
theorem s_X12_isSmall_e {Y : az_Y} {V : az_V} {post : Option Value → az_M → Prop} (C : az_C Y V cX12_isSmall 1 RX12 (some .boolean) 1) (p0 : Int32) (M : az_M) (r : Int32) (h : f_X12_isSmall p0 M = some r) (hp : post (some (.int r)) M) : AW Y V (az_end Y V post) 1 M 0 [(0, .int p0)] [] := by
  unfold f_X12_isSmall at h
  refine az_iload_n C 0 dX12_isSmall_0 rfl ?_
  refine az_bipush (v := 97) C dX12_isSmall_1 (by decide) ?_
  refine az_icmp_lt C 16 dX12_isSmall_3 (by decide) (fun c1 => ?_) (fun c1 => ?_)
  · have h := az_t c1 h
    refine az_sub [] rfl ?_
    exact s_X12_isSmall_16 C M r h hp
  · have h := az_f c1 h
    refine az_iload_n C 0 dX12_isSmall_6 rfl ?_
    refine az_bipush (v := 122) C dX12_isSmall_7 (by decide) ?_
    refine az_icmp_gt C 16 dX12_isSmall_9 (by decide) (fun c2 => ?_) (fun c2 => ?_)
    · have h := az_t c2 h
      refine az_sub [] rfl ?_
      exact s_X12_isSmall_16 C M r h hp
    · have h := az_f c2 h
      refine az_iconst (v := 1) C dX12_isSmall_12 (by decide) ?_
      refine az_goto C 17 dX12_isSmall_13 (by decide) ?_
      refine az_sub [] rfl ?_
      exact s_X12_isSmall_17 C 1 M r h hp
theorem c_X12_isSmall {l : Launch} {V : az_V} (hL : az_L V) (p0 : Int32) (M : az_M) {r : Int32} (h : f_X12_isSmall p0 M = some r) : az_Ct l V yX12_isSmall cX12_isSmall 1 (some .boolean) 1 [.int p0] M (fun v M' => v = some (.int r) ∧ M' = M) :=
  az_Ct.of (by decide) (Nat.le_of_ble_eq_true rfl) (fun Y _ _ C => s_X12_isSmall_e C p0 M r h ⟨rfl, rfl⟩)
set_option maxHeartbeats 4000000 in
set_option maxRecDepth 100000 in
theorem s_X12_isDigit_17 {Y : az_Y} {V : az_V} {post : Option Value → az_M → Prop} (C : az_C Y V cX12_isDigit 1 RX12 (some .boolean) 1) (s0 : Int32) (M : az_M) (r : Int32) (h : f_X12_isDigit_17 s0 M = some r) (hp : post (some (.int r)) M) : AW Y V (az_end Y V post) 1 M 17 [] [.int s0] := by
  unfold f_X12_isDigit_17 at h
  obtain ⟨g3, h⟩ := az_g2 h
  obtain rfl := Option.some.inj h
  exact az_zret C dX12_isDigit_17 (az_nz g3) hp
set_option maxHeartbeats 4000000 in
set_option maxRecDepth 100000 in
theorem s_X12_isDigit_16 {Y : az_Y} {V : az_V} {post : Option Value → az_M → Prop} (C : az_C Y V cX12_isDigit 1 RX12 (some .boolean) 1)  (M : az_M) (r : Int32) (h : f_X12_isDigit_16 M = some r) (hp : post (some (.int r)) M) : AW Y V (az_end Y V post) 1 M 16 [] [] := by
  unfold f_X12_isDigit_16 at h
  refine az_iconst (v := 0) C dX12_isDigit_16 (by decide) ?_
  exact s_X12_isDigit_17 C 0 M r h hp
set_option maxHeartbeats 4000000 in
set_option maxRecDepth 100000 in
theorem s_X12_isDigit_e {Y : az_Y} {V : az_V} {post : Option Value → az_M → Prop} (C : az_C Y V cX12_isDigit 1 RX12 (some .boolean) 1) (p0 : Int32) (M : az_M) (r : Int32) (h : f_X12_isDigit p0 M = some r) (hp : post (some (.int r)) M) : AW Y V (az_end Y V post) 1 M 0 [(0, .int p0)] [] := by
  unfold f_X12_isDigit at h
  refine az_iload_n C 0 dX12_isDigit_0 rfl ?_
  refine az_bipush (v := 48) C dX12_isDigit_1 (by decide) ?_
  refine az_icmp_lt C 16 dX12_isDigit_3 (by decide) (fun c1 => ?_) (fun c1 => ?_)
  · have h := az_t c1 h
    refine az_sub [] rfl ?_
    exact s_X12_isDigit_16 C M r h hp
  · have h := az_f c1 h
    refine az_iload_n C 0 dX12_isDigit_6 rfl ?_
    refine az_bipush (v := 57) C dX12_isDigit_7 (by decide) ?_
    refine az_icmp_gt C 16 dX12_isDigit_9 (by decide) (fun c2 => ?_) (fun c2 => ?_)
    · have h := az_t c2 h
      refine az_sub [] rfl ?_
      exact s_X12_isDigit_16 C M r h hp
    · have h := az_f c2 h
      refine az_iconst (v := 1) C dX12_isDigit_12 (by decide) ?_
      refine az_goto C 17 dX12_isDigit_13 (by decide) ?_
      refine az_sub [] rfl ?_
      exact s_X12_isDigit_17 C 1 M r h hp
theorem c_X12_isDigit {l : Launch} {V : az_V} (hL : az_L V) (p0 : Int32) (M : az_M) {r : Int32} (h : f_X12_isDigit p0 M = some r) : az_Ct l V yX12_isDigit cX12_isDigit 1 (some .boolean) 1 [.int p0] M (fun v M' => v = some (.int r) ∧ M' = M) :=
  az_Ct.of (by decide) (Nat.le_of_ble_eq_true rfl) (fun Y _ _ C => s_X12_isDigit_e C p0 M r h ⟨rfl, rfl⟩)
set_option maxHeartbeats 4000000 in
set_option maxRecDepth 100000 in
theorem s_X12_next_227 {Y : az_Y} {V : az_V} {post : Option Value → az_M → Prop} (C : az_C Y V cX12_next 1 RX12 none 2) (G : Nat) (K149 : (az_M → Option az_M)) (hK149 : ∀  (M : az_M) (r : az_M), K149 M = some r → post none r → AW Y V (az_end Y V post) 1 M 149 [(0, .ref (az_ad V 40))] []) (s0 : Int64) (M : az_M) (r : az_M) (h : f_X12_next_227 G K149 s0 M = some r) (hp : post none r) : AW Y V (az_end Y V post) 1 M 227 [(0, .ref (az_ad V 40))] [.long s0, .ref (az_ad V 40)] := by
  have o40 := C.hL.at 40 (ci := 12) rfl
  unfold f_X12_next_227 at h
  refine az_putl C o40 fl_X12_280 rfl rfl rfl rfl dX12_next_227 ?_
  refine az_aload_n C 0 dX12_next_230 rfl ?_
  refine az_dup C dX12_next_231 rfl ?_
  refine az_geti C o40 fl_X12_267 rfl dX12_next_232 ?_
  refine az_iconst (v := 1) C dX12_next_235 (by decide) ?_
  refine az_iadd C dX12_next_236 ?_
  refine az_puti C o40 fl_X12_267 rfl rfl rfl rfl dX12_next_237 ?_
  refine az_goto C 149 dX12_next_240 (by decide) ?_
  exact hK149 (az_i (az_l M 40 17 s0) 40 15 (((az_l M 40 17 s0).1 40 15) + 1)) r h hp
set_option maxHeartbeats 4000000 in
set_option maxRecDepth 100000 in
theorem s_X12_next_319 {Y : az_Y} {V : az_V} {post : Option Value → az_M → Prop} (C : az_C Y V cX12_next 1 RX12 none 2) (G : Nat) (K243 : (az_M → Option az_M)) (hK243 : ∀  (M : az_M) (r : az_M), K243 M = some r → post none r → AW Y V (az_end Y V post) 1 M 243 [(0, .ref (az_ad V 40))] []) (s0 : Int64) (M : az_M) (r : az_M) (h : f_X12_next_319 G K243 s0 M = some r) (hp : post none r) : AW Y V (az_end Y V post) 1 M 319 [(0, .ref (az_ad V 40))] [.long s0, .ref (az_ad V 40)] := by
  have o40 := C.hL.at 40 (ci := 12) rfl
  unfold f_X12_next_319 at h
  refine az_putl C o40 fl_X12_280 rfl rfl rfl rfl dX12_next_319 ?_
  refine az_aload_n C 0 dX12_next_322 rfl ?_
  refine az_dup C dX12_next_323 rfl ?_
  refine az_geti C o40 fl_X12_267 rfl dX12_next_324 ?_
  refine az_iconst (v := 1) C dX12_next_327 (by decide) ?_
  refine az_iadd C dX12_next_328 ?_
  refine az_puti C o40 fl_X12_267 rfl rfl rfl rfl dX12_next_329 ?_
  refine az_goto C 243 dX12_next_332 (by decide) ?_
  exact hK243 (az_i (az_l M 40 17 s0) 40 15 (((az_l M 40 17 s0).1 40 15) + 1)) r h hp
set_option maxHeartbeats 4000000 in
set_option maxRecDepth 100000 in
theorem s_X12_next_335 {Y : az_Y} {V : az_V} {post : Option Value → az_M → Prop} (C : az_C Y V cX12_next 1 RX12 none 2) (G : Nat)  (M : az_M) (r : az_M) (h : f_X12_next_335 G M = some r) (hp : post none r) : AW Y V (az_end Y V post) 1 M 335 [] [] := by
  unfold f_X12_next_335 at h
  obtain rfl := Option.some.inj h
  exact az_vret C rfl dX12_next_335 hp
set_option maxHeartbeats 4000000 in
set_option maxRecDepth 100000 in
theorem s_X12_next_243 {Y : az_Y} {V : az_V} {post : Option Value → az_M → Prop} (C : az_C Y V cX12_next 1 RX12 none 2) (G : Nat) : ∀ (F : Nat)  (M : az_M) (r : az_M), f_X12_next_243 G F M = some r → post none r → AW Y V (az_end Y V post) 1 M 243 [(0, .ref (az_ad V 40))] [] := by
  have o40 := C.hL.at 40 (ci := 12) rfl
  have a49 := C.hL.ar 49 (t := 0) (len := 400) rfl
  intro F
  induction F with
  | zero =>
    intro  M r h
    exact absurd (show (none : Option az_M) = some r from h) (fun q => by cases q)
  | succ F ih =>
    intro  M r h hp
    rw [f_X12_next_243] at h
    refine az_aload_n C 0 dX12_next_243 rfl ?_
    refine az_geti C o40 fl_X12_290 rfl dX12_next_244 ?_
    refine az_iconst (v := 2) C dX12_next_247 (by decide) ?_
    refine az_icmp_ne C 335 dX12_next_248 (by decide) (fun c23 => ?_) (fun c23 => ?_)
    · have h := az_f c23 h
      refine az_sub [] rfl ?_
      exact s_X12_next_335 C G M r h hp
    · have h := az_t c23 h
      refine az_aload_n C 0 dX12_next_251 rfl ?_
      refine az_geti C o40 fl_X12_267 rfl dX12_next_252 ?_
      refine az_aload_n C 0 dX12_next_255 rfl ?_
      refine az_geti C o40 fl_X12_258 rfl dX12_next_256 ?_
      refine az_icmp_ge C 335 dX12_next_259 (by decide) (fun c24 => ?_) (fun c24 => ?_)
      · have h := az_t c24 h
        refine az_sub [] rfl ?_
        exact s_X12_next_335 C G M r h hp
      · have h := az_f c24 h
        refine az_aload_n C 0 dX12_next_262 rfl ?_
        refine az_getr (r := 49) C o40 fl_X12_35 rfl rfl dX12_next_263 ?_
        refine az_aload_n C 0 dX12_next_266 rfl ?_
        refine az_geti C o40 fl_X12_267 rfl dX12_next_267 ?_
        obtain ⟨g25, h⟩ := az_g h
        refine az_ild (k := (M.1 40 15).toNatClampNeg) C a49 g25 rfl dX12_next_270 ?_
        obtain ⟨q26, e27, h⟩ := az_b h
        refine az_cS (rest := []) (st2 := [.int q26]) C [.int (M.1 49 ((M.1 40 15).toNatClampNeg))] (c_X12_isDigit C.hL (M.1 49 ((M.1 40 15).toNatClampNeg)) M e27) (by decide) li_X12_287 rfl rfl (Nat.le_of_ble_eq_true rfl) dX12_next_271 rfl ?_
        refine az_if_eq C 335 dX12_next_274 (by decide) (fun c28 => ?_) (fun c28 => ?_)
        · have h := az_t c28 h
          refine az_sub [] rfl ?_
          exact s_X12_next_335 C G M r h hp
        · have h := az_f c28 h
          refine az_aload_n C 0 dX12_next_277 rfl ?_
          refine az_aload_n C 0 dX12_next_278 rfl ?_
          refine az_getl C o40 fl_X12_280 rfl dX12_next_279 ?_
          refine az_ldc2 C ck_X12_299 dX12_next_282 ?_
          refine az_lcmp C dX12_next_285 ?_
          refine az_if_le C 296 dX12_next_286 (by decide) (fun c29 => ?_) (fun c29 => ?_)
          · have h := az_t (az_c_le.mp c29) h
            refine az_aload_n C 0 dX12_next_296 rfl ?_
            refine az_getl C o40 fl_X12_280 rfl dX12_next_297 ?_
            refine az_ldc2 C ck_X12_224 dX12_next_300 ?_
            refine az_lmul C dX12_next_303 ?_
            refine az_aload_n C 0 dX12_next_304 rfl ?_
            refine az_getr (r := 49) C o40 fl_X12_35 rfl rfl dX12_next_305 ?_
            refine az_aload_n C 0 dX12_next_308 rfl ?_
            refine az_geti C o40 fl_X12_267 rfl dX12_next_309 ?_
            obtain ⟨g30, h⟩ := az_g h
            refine az_ild (k := (M.1 40 15).toNatClampNeg) C a49 g30 rfl dX12_next_312 ?_
            refine az_i2l C dX12_next_313 ?_
            refine az_ladd C dX12_next_314 ?_
            refine az_ldc2 C ck_X12_301 dX12_next_315 ?_
            refine az_lsub C dX12_next_318 ?_
            exact s_X12_next_319 C G (f_X12_next_243 G F) ih ((((M.2.1 40 17) * 10) + (M.1 49 ((M.1 40 15).toNatClampNeg)).toInt64) - 48) M r h hp
          · have h := az_f (fun z => c29 (az_c_le.mpr z)) h
            refine az_aload_n C 0 dX12_next_289 rfl ?_
            refine az_getl C o40 fl_X12_280 rfl dX12_next_290 ?_
            refine az_goto C 319 dX12_next_293 (by decide) ?_
            exact s_X12_next_319 C G (f_X12_next_243 G F) ih (M.2.1 40 17) M r h hp
set_option maxHeartbeats 4000000 in
set_option maxRecDepth 100000 in
theorem s_X12_next_149 {Y : az_Y} {V : az_V} {post : Option Value → az_M → Prop} (C : az_C Y V cX12_next 1 RX12 none 2) (G : Nat) : ∀ (F : Nat)  (M : az_M) (r : az_M), f_X12_next_149 G F M = some r → post none r → AW Y V (az_end Y V post) 1 M 149 [(0, .ref (az_ad V 40))] [] := by
  have o40 := C.hL.at 40 (ci := 12) rfl
  have a49 := C.hL.ar 49 (t := 0) (len := 400) rfl
  intro F
  induction F with
  | zero =>
    intro  M r h
    exact absurd (show (none : Option az_M) = some r from h) (fun q => by cases q)
  | succ F ih =>
    intro  M r h hp
    rw [f_X12_next_149] at h
    refine az_aload_n C 0 dX12_next_149 rfl ?_
    refine az_geti C o40 fl_X12_290 rfl dX12_next_150 ?_
    refine az_iconst (v := 1) C dX12_next_153 (by decide) ?_
    refine az_icmp_ne C 243 dX12_next_154 (by decide) (fun c15 => ?_) (fun c15 => ?_)
    · have h := az_f c15 h
      exact s_X12_next_243 C G G M r h hp
    · have h := az_t c15 h
      refine az_aload_n C 0 dX12_next_157 rfl ?_
      refine az_geti C o40 fl_X12_267 rfl dX12_next_158 ?_
      refine az_aload_n C 0 dX12_next_161 rfl ?_
      refine az_geti C o40 fl_X12_258 rfl dX12_next_162 ?_
      refine az_icmp_ge C 243 dX12_next_165 (by decide) (fun c16 => ?_) (fun c16 => ?_)
      · have h := az_t c16 h
        exact s_X12_next_243 C G G M r h hp
      · have h := az_f c16 h
        refine az_aload_n C 0 dX12_next_168 rfl ?_
        refine az_getr (r := 49) C o40 fl_X12_35 rfl rfl dX12_next_169 ?_
        refine az_aload_n C 0 dX12_next_172 rfl ?_
        refine az_geti C o40 fl_X12_267 rfl dX12_next_173 ?_
        obtain ⟨g17, h⟩ := az_g h
        refine az_ild (k := (M.1 40 15).toNatClampNeg) C a49 g17 rfl dX12_next_176 ?_
        obtain ⟨q18, e19, h⟩ := az_b h
        refine az_cS (rest := []) (st2 := [.int q18]) C [.int (M.1 49 ((M.1 40 15).toNatClampNeg))] (c_X12_isSmall C.hL (M.1 49 ((M.1 40 15).toNatClampNeg)) M e19) (by decide) li_X12_284 rfl rfl (Nat.le_of_ble_eq_true rfl) dX12_next_177 rfl ?_
        refine az_if_eq C 243 dX12_next_180 (by decide) (fun c20 => ?_) (fun c20 => ?_)
        · have h := az_t c20 h
          exact s_X12_next_243 C G G M r h hp
        · have h := az_f c20 h
          refine az_aload_n C 0 dX12_next_183 rfl ?_
          refine az_aload_n C 0 dX12_next_184 rfl ?_
          refine az_geti C o40 fl_X12_267 rfl dX12_next_185 ?_
          refine az_aload_n C 0 dX12_next_188 rfl ?_
          refine az_geti C o40 fl_X12_277 rfl dX12_next_189 ?_
          refine az_isub C dX12_next_192 ?_
          refine az_bipush (v := 10) C dX12_next_193 (by decide) ?_
          refine az_icmp_ge C 224 dX12_next_195 (by decide) (fun c21 => ?_) (fun c21 => ?_)
          · have h := az_t c21 h
            refine az_ldc2 C ck_X12_297 dX12_next_224 ?_
            exact s_X12_next_227 C G (f_X12_next_149 G F) ih (-1) M r h hp
          · have h := az_f c21 h
            refine az_aload_n C 0 dX12_next_198 rfl ?_
            refine az_getl C o40 fl_X12_280 rfl dX12_next_199 ?_
            refine az_ldc2 C ck_X12_293 dX12_next_202 ?_
            refine az_lmul C dX12_next_205 ?_
            refine az_aload_n C 0 dX12_next_206 rfl ?_
            refine az_getr (r := 49) C o40 fl_X12_35 rfl rfl dX12_next_207 ?_
            refine az_aload_n C 0 dX12_next_210 rfl ?_
            refine az_geti C o40 fl_X12_267 rfl dX12_next_211 ?_
            obtain ⟨g22, h⟩ := az_g h
            refine az_ild (k := (M.1 40 15).toNatClampNeg) C a49 g22 rfl dX12_next_214 ?_
            refine az_i2l C dX12_next_215 ?_
            refine az_ladd C dX12_next_216 ?_
            refine az_ldc2 C ck_X12_295 dX12_next_217 ?_
            refine az_lsub C dX12_next_220 ?_
            refine az_goto C 227 dX12_next_221 (by decide) ?_
            exact s_X12_next_227 C G (f_X12_next_149 G F) ih ((((M.2.1 40 17) * 32) + (M.1 49 ((M.1 40 15).toNatClampNeg)).toInt64) - 96) M r h hp
set_option maxHeartbeats 4000000 in
set_option maxRecDepth 100000 in
theorem s_X12_next_114 {Y : az_Y} {V : az_V} {post : Option Value → az_M → Prop} (C : az_C Y V cX12_next 1 RX12 none 2) (G : Nat) (s0 : Int32) (M : az_M) (r : az_M) (h : f_X12_next_114 G s0 M = some r) (hp : post none r) : AW Y V (az_end Y V post) 1 M 114 [(0, .ref (az_ad V 40))] [.int s0, .ref (az_ad V 40)] := by
  have o40 := C.hL.at 40 (ci := 12) rfl
  have a49 := C.hL.ar 49 (t := 0) (len := 400) rfl
  unfold f_X12_next_114 at h
  refine az_puti C o40 fl_X12_290 rfl rfl rfl rfl dX12_next_114 ?_
  refine az_aload_n C 0 dX12_next_117 rfl ?_
  refine az_geti C o40 fl_X12_290 rfl dX12_next_118 ?_
  refine az_iconst (v := 3) C dX12_next_121 (by decide) ?_
  refine az_icmp_ne C 149 dX12_next_122 (by decide) (fun c13 => ?_) (fun c13 => ?_)
  · have h := az_f c13 h
    exact s_X12_next_149 C G G (az_i M 40 16 s0) r h hp
  · have h := az_t c13 h
    refine az_aload_n C 0 dX12_next_125 rfl ?_
    refine az_aload_n C 0 dX12_next_126 rfl ?_
    refine az_getr (r := 49) C o40 fl_X12_35 rfl rfl dX12_next_127 ?_
    refine az_aload_n C 0 dX12_next_130 rfl ?_
    refine az_geti C o40 fl_X12_277 rfl dX12_next_131 ?_
    obtain ⟨g14, h⟩ := az_g h
    refine az_ild (k := ((az_i M 40 16 s0).1 40 14).toNatClampNeg) C a49 g14 rfl dX12_next_134 ?_
    refine az_i2l C dX12_next_135 ?_
    refine az_putl C o40 fl_X12_280 rfl rfl rfl rfl dX12_next_136 ?_
    refine az_aload_n C 0 dX12_next_139 rfl ?_
    refine az_dup C dX12_next_140 rfl ?_
    refine az_geti C o40 fl_X12_267 rfl dX12_next_141 ?_
    refine az_iconst (v := 1) C dX12_next_144 (by decide) ?_
    refine az_iadd C dX12_next_145 ?_
    refine az_puti C o40 fl_X12_267 rfl rfl rfl rfl dX12_next_146 ?_
    exact s_X12_next_149 C G G (az_i (az_l (az_i M 40 16 s0) 40 17 (((az_i M 40 16 s0).1 49 (((az_i M 40 16 s0).1 40 14).toNatClampNeg)).toInt64)) 40 15 (((az_l (az_i M 40 16 s0) 40 17 (((az_i M 40 16 s0).1 49 (((az_i M 40 16 s0).1 40 14).toNatClampNeg)).toInt64)).1 40 15) + 1)) r h hp
set_option maxHeartbeats 4000000 in
set_option maxRecDepth 100000 in
theorem s_X12_next_46 {Y : az_Y} {V : az_V} {post : Option Value → az_M → Prop} (C : az_C Y V cX12_next 1 RX12 none 2) (G : Nat)  (M : az_M) (r : az_M) (h : f_X12_next_46 G M = some r) (hp : post none r) : AW Y V (az_end Y V post) 1 M 46 [(0, .ref (az_ad V 40))] [] := by
  have o40 := C.hL.at 40 (ci := 12) rfl
  have a49 := C.hL.ar 49 (t := 0) (len := 400) rfl
  unfold f_X12_next_46 at h
  refine az_aload_n C 0 dX12_next_46 rfl ?_
  refine az_aload_n C 0 dX12_next_47 rfl ?_
  refine az_geti C o40 fl_X12_277 rfl dX12_next_48 ?_
  refine az_puti C o40 fl_X12_267 rfl rfl rfl rfl dX12_next_51 ?_
  refine az_aload_n C 0 dX12_next_54 rfl ?_
  refine az_lconst (v := 0) C dX12_next_55 (by decide) ?_
  refine az_putl C o40 fl_X12_280 rfl rfl rfl rfl dX12_next_56 ?_
  refine az_aload_n C 0 dX12_next_59 rfl ?_
  refine az_aload_n C 0 dX12_next_60 rfl ?_
  refine az_geti C o40 fl_X12_277 rfl dX12_next_61 ?_
  refine az_aload_n C 0 dX12_next_64 rfl ?_
  refine az_geti C o40 fl_X12_258 rfl dX12_next_65 ?_
  refine az_icmp_ne C 75 dX12_next_68 (by decide) (fun c4 => ?_) (fun c4 => ?_)
  · have h := az_f c4 h
    refine az_aload_n C 0 dX12_next_75 rfl ?_
    refine az_getr (r := 49) C o40 fl_X12_35 rfl rfl dX12_next_76 ?_
    refine az_aload_n C 0 dX12_next_79 rfl ?_
    refine az_geti C o40 fl_X12_277 rfl dX12_next_80 ?_
    obtain ⟨g5, h⟩ := az_g h
    refine az_ild (k := ((az_l (az_i M 40 15 (M.1 40 14)) 40 17 0).1 40 14).toNatClampNeg) C a49 g5 rfl dX12_next_83 ?_
    obtain ⟨q6, e7, h⟩ := az_b h
    refine az_cS (rest := [.ref (az_ad V 40)]) (st2 := [.int q6, .ref (az_ad V 40)]) C [.int ((az_l (az_i M 40 15 (M.1 40 14)) 40 17 0).1 49 (((az_l (az_i M 40 15 (M.1 40 14)) 40 17 0).1 40 14).toNatClampNeg))] (c_X12_isSmall C.hL ((az_l (az_i M 40 15 (M.1 40 14)) 40 17 0).1 49 (((az_l (az_i M 40 15 (M.1 40 14)) 40 17 0).1 40 14).toNatClampNeg)) (az_l (az_i M 40 15 (M.1 40 14)) 40 17 0) e7) (by decide) li_X12_284 rfl rfl (Nat.le_of_ble_eq_true rfl) dX12_next_84 rfl ?_
    refine az_if_eq C 94 dX12_next_87 (by decide) (fun c8 => ?_) (fun c8 => ?_)
    · have h := az_t c8 h
      refine az_aload_n C 0 dX12_next_94 rfl ?_
      refine az_getr (r := 49) C o40 fl_X12_35 rfl rfl dX12_next_95 ?_
      refine az_aload_n C 0 dX12_next_98 rfl ?_
      refine az_geti C o40 fl_X12_277 rfl dX12_next_99 ?_
      obtain ⟨g9, h⟩ := az_g h
      refine az_ild (k := ((az_l (az_i M 40 15 (M.1 40 14)) 40 17 0).1 40 14).toNatClampNeg) C a49 g9 rfl dX12_next_102 ?_
      obtain ⟨q10, e11, h⟩ := az_b h
      refine az_cS (rest := [.ref (az_ad V 40)]) (st2 := [.int q10, .ref (az_ad V 40)]) C [.int ((az_l (az_i M 40 15 (M.1 40 14)) 40 17 0).1 49 (((az_l (az_i M 40 15 (M.1 40 14)) 40 17 0).1 40 14).toNatClampNeg))] (c_X12_isDigit C.hL ((az_l (az_i M 40 15 (M.1 40 14)) 40 17 0).1 49 (((az_l (az_i M 40 15 (M.1 40 14)) 40 17 0).1 40 14).toNatClampNeg)) (az_l (az_i M 40 15 (M.1 40 14)) 40 17 0) e11) (by decide) li_X12_287 rfl rfl (Nat.le_of_ble_eq_true rfl) dX12_next_103 rfl ?_
      refine az_if_eq C 113 dX12_next_106 (by decide) (fun c12 => ?_) (fun c12 => ?_)
      · have h := az_t c12 h
        refine az_iconst (v := 3) C dX12_next_113 (by decide) ?_
        exact s_X12_next_114 C G 3 (az_l (az_i M 40 15 (M.1 40 14)) 40 17 0) r h hp
      · have h := az_f c12 h
        refine az_iconst (v := 2) C dX12_next_109 (by decide) ?_
        refine az_goto C 114 dX12_next_110 (by decide) ?_
        exact s_X12_next_114 C G 2 (az_l (az_i M 40 15 (M.1 40 14)) 40 17 0) r h hp
    · have h := az_f c8 h
      refine az_iconst (v := 1) C dX12_next_90 (by decide) ?_
      refine az_goto C 114 dX12_next_91 (by decide) ?_
      exact s_X12_next_114 C G 1 (az_l (az_i M 40 15 (M.1 40 14)) 40 17 0) r h hp
  · have h := az_t c4 h
    refine az_iconst (v := 0) C dX12_next_71 (by decide) ?_
    refine az_goto C 114 dX12_next_72 (by decide) ?_
    exact s_X12_next_114 C G 0 (az_l (az_i M 40 15 (M.1 40 14)) 40 17 0) r h hp
set_option maxHeartbeats 4000000 in
set_option maxRecDepth 100000 in
theorem s_X12_next_8 {Y : az_Y} {V : az_V} {post : Option Value → az_M → Prop} (C : az_C Y V cX12_next 1 RX12 none 2) (G : Nat) : ∀ (F : Nat)  (M : az_M) (r : az_M), f_X12_next_8 G F M = some r → post none r → AW Y V (az_end Y V post) 1 M 8 [(0, .ref (az_ad V 40))] [] := by
  have o40 := C.hL.at 40 (ci := 12) rfl
  have a49 := C.hL.ar 49 (t := 0) (len := 400) rfl
  intro F
  induction F with
  | zero =>
    intro  M r h
    exact absurd (show (none : Option az_M) = some r from h) (fun q => by cases q)
  | succ F ih =>
    intro  M r h hp
    rw [f_X12_next_8] at h
    refine az_aload_n C 0 dX12_next_8 rfl ?_
    refine az_geti C o40 fl_X12_277 rfl dX12_next_9 ?_
    refine az_aload_n C 0 dX12_next_12 rfl ?_
    refine az_geti C o40 fl_X12_258 rfl dX12_next_13 ?_
    refine az_icmp_ge C 46 dX12_next_16 (by decide) (fun c1 => ?_) (fun c1 => ?_)
    · have h := az_t c1 h
      exact s_X12_next_46 C G M r h hp
    · have h := az_f c1 h
      refine az_aload_n C 0 dX12_next_19 rfl ?_
      refine az_getr (r := 49) C o40 fl_X12_35 rfl rfl dX12_next_20 ?_
      refine az_aload_n C 0 dX12_next_23 rfl ?_
      refine az_geti C o40 fl_X12_277 rfl dX12_next_24 ?_
      obtain ⟨g2, h⟩ := az_g h
      refine az_ild (k := (M.1 40 14).toNatClampNeg) C a49 g2 rfl dX12_next_27 ?_
      refine az_bipush (v := 32) C dX12_next_28 (by decide) ?_
      refine az_icmp_ne C 46 dX12_next_30 (by decide) (fun c3 => ?_) (fun c3 => ?_)
      · have h := az_f c3 h
        exact s_X12_next_46 C G M r h hp
      · have h := az_t c3 h
        refine az_aload_n C 0 dX12_next_33 rfl ?_
        refine az_dup C dX12_next_34 rfl ?_
        refine az_geti C o40 fl_X12_277 rfl dX12_next_35 ?_
        refine az_iconst (v := 1) C dX12_next_38 (by decide) ?_
        refine az_iadd C dX12_next_39 ?_
        refine az_puti C o40 fl_X12_277 rfl rfl rfl rfl dX12_next_40 ?_
        refine az_goto C 8 dX12_next_43 (by decide) ?_
        exact ih (az_i M 40 14 ((M.1 40 14) + 1)) r h hp
set_option maxHeartbeats 4000000 in
set_option maxRecDepth 100000 in
theorem s_X12_next_e {Y : az_Y} {V : az_V} {post : Option Value → az_M → Prop} (C : az_C Y V cX12_next 1 RX12 none 2) (G : Nat)  (M : az_M) (r : az_M) (h : f_X12_next G M = some r) (hp : post none r) : AW Y V (az_end Y V post) 1 M 0 [(0, .ref (az_ad V 40))] [] := by
  have o40 := C.hL.at 40 (ci := 12) rfl
  unfold f_X12_next at h
  refine az_aload_n C 0 dX12_next_0 rfl ?_
  refine az_aload_n C 0 dX12_next_1 rfl ?_
  refine az_geti C o40 fl_X12_267 rfl dX12_next_2 ?_
  refine az_puti C o40 fl_X12_277 rfl rfl rfl rfl dX12_next_5 ?_
  exact s_X12_next_8 C G G (az_i M 40 14 (M.1 40 15)) r h hp
theorem c_X12_next {l : Launch} {V : az_V} (hL : az_L V) (G : Nat)  (M : az_M) {r : az_M} (h : f_X12_next G M = some r) : az_Ct l V yX12_next cX12_next 1 none 2 [.ref (az_ad V 40)] M (fun v M' => v = none ∧ M' = r) :=
  az_Ct.of (by decide) (Nat.le_of_ble_eq_true rfl) (fun Y _ _ C => s_X12_next_e C G M r h ⟨rfl, rfl⟩)
set_option maxHeartbeats 4000000 in
set_option maxRecDepth 100000 in
theorem s_X12_begin_e {Y : az_Y} {V : az_V} {post : Option Value → az_M → Prop} (C : az_C Y V cX12_begin 1 RX12 none 3) (G : Nat)  (M : az_M) (r : az_M) (h : f_X12_begin G M = some r) (hp : post none r) : AW Y V (az_end Y V post) 1 M 0 [(0, .ref (az_ad V 40))] [] := by
  have o40 := C.hL.at 40 (ci := 12) rfl
  unfold f_X12_begin at h
  refine az_aload_n C 0 dX12_begin_0 rfl ?_
  refine az_iconst (v := 0) C dX12_begin_1 (by decide) ?_
  refine az_puti C o40 fl_X12_267 rfl rfl rfl rfl dX12_begin_2 ?_
  refine az_aload_n C 0 dX12_begin_5 rfl ?_
  refine az_iconst (v := 0) C dX12_begin_6 (by decide) ?_
  refine az_puti C o40 fl_X12_270 rfl rfl rfl rfl dX12_begin_7 ?_
  refine az_aload_n C 0 dX12_begin_10 rfl ?_
  refine az_iconst (v := (-1)) C dX12_begin_11 (by decide) ?_
  refine az_puti C o40 fl_X12_38 rfl rfl rfl rfl dX12_begin_12 ?_
  refine az_aload_n C 0 dX12_begin_15 rfl ?_
  obtain ⟨q1, e2, h⟩ := az_b h
  refine az_cV (rest := []) (st2 := []) C [] (c_X12_next C.hL G (az_i (az_i (az_i M 40 15 0) 40 19 0) 40 18 (-1)) e2) (by decide) li_X12_274 o40 (by decide) rfl rfl (Nat.le_of_ble_eq_true rfl) dX12_begin_16 rfl ?_
  obtain rfl := Option.some.inj h
  exact az_vret C rfl dX12_begin_19 hp
theorem c_X12_begin {l : Launch} {V : az_V} (hL : az_L V) (G : Nat)  (M : az_M) {r : az_M} (h : f_X12_begin G M = some r) : az_Ct l V yX12_begin cX12_begin 1 none 3 [.ref (az_ad V 40)] M (fun v M' => v = none ∧ M' = r) :=
  az_Ct.of (by decide) (Nat.le_of_ble_eq_true rfl) (fun Y _ _ C => s_X12_begin_e C G M r h ⟨rfl, rfl⟩)
set_option maxHeartbeats 4000000 in
set_option maxRecDepth 100000 in
theorem s_X12_isWord_22 {Y : az_Y} {V : az_V} {post : Option Value → az_M → Prop} (C : az_C Y V cX12_isWord 3 RX12 (some .boolean) 1) (s0 : Int32) (M : az_M) (r : Int32) (h : f_X12_isWord_22 s0 M = some r) (hp : post (some (.int r)) M) : AW Y V (az_end Y V post) 3 M 22 [] [.int s0] := by
  unfold f_X12_isWord_22 at h
  obtain ⟨g3, h⟩ := az_g2 h
  obtain rfl := Option.some.inj h
  exact az_zret C dX12_isWord_22 (az_nz g3) hp
set_option maxHeartbeats 4000000 in
set_option maxRecDepth 100000 in
theorem s_X12_isWord_21 {Y : az_Y} {V : az_V} {post : Option Value → az_M → Prop} (C : az_C Y V cX12_isWord 3 RX12 (some .boolean) 1)  (M : az_M) (r : Int32) (h : f_X12_isWord_21 M = some r) (hp : post (some (.int r)) M) : AW Y V (az_end Y V post) 3 M 21 [] [] := by
  unfold f_X12_isWord_21 at h
  refine az_iconst (v := 0) C dX12_isWord_21 (by decide) ?_
  exact s_X12_isWord_22 C 0 M r h hp
set_option maxHeartbeats 4000000 in
set_option maxRecDepth 100000 in
theorem s_X12_isWord_e {Y : az_Y} {V : az_V} {post : Option Value → az_M → Prop} (C : az_C Y V cX12_isWord 3 RX12 (some .boolean) 1) (p0 : Int64) (M : az_M) (r : Int32) (h : f_X12_isWord p0 M = some r) (hp : post (some (.int r)) M) : AW Y V (az_end Y V post) 3 M 0 [(0, .ref (az_ad V 40)), (1, .long p0)] [] := by
  have o40 := C.hL.at 40 (ci := 12) rfl
  unfold f_X12_isWord at h
  refine az_aload_n C 0 dX12_isWord_0 rfl ?_
  refine az_geti C o40 fl_X12_290 rfl dX12_isWord_1 ?_
  refine az_iconst (v := 1) C dX12_isWord_4 (by decide) ?_
  refine az_icmp_ne C 21 dX12_isWord_5 (by decide) (fun c1 => ?_) (fun c1 => ?_)
  · have h := az_f c1 h
    refine az_sub [] rfl ?_
    exact s_X12_isWord_21 C M r h hp
  · have h := az_t c1 h
    refine az_aload_n C 0 dX12_isWord_8 rfl ?_
    refine az_getl C o40 fl_X12_280 rfl dX12_isWord_9 ?_
    refine az_lload_n C 1 dX12_isWord_12 rfl ?_
    refine az_lcmp C dX12_isWord_13 ?_
    refine az_if_ne C 21 dX12_isWord_14 (by decide) (fun c2 => ?_) (fun c2 => ?_)
    · have h := az_f (fun z => c2 (az_c_eq.mpr z)) h
      refine az_sub [] rfl ?_
      exact s_X12_isWord_21 C M r h hp
    · have h := az_t (az_c_eq.mp c2) h
      refine az_iconst (v := 1) C dX12_isWord_17 (by decide) ?_
      refine az_goto C 22 dX12_isWord_18 (by decide) ?_
      refine az_sub [] rfl ?_
      exact s_X12_isWord_22 C 1 M r h hp
theorem c_X12_isWord {l : Launch} {V : az_V} (hL : az_L V) (p0 : Int64) (M : az_M) {r : Int32} (h : f_X12_isWord p0 M = some r) : az_Ct l V yX12_isWord cX12_isWord 3 (some .boolean) 1 [.ref (az_ad V 40), .long p0] M (fun v M' => v = some (.int r) ∧ M' = M) :=
  az_Ct.of (by decide) (Nat.le_of_ble_eq_true rfl) (fun Y _ _ C => s_X12_isWord_e C p0 M r h ⟨rfl, rfl⟩)
set_option maxHeartbeats 4000000 in
set_option maxRecDepth 100000 in
theorem s_X12_isSign_23 {Y : az_Y} {V : az_V} {post : Option Value → az_M → Prop} (C : az_C Y V cX12_isSign 2 RX12 (some .boolean) 1) (s0 : Int32) (M : az_M) (r : Int32) (h : f_X12_isSign_23 s0 M = some r) (hp : post (some (.int r)) M) : AW Y V (az_end Y V post) 2 M 23 [] [.int s0] := by
  unfold f_X12_isSign_23 at h
  obtain ⟨g3, h⟩ := az_g2 h
  obtain rfl := Option.some.inj h
  exact az_zret C dX12_isSign_23 (az_nz g3) hp
set_option maxHeartbeats 4000000 in
set_option maxRecDepth 100000 in
theorem s_X12_isSign_22 {Y : az_Y} {V : az_V} {post : Option Value → az_M → Prop} (C : az_C Y V cX12_isSign 2 RX12 (some .boolean) 1)  (M : az_M) (r : Int32) (h : f_X12_isSign_22 M = some r) (hp : post (some (.int r)) M) : AW Y V (az_end Y V post) 2 M 22 [] [] := by
  unfold f_X12_isSign_22 at h
  refine az_iconst (v := 0) C dX12_isSign_22 (by decide) ?_
  exact s_X12_isSign_23 C 0 M r h hp
set_option maxHeartbeats 4000000 in
set_option maxRecDepth 100000 in
theorem s_X12_isSign_e {Y : az_Y} {V : az_V} {post : Option Value → az_M → Prop} (C : az_C Y V cX12_isSign 2 RX12 (some .boolean) 1) (p0 : Int32) (M : az_M) (r : Int32) (h : f_X12_isSign p0 M = some r) (hp : post (some (.int r)) M) : AW Y V (az_end Y V post) 2 M 0 [(0, .ref (az_ad V 40)), (1, .int p0)] [] := by
  have o40 := C.hL.at 40 (ci := 12) rfl
  unfold f_X12_isSign at h
  refine az_aload_n C 0 dX12_isSign_0 rfl ?_
  refine az_geti C o40 fl_X12_290 rfl dX12_isSign_1 ?_
  refine az_iconst (v := 3) C dX12_isSign_4 (by decide) ?_
  refine az_icmp_ne C 22 dX12_isSign_5 (by decide) (fun c1 => ?_) (fun c1 => ?_)
  · have h := az_f c1 h
    refine az_sub [] rfl ?_
    exact s_X12_isSign_22 C M r h hp
  · have h := az_t c1 h
    refine az_aload_n C 0 dX12_isSign_8 rfl ?_
    refine az_getl C o40 fl_X12_280 rfl dX12_isSign_9 ?_
    refine az_iload_n C 1 dX12_isSign_12 rfl ?_
    refine az_i2l C dX12_isSign_13 ?_
    refine az_lcmp C dX12_isSign_14 ?_
    refine az_if_ne C 22 dX12_isSign_15 (by decide) (fun c2 => ?_) (fun c2 => ?_)
    · have h := az_f (fun z => c2 (az_c_eq.mpr z)) h
      refine az_sub [] rfl ?_
      exact s_X12_isSign_22 C M r h hp
    · have h := az_t (az_c_eq.mp c2) h
      refine az_iconst (v := 1) C dX12_isSign_18 (by decide) ?_
      refine az_goto C 23 dX12_isSign_19 (by decide) ?_
      refine az_sub [] rfl ?_
      exact s_X12_isSign_23 C 1 M r h hp
theorem c_X12_isSign {l : Launch} {V : az_V} (hL : az_L V) (p0 : Int32) (M : az_M) {r : Int32} (h : f_X12_isSign p0 M = some r) : az_Ct l V yX12_isSign cX12_isSign 2 (some .boolean) 1 [.ref (az_ad V 40), .int p0] M (fun v M' => v = some (.int r) ∧ M' = M) :=
  az_Ct.of (by decide) (Nat.le_of_ble_eq_true rfl) (fun Y _ _ C => s_X12_isSign_e C p0 M r h ⟨rfl, rfl⟩)
set_option maxHeartbeats 4000000 in
set_option maxRecDepth 100000 in
theorem s_X12_must_35 {Y : az_Y} {V : az_V} {post : Option Value → az_M → Prop} (C : az_C Y V cX12_must 2 RX12 none 3) (G : Nat)  (M : az_M) (r : az_M) (h : f_X12_must_35 G M = some r) (hp : post none r) : AW Y V (az_end Y V post) 2 M 35 [] [] := by
  unfold f_X12_must_35 at h
  obtain rfl := Option.some.inj h
  exact az_vret C rfl dX12_must_35 hp
set_option maxHeartbeats 4000000 in
set_option maxRecDepth 100000 in
theorem s_X12_must_24 {Y : az_Y} {V : az_V} {post : Option Value → az_M → Prop} (C : az_C Y V cX12_must 2 RX12 none 3) (G : Nat)  (M : az_M) (r : az_M) (h : f_X12_must_24 G M = some r) (hp : post none r) : AW Y V (az_end Y V post) 2 M 24 [(0, .ref (az_ad V 40))] [] := by
  have o40 := C.hL.at 40 (ci := 12) rfl
  unfold f_X12_must_24 at h
  refine az_aload_n C 0 dX12_must_24 rfl ?_
  refine az_geti C o40 fl_X12_270 rfl dX12_must_25 ?_
  refine az_if_ne C 35 dX12_must_28 (by decide) (fun c3 => ?_) (fun c3 => ?_)
  · have h := az_f c3 h
    refine az_sub [] rfl ?_
    exact s_X12_must_35 C G M r h hp
  · have h := az_t c3 h
    refine az_aload_n C 0 dX12_must_31 rfl ?_
    obtain ⟨q4, e5, h⟩ := az_b h
    refine az_cV (rest := []) (st2 := []) C [] (c_X12_next C.hL G M e5) (by decide) li_X12_274 o40 (by decide) rfl rfl (Nat.le_of_ble_eq_true rfl) dX12_must_32 rfl ?_
    refine az_sub [] rfl ?_
    exact s_X12_must_35 C G q4 r h hp
set_option maxHeartbeats 4000000 in
set_option maxRecDepth 100000 in
theorem s_X12_must_e {Y : az_Y} {V : az_V} {post : Option Value → az_M → Prop} (C : az_C Y V cX12_must 2 RX12 none 3) (G : Nat) (p0 : Int32) (M : az_M) (r : az_M) (h : f_X12_must G p0 M = some r) (hp : post none r) : AW Y V (az_end Y V post) 2 M 0 [(0, .ref (az_ad V 40)), (1, .int p0)] [] := by
  have o40 := C.hL.at 40 (ci := 12) rfl
  unfold f_X12_must at h
  refine az_aload_n C 0 dX12_must_0 rfl ?_
  refine az_geti C o40 fl_X12_270 rfl dX12_must_1 ?_
  refine az_if_ne C 24 dX12_must_4 (by decide) (fun c1 => ?_) (fun c1 => ?_)
  · have h := az_f c1 h
    refine az_sub [0] rfl ?_
    exact s_X12_must_24 C G M r h hp
  · have h := az_t c1 h
    refine az_iload_n C 1 dX12_must_7 rfl ?_
    refine az_if_ne C 24 dX12_must_8 (by decide) (fun c2 => ?_) (fun c2 => ?_)
    · have h := az_f c2 h
      refine az_sub [0] rfl ?_
      exact s_X12_must_24 C G M r h hp
    · have h := az_t c2 h
      refine az_aload_n C 0 dX12_must_11 rfl ?_
      refine az_iconst (v := 1) C dX12_must_12 (by decide) ?_
      refine az_puti C o40 fl_X12_270 rfl rfl rfl rfl dX12_must_13 ?_
      refine az_aload_n C 0 dX12_must_16 rfl ?_
      refine az_aload_n C 0 dX12_must_17 rfl ?_
      refine az_geti C o40 fl_X12_277 rfl dX12_must_18 ?_
      refine az_puti C o40 fl_X12_38 rfl rfl rfl rfl dX12_must_21 ?_
      refine az_sub [0] rfl ?_
      exact s_X12_must_24 C G (az_i (az_i M 40 19 1) 40 18 ((az_i M 40 19 1).1 40 14)) r h hp
theorem c_X12_must {l : Launch} {V : az_V} (hL : az_L V) (G : Nat) (p0 : Int32) (M : az_M) {r : az_M} (h : f_X12_must G p0 M = some r) : az_Ct l V yX12_must cX12_must 2 none 3 [.ref (az_ad V 40), .int p0] M (fun v M' => v = none ∧ M' = r) :=
  az_Ct.of (by decide) (Nat.le_of_ble_eq_true rfl) (fun Y _ _ C => s_X12_must_e C G p0 M r h ⟨rfl, rfl⟩)
