set_option maxHeartbeats 4000000 in
set_option maxRecDepth 100000 in
theorem s_X11_count_10 {Y : az_Y} {V : az_V} {post : Option Value → az_M → Prop} (C : az_C Y V cX11_count 2 RX11 (some .int) 1)  (M : az_M) (r : Int32) (h : f_X11_count_10 M = some r) (hp : post (some (.int r)) M) : AW Y V (az_end Y V post) 2 M 10 [] [] := by
  unfold f_X11_count_10 at h
  refine az_iconst (v := (-1)) C dX11_count_10 (by decide) ?_
  obtain rfl := Option.some.inj h
  exact az_iret C dX11_count_11 hp
set_option maxHeartbeats 4000000 in
set_option maxRecDepth 100000 in
theorem s_X11_count_96 {Y : az_Y} {V : az_V} {post : Option Value → az_M → Prop} (C : az_C Y V cX11_count 2 RX11 (some .int) 1) (x1 : Int32) (M : az_M) (r : Int32) (h : f_X11_count_96 x1 M = some r) (hp : post (some (.int r)) M) : AW Y V (az_end Y V post) 2 M 96 [(0, .ref (az_ad V 0)), (1, .int x1)] [] := by
  have o0 := C.hL.at 0 (ci := 11) rfl
  have o3 := C.hL.at 3 (ci := 0) rfl
  have o5 := C.hL.at 5 (ci := 9) rfl
  have o7 := C.hL.at 7 (ci := 3) rfl
  unfold f_X11_count_96 at h
  refine az_iload_n C 1 dX11_count_96 rfl ?_
  by_cases c12 : x1 = 4
  · have h := az_t c12 h
    refine az_tabIn (off := 27) C 124 dX11_count_97 (by rw [c12]; decide) (by rw [c12]; decide) (by rw [c12]; decide) (by decide) ?_
    refine az_aload_n C 0 dX11_count_124 rfl ?_
    refine az_getr (r := 3) C o0 fl_X11_21 rfl rfl dX11_count_125 ?_
    refine az_geti C o3 fl_X11_189 rfl dX11_count_128 ?_
    obtain rfl := Option.some.inj h
    exact az_iret C dX11_count_131 hp
  have h := az_f c12 h
  have nc12 := lv_neT c12 (a := 4) (by decide)
  by_cases c13 : x1 = 5
  · have h := az_t c13 h
    refine az_tabIn (off := 35) C 132 dX11_count_97 (by rw [c13]; decide) (by rw [c13]; decide) (by rw [c13]; decide) (by decide) ?_
    refine az_aload_n C 0 dX11_count_132 rfl ?_
    refine az_getr (r := 7) C o0 fl_X11_35 rfl rfl dX11_count_133 ?_
    refine az_geti C o7 fl_X11_243 rfl dX11_count_136 ?_
    obtain rfl := Option.some.inj h
    exact az_iret C dX11_count_139 hp
  have h := az_f c13 h
  have nc13 := lv_neT c13 (a := 5) (by decide)
  by_cases c14 : x1 = 6
  · have h := az_t c14 h
    refine az_tabIn (off := 43) C 140 dX11_count_97 (by rw [c14]; decide) (by rw [c14]; decide) (by rw [c14]; decide) (by decide) ?_
    refine az_aload_n C 0 dX11_count_140 rfl ?_
    refine az_getr (r := 5) C o0 fl_X11_28 rfl rfl dX11_count_141 ?_
    refine az_geti C o5 fl_X11_183 rfl dX11_count_144 ?_
    obtain rfl := Option.some.inj h
    exact az_iret C dX11_count_147 hp
  have h := az_f c14 h
  have nc14 := lv_neT c14 (a := 6) (by decide)
  refine az_tabOut C 148 dX11_count_97 (by omega) (by decide) ?_
  refine az_aload_n C 0 dX11_count_148 rfl ?_
  refine az_getr (r := 3) C o0 fl_X11_21 rfl rfl dX11_count_149 ?_
  refine az_geti C o3 fl_X11_228 rfl dX11_count_152 ?_
  obtain rfl := Option.some.inj h
  exact az_iret C dX11_count_155 hp
set_option maxHeartbeats 4000000 in
set_option maxRecDepth 100000 in
theorem s_X11_count_e {Y : az_Y} {V : az_V} {post : Option Value → az_M → Prop} (C : az_C Y V cX11_count 2 RX11 (some .int) 1) (p0 : Int32) (M : az_M) (r : Int32) (h : f_X11_count p0 M = some r) (hp : post (some (.int r)) M) : AW Y V (az_end Y V post) 2 M 0 [(0, .ref (az_ad V 0)), (1, .int p0)] [] := by
  have o0 := C.hL.at 0 (ci := 11) rfl
  have o1 := C.hL.at 1 (ci := 4) rfl
  have a2 := C.hL.ar 2 (t := 0) (len := 145) rfl
  have a12 := C.hL.ar 12 (t := 0) (len := 5) rfl
  unfold f_X11_count at h
  refine az_iload_n C 1 dX11_count_0 rfl ?_
  refine az_if_lt C 10 dX11_count_1 (by decide) (fun c1 => ?_) (fun c1 => ?_)
  · have h := az_t c1 h
    refine az_sub [] rfl ?_
    exact s_X11_count_10 C M r h hp
  · have h := az_f c1 h
    refine az_iload_n C 1 dX11_count_4 rfl ?_
    refine az_bipush (v := 19) C dX11_count_5 (by decide) ?_
    refine az_icmp_le C 12 dX11_count_7 (by decide) (fun c2 => ?_) (fun c2 => ?_)
    · have h := az_t c2 h
      refine az_iload_n C 1 dX11_count_12 rfl ?_
      refine az_iconst (v := 3) C dX11_count_13 (by decide) ?_
      refine az_icmp_gt C 30 dX11_count_14 (by decide) (fun c3 => ?_) (fun c3 => ?_)
      · have h := az_t c3 h
        refine az_iload_n C 1 dX11_count_30 rfl ?_
        refine az_bipush (v := 18) C dX11_count_31 (by decide) ?_
        refine az_icmp_lt C 52 dX11_count_33 (by decide) (fun c4 => ?_) (fun c4 => ?_)
        · have h := az_t c4 h
          refine az_iload_n C 1 dX11_count_52 rfl ?_
          refine az_bipush (v := 13) C dX11_count_53 (by decide) ?_
          refine az_icmp_lt C 74 dX11_count_55 (by decide) (fun c5 => ?_) (fun c5 => ?_)
          · have h := az_t c5 h
            refine az_iload_n C 1 dX11_count_74 rfl ?_
            refine az_bipush (v := 7) C dX11_count_75 (by decide) ?_
            refine az_icmp_lt C 96 dX11_count_77 (by decide) (fun c6 => ?_) (fun c6 => ?_)
            · have h := az_t c6 h
              exact s_X11_count_96 C p0 M r h hp
            · have h := az_f c6 h
              refine az_iload_n C 1 dX11_count_80 rfl ?_
              refine az_bipush (v := 11) C dX11_count_81 (by decide) ?_
              refine az_icmp_gt C 96 dX11_count_83 (by decide) (fun c7 => ?_) (fun c7 => ?_)
              · have h := az_t c7 h
                exact s_X11_count_96 C p0 M r h hp
              · have h := az_f c7 h
                refine az_aload_n C 0 dX11_count_86 rfl ?_
                refine az_getr (r := 12) C o0 fl_X11_47 rfl rfl dX11_count_87 ?_
                refine az_iload_n C 1 dX11_count_90 rfl ?_
                refine az_bipush (v := 7) C dX11_count_91 (by decide) ?_
                refine az_isub C dX11_count_93 ?_
                obtain ⟨g8, h⟩ := az_g h
                refine az_ild (k := (p0 - 7).toNatClampNeg) C a12 g8 rfl dX11_count_94 ?_
                obtain rfl := Option.some.inj h
                exact az_iret C dX11_count_95 hp
          · have h := az_f c5 h
            refine az_aload_n C 0 dX11_count_58 rfl ?_
            refine az_getr (r := 1) C o0 fl_X11_14 rfl rfl dX11_count_59 ?_
            refine az_getr (r := 2) C o1 fl_X11_120 rfl rfl dX11_count_62 ?_
            refine az_bipush (v := 16) C dX11_count_65 (by decide) ?_
            refine az_iload_n C 1 dX11_count_67 rfl ?_
            refine az_iadd C dX11_count_68 ?_
            refine az_bipush (v := 13) C dX11_count_69 (by decide) ?_
            refine az_isub C dX11_count_71 ?_
            obtain ⟨g9, h⟩ := az_g h
            refine az_ild (k := ((16 + p0) - 13).toNatClampNeg) C a2 g9 rfl dX11_count_72 ?_
            obtain rfl := Option.some.inj h
            exact az_iret C dX11_count_73 hp
        · have h := az_f c4 h
          refine az_aload_n C 0 dX11_count_36 rfl ?_
          refine az_getr (r := 1) C o0 fl_X11_14 rfl rfl dX11_count_37 ?_
          refine az_getr (r := 2) C o1 fl_X11_120 rfl rfl dX11_count_40 ?_
          refine az_bipush (v := 21) C dX11_count_43 (by decide) ?_
          refine az_iload_n C 1 dX11_count_45 rfl ?_
          refine az_iadd C dX11_count_46 ?_
          refine az_bipush (v := 18) C dX11_count_47 (by decide) ?_
          refine az_isub C dX11_count_49 ?_
          obtain ⟨g10, h⟩ := az_g h
          refine az_ild (k := ((21 + p0) - 18).toNatClampNeg) C a2 g10 rfl dX11_count_50 ?_
          obtain rfl := Option.some.inj h
          exact az_iret C dX11_count_51 hp
      · have h := az_f c3 h
        refine az_aload_n C 0 dX11_count_17 rfl ?_
        refine az_getr (r := 1) C o0 fl_X11_14 rfl rfl dX11_count_18 ?_
        refine az_getr (r := 2) C o1 fl_X11_120 rfl rfl dX11_count_21 ?_
        refine az_bipush (v := 23) C dX11_count_24 (by decide) ?_
        refine az_iload_n C 1 dX11_count_26 rfl ?_
        refine az_iadd C dX11_count_27 ?_
        obtain ⟨g11, h⟩ := az_g h
        refine az_ild (k := (23 + p0).toNatClampNeg) C a2 g11 rfl dX11_count_28 ?_
        obtain rfl := Option.some.inj h
        exact az_iret C dX11_count_29 hp
    · have h := az_f c2 h
      refine az_sub [] rfl ?_
      exact s_X11_count_10 C M r h hp
theorem c_X11_count {l : Launch} {V : az_V} (hL : az_L V) (p0 : Int32) (M : az_M) {r : Int32} (h : f_X11_count p0 M = some r) : az_Ct l V yX11_count cX11_count 2 (some .int) 1 [.ref (az_ad V 0), .int p0] M (fun v M' => v = some (.int r) ∧ M' = M) :=
  az_Ct.of (by decide) (Nat.le_of_ble_eq_true rfl) (fun Y _ _ C => s_X11_count_e C p0 M r h ⟨rfl, rfl⟩)
set_option maxHeartbeats 4000000 in
set_option maxRecDepth 100000 in
theorem s_X11_status_e {Y : az_Y} {V : az_V} {post : Option Value → az_M → Prop} (C : az_C Y V cX11_status 1 RX11 (some .int) 1)  (M : az_M) (r : Int32) (h : f_X11_status M = some r) (hp : post (some (.int r)) M) : AW Y V (az_end Y V post) 1 M 0 [(0, .ref (az_ad V 0))] [] := by
  have o0 := C.hL.at 0 (ci := 11) rfl
  unfold f_X11_status at h
  refine az_aload_n C 0 dX11_status_0 rfl ?_
  refine az_geti C o0 fl_X11_51 rfl dX11_status_1 ?_
  obtain rfl := Option.some.inj h
  exact az_iret C dX11_status_4 hp
theorem c_X11_status {l : Launch} {V : az_V} (hL : az_L V)  (M : az_M) {r : Int32} (h : f_X11_status M = some r) : az_Ct l V yX11_status cX11_status 1 (some .int) 1 [.ref (az_ad V 0)] M (fun v M' => v = some (.int r) ∧ M' = M) :=
  az_Ct.of (by decide) (Nat.le_of_ble_eq_true rfl) (fun Y _ _ C => s_X11_status_e C M r h ⟨rfl, rfl⟩)
