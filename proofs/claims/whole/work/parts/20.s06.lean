set_option maxHeartbeats 4000000 in
set_option maxRecDepth 100000 in
theorem s_X12_findOrders_78 {Y : az_Y} {V : az_V} {post : Option Value → az_M → Prop} (C : az_C Y V cX12_findOrders 4 RX12 none 9) (G : Nat) (K41 : (Int32 → Int32 → az_M → Option az_M)) (hK41 : ∀ (x1 : Int32) (x2 : Int32) (M : az_M) (r : az_M), K41 x1 x2 M = some r → post none r → AW Y V (az_end Y V post) 4 M 41 [(0, .ref (az_ad V 40)), (1, .int x1), (2, .int x2)] []) (x1 : Int32) (x2 : Int32) (s0 : Int32) (M : az_M) (r : az_M) (h : f_X12_findOrders_78 G K41 x1 x2 s0 M = some r) (hp : post none r) : AW Y V (az_end Y V post) 4 M 78 [(0, .ref (az_ad V 40)), (1, .int x1), (2, .int x2)] [.int s0, .ref (az_ad V 40)] := by
  have o40 := C.hL.at 40 (ci := 12) rfl
  unfold f_X12_findOrders_78 at h
  obtain ⟨q23, e24, h⟩ := az_b h
  refine az_callV C [.int s0] (c_X12_putWait C.hL G s0 M e24) (by decide) li_X12_506 o40 (by decide) rfl rfl (Nat.le_of_ble_eq_true rfl) dX12_findOrders_78 (fun v M1 hv => ?_)
  obtain ⟨rfl, rfl⟩ := hv
  refine az_eqst (st' := []) rfl ?_
  refine az_goto C 41 dX12_findOrders_81 (by decide) ?_
  exact hK41 x1 x2 q23 r h hp
set_option maxHeartbeats 4000000 in
set_option maxRecDepth 100000 in
theorem s_X12_findOrders_146 {Y : az_Y} {V : az_V} {post : Option Value → az_M → Prop} (C : az_C Y V cX12_findOrders 4 RX12 none 9) (G : Nat) (K41 : (Int32 → Int32 → az_M → Option az_M)) (hK41 : ∀ (x1 : Int32) (x2 : Int32) (M : az_M) (r : az_M), K41 x1 x2 M = some r → post none r → AW Y V (az_end Y V post) 4 M 41 [(0, .ref (az_ad V 40)), (1, .int x1), (2, .int x2)] []) (x1 : Int32) (x2 : Int32) (M : az_M) (r : az_M) (h : f_X12_findOrders_146 G K41 x1 x2 M = some r) (hp : post none r) : AW Y V (az_end Y V post) 4 M 146 [(0, .ref (az_ad V 40)), (1, .int x1), (2, .int x2)] [] := by
  unfold f_X12_findOrders_146 at h
  refine az_goto C 41 dX12_findOrders_146 (by decide) ?_
  exact hK41 x1 x2 M r h hp
set_option maxHeartbeats 4000000 in
set_option maxRecDepth 100000 in
theorem s_X12_findOrders_141 {Y : az_Y} {V : az_V} {post : Option Value → az_M → Prop} (C : az_C Y V cX12_findOrders 4 RX12 none 9) (G : Nat) (K41 : (Int32 → Int32 → az_M → Option az_M)) (hK41 : ∀ (x1 : Int32) (x2 : Int32) (M : az_M) (r : az_M), K41 x1 x2 M = some r → post none r → AW Y V (az_end Y V post) 4 M 41 [(0, .ref (az_ad V 40)), (1, .int x1), (2, .int x2)] []) (x1 : Int32) (x2 : Int32) (M : az_M) (r : az_M) (h : f_X12_findOrders_141 G K41 x1 x2 M = some r) (hp : post none r) : AW Y V (az_end Y V post) 4 M 141 [(0, .ref (az_ad V 40)), (1, .int x1), (2, .int x2)] [] := by
  have o40 := C.hL.at 40 (ci := 12) rfl
  unfold f_X12_findOrders_141 at h
  refine az_aload_n C 0 dX12_findOrders_141 rfl ?_
  refine az_iload_n C 2 dX12_findOrders_142 rfl ?_
  obtain ⟨q28, e29, h⟩ := az_b h
  refine az_callV C [.int x2] (c_X12_putWait C.hL G x2 M e29) (by decide) li_X12_506 o40 (by decide) rfl rfl (Nat.le_of_ble_eq_true rfl) dX12_findOrders_143 (fun v M1 hv => ?_)
  obtain ⟨rfl, rfl⟩ := hv
  refine az_eqst (st' := []) rfl ?_
  exact s_X12_findOrders_146 C G K41 hK41 x1 x2 q28 r h hp
set_option maxHeartbeats 4000000 in
set_option maxRecDepth 100000 in
theorem s_X12_findOrders_132 {Y : az_Y} {V : az_V} {post : Option Value → az_M → Prop} (C : az_C Y V cX12_findOrders 4 RX12 none 9) (G : Nat) (K41 : (Int32 → Int32 → az_M → Option az_M)) (hK41 : ∀ (x1 : Int32) (x2 : Int32) (M : az_M) (r : az_M), K41 x1 x2 M = some r → post none r → AW Y V (az_end Y V post) 4 M 41 [(0, .ref (az_ad V 40)), (1, .int x1), (2, .int x2)] []) (x1 : Int32) (x2 : Int32) (x3 : Int32) (M : az_M) (r : az_M) (h : f_X12_findOrders_132 G K41 x1 x2 x3 M = some r) (hp : post none r) : AW Y V (az_end Y V post) 4 M 132 [(0, .ref (az_ad V 40)), (1, .int x1), (2, .int x2), (3, .int x3)] [] := by
  have o40 := C.hL.at 40 (ci := 12) rfl
  unfold f_X12_findOrders_132 at h
  refine az_iload_n C 3 dX12_findOrders_132 rfl ?_
  refine az_if_eq C 141 dX12_findOrders_133 (by decide) (fun c25 => ?_) (fun c25 => ?_)
  · have h := az_t c25 h
    refine az_sub [0, 1, 2] rfl ?_
    exact s_X12_findOrders_141 C G K41 hK41 x1 x2 M r h hp
  · have h := az_f c25 h
    refine az_aload_n C 0 dX12_findOrders_136 rfl ?_
    refine az_iload_n C 1 dX12_findOrders_137 rfl ?_
    obtain ⟨q26, e27, h⟩ := az_b h
    refine az_callV C [.int x1] (c_X12_keepOrder C.hL G x1 M e27) (by decide) li_X12_503 o40 (by decide) rfl rfl (Nat.le_of_ble_eq_true rfl) dX12_findOrders_138 (fun v M1 hv => ?_)
    obtain ⟨rfl, rfl⟩ := hv
    refine az_eqst (st' := []) rfl ?_
    refine az_sub [0, 1, 2] rfl ?_
    exact s_X12_findOrders_141 C G K41 hK41 x1 x2 q26 r h hp
set_option maxHeartbeats 4000000 in
set_option maxRecDepth 100000 in
theorem s_X12_findOrders_41 {Y : az_Y} {V : az_V} {post : Option Value → az_M → Prop} (C : az_C Y V cX12_findOrders 4 RX12 none 9) (G : Nat) : ∀ (F : Nat) (x1 : Int32) (x2 : Int32) (M : az_M) (r : az_M), f_X12_findOrders_41 G F x1 x2 M = some r → post none r → AW Y V (az_end Y V post) 4 M 41 [(0, .ref (az_ad V 40)), (1, .int x1), (2, .int x2)] [] := by
  have o40 := C.hL.at 40 (ci := 12) rfl
  have a62 := C.hL.ar 62 (t := 0) (len := 7) rfl
  intro F
  induction F with
  | zero =>
    intro x1 x2 M r h
    exact absurd (show (none : Option az_M) = some r from h) (fun q => by cases q)
  | succ F ih =>
    intro x1 x2 M r h hp
    rw [f_X12_findOrders_41] at h
    refine az_iload_n C 2 dX12_findOrders_41 rfl ?_
    refine az_if_lt C 149 dX12_findOrders_42 (by decide) (fun c6 => ?_) (fun c6 => ?_)
    · have h := az_t c6 h
      obtain rfl := Option.some.inj h
      exact az_vret C rfl dX12_findOrders_149 hp
    · have h := az_f c6 h
      refine az_aload_n C 0 dX12_findOrders_45 rfl ?_
      refine az_getr (r := 62) C o40 fl_X12_119 rfl rfl dX12_findOrders_46 ?_
      refine az_iload_n C 2 dX12_findOrders_49 rfl ?_
      refine az_dup2 C dX12_findOrders_50 rfl rfl ?_
      obtain ⟨g7, h⟩ := az_g h
      refine az_ild (k := x2.toNatClampNeg) C a62 g7 rfl dX12_findOrders_51 ?_
      refine az_iconst (v := 1) C dX12_findOrders_52 (by decide) ?_
      refine az_iadd C dX12_findOrders_53 ?_
      obtain ⟨g8, h⟩ := az_g h
      refine az_ist (k := x2.toNatClampNeg) C a62 g8 rfl dX12_findOrders_54 ?_
      refine az_aload_n C 0 dX12_findOrders_55 rfl ?_
      refine az_getr (r := 62) C o40 fl_X12_119 rfl rfl dX12_findOrders_56 ?_
      refine az_iload_n C 2 dX12_findOrders_59 rfl ?_
      obtain ⟨g9, h⟩ := az_g h
      refine az_ild (k := x2.toNatClampNeg) C a62 g9 rfl dX12_findOrders_60 ?_
      refine az_iload_n C 1 dX12_findOrders_61 rfl ?_
      refine az_icmp_ne C 84 dX12_findOrders_62 (by decide) (fun c10 => ?_) (fun c10 => ?_)
      · have h := az_f c10 h
        refine az_aload_n C 0 dX12_findOrders_84 rfl ?_
        refine az_iload_n C 2 dX12_findOrders_85 rfl ?_
        obtain ⟨q11, e12, h⟩ := az_b h
        refine az_callV C [.int x2] (c_X12_isFresh C.hL G x2 (az_i M 62 x2.toNatClampNeg ((M.1 62 x2.toNatClampNeg) + 1)) e12) (by decide) li_X12_509 o40 (by decide) rfl rfl (Nat.le_of_ble_eq_true rfl) dX12_findOrders_86 (fun v M1 hv => ?_)
        obtain ⟨rfl, rfl⟩ := hv
        refine az_eqst (st' := [.int q11]) rfl ?_
        refine az_if_eq C 41 dX12_findOrders_89 (by decide) (fun c13 => ?_) (fun c13 => ?_)
        · have h := az_t c13 h
          exact ih x1 x2 (az_i M 62 x2.toNatClampNeg ((M.1 62 x2.toNatClampNeg) + 1)) r h hp
        · have h := az_f c13 h
          refine az_aload_n C 0 dX12_findOrders_92 rfl ?_
          refine az_aload_n C 0 dX12_findOrders_93 rfl ?_
          refine az_getr (r := 62) C o40 fl_X12_119 rfl rfl dX12_findOrders_94 ?_
          refine az_iload_n C 2 dX12_findOrders_97 rfl ?_
          obtain ⟨g14, h⟩ := az_g h
          refine az_ild (k := x2.toNatClampNeg) C a62 g14 rfl dX12_findOrders_98 ?_
          obtain ⟨q15, e16, h⟩ := az_b h
          refine az_callV C [.int ((az_i M 62 x2.toNatClampNeg ((M.1 62 x2.toNatClampNeg) + 1)).1 62 x2.toNatClampNeg)] (c_X12_isHad C.hL G ((az_i M 62 x2.toNatClampNeg ((M.1 62 x2.toNatClampNeg) + 1)).1 62 x2.toNatClampNeg) (az_i M 62 x2.toNatClampNeg ((M.1 62 x2.toNatClampNeg) + 1)) e16) (by decide) li_X12_512 o40 (by decide) rfl rfl (Nat.le_of_ble_eq_true rfl) dX12_findOrders_99 (fun v M1 hv => ?_)
          obtain ⟨rfl, rfl⟩ := hv
          refine az_eqst (st' := [.int q15.1]) rfl ?_
          refine az_istore_n C dX12_findOrders_102 rfl (by decide) rfl ?_
          refine az_iload_n C 0 dX12_findOrders_103 rfl ?_
          refine az_if_eq C 132 dX12_findOrders_104 (by decide) (fun c17 => ?_) (fun c17 => ?_)
          · have h := az_t c17 h
            refine az_sub [1, 2, 3, 0] rfl ?_
            exact s_X12_findOrders_132 C G (f_X12_findOrders_41 G F) ih x1 x2 q15.1 q15.2 r h hp
          · have h := az_f c17 h
            refine az_iload_n C 3 dX12_findOrders_107 rfl ?_
            refine az_iload_n C 2 dX12_findOrders_108 rfl ?_
            refine az_iconst (v := 1) C dX12_findOrders_109 (by decide) ?_
            refine az_isub C dX12_findOrders_110 ?_
            refine az_icmp_ge C 132 dX12_findOrders_111 (by decide) (fun c18 => ?_) (fun c18 => ?_)
            · have h := az_t c18 h
              refine az_sub [1, 2, 3, 0] rfl ?_
              exact s_X12_findOrders_132 C G (f_X12_findOrders_41 G F) ih x1 x2 q15.1 q15.2 r h hp
            · have h := az_f c18 h
              refine az_iinc (v := (x2 + 1)) C 3 dX12_findOrders_114 rfl rfl (by decide) rfl ?_
              refine az_aload_n C 2 dX12_findOrders_117 rfl ?_
              refine az_iload_n C 0 dX12_findOrders_118 rfl ?_
              obtain ⟨q19, e20, h⟩ := az_b h
              refine az_callV C [.int (x2 + 1)] (c_X12_keepWait C.hL G (x2 + 1) q15.2 e20) (by decide) li_X12_500 o40 (by decide) rfl rfl (Nat.le_of_ble_eq_true rfl) dX12_findOrders_119 (fun v M1 hv => ?_)
              obtain ⟨rfl, rfl⟩ := hv
              refine az_eqst (st' := []) rfl ?_
              refine az_aload_n C 2 dX12_findOrders_122 rfl ?_
              refine az_getr (r := 62) C o40 fl_X12_119 rfl rfl dX12_findOrders_123 ?_
              refine az_iload_n C 0 dX12_findOrders_126 rfl ?_
              refine az_iconst (v := (-1)) C dX12_findOrders_127 (by decide) ?_
              obtain ⟨g21, h⟩ := az_g h
              refine az_ist (k := (x2 + 1).toNatClampNeg) C a62 g21 rfl dX12_findOrders_128 ?_
              refine az_goto C 146 dX12_findOrders_129 (by decide) ?_
              refine az_sub [2, 3, 0] rfl ?_
              exact s_X12_findOrders_146 C G (f_X12_findOrders_41 G F) ih x1 (x2 + 1) (az_i q19 62 ((x2 + 1).toNatClampNeg) (-1)) r h hp
      · have h := az_t c10 h
        refine az_iinc (v := (x2 + (-1))) C 2 dX12_findOrders_65 rfl rfl (by decide) rfl ?_
        refine az_aload_n C 1 dX12_findOrders_68 rfl ?_
        refine az_iload_n C 0 dX12_findOrders_69 rfl ?_
        refine az_if_ge C 77 dX12_findOrders_70 (by decide) (fun c22 => ?_) (fun c22 => ?_)
        · have h := az_t c22 h
          refine az_iload_n C 0 dX12_findOrders_77 rfl ?_
          refine az_sub [1, 2, 0] rfl ?_
          exact s_X12_findOrders_78 C G (f_X12_findOrders_41 G F) ih x1 (x2 + (-1)) (x2 + (-1)) (az_i M 62 x2.toNatClampNeg ((M.1 62 x2.toNatClampNeg) + 1)) r h hp
        · have h := az_f c22 h
          refine az_iconst (v := 0) C dX12_findOrders_73 (by decide) ?_
          refine az_goto C 78 dX12_findOrders_74 (by decide) ?_
          refine az_sub [1, 2, 0] rfl ?_
          exact s_X12_findOrders_78 C G (f_X12_findOrders_41 G F) ih x1 (x2 + (-1)) 0 (az_i M 62 x2.toNatClampNeg ((M.1 62 x2.toNatClampNeg) + 1)) r h hp
set_option maxHeartbeats 4000000 in
set_option maxRecDepth 100000 in
theorem s_X12_findOrders_e {Y : az_Y} {V : az_V} {post : Option Value → az_M → Prop} (C : az_C Y V cX12_findOrders 4 RX12 none 9) (G : Nat)  (M : az_M) (r : az_M) (h : f_X12_findOrders G M = some r) (hp : post none r) : AW Y V (az_end Y V post) 4 M 0 [(0, .ref (az_ad V 40))] [] := by
  have o40 := C.hL.at 40 (ci := 12) rfl
  have a42 := C.hL.ar 42 (t := 0) (len := 5550) rfl
  have a62 := C.hL.ar 62 (t := 0) (len := 7) rfl
  unfold f_X12_findOrders at h
  refine az_aload_n C 0 dX12_findOrders_0 rfl ?_
  refine az_getr (r := 42) C o40 fl_X12_13 rfl rfl dX12_findOrders_1 ?_
  refine az_iconst (v := 2) C dX12_findOrders_4 (by decide) ?_
  refine az_ild (k := 2) C a42 (by decide) (by decide) dX12_findOrders_5 ?_
  refine az_istore_n C dX12_findOrders_6 rfl (by decide) rfl ?_
  refine az_aload_n C 1 dX12_findOrders_7 rfl ?_
  refine az_iconst (v := 0) C dX12_findOrders_8 (by decide) ?_
  refine az_puti C o40 fl_X12_494 rfl rfl rfl rfl dX12_findOrders_9 ?_
  refine az_aload_n C 1 dX12_findOrders_12 rfl ?_
  refine az_iconst (v := (-1)) C dX12_findOrders_13 (by decide) ?_
  refine az_puti C o40 fl_X12_497 rfl rfl rfl rfl dX12_findOrders_14 ?_
  refine az_aload_n C 1 dX12_findOrders_17 rfl ?_
  refine az_iconst (v := 0) C dX12_findOrders_18 (by decide) ?_
  obtain ⟨q1, e2, h⟩ := az_b h
  refine az_callV C [.int 0] (c_X12_keepWait C.hL G 0 (az_i (az_i M 40 48 0) 40 47 (-1)) e2) (by decide) li_X12_500 o40 (by decide) rfl rfl (Nat.le_of_ble_eq_true rfl) dX12_findOrders_19 (fun v M1 hv => ?_)
  obtain ⟨rfl, rfl⟩ := hv
  refine az_eqst (st' := []) rfl ?_
  refine az_iload_n C 0 dX12_findOrders_22 rfl ?_
  refine az_if_ne C 32 dX12_findOrders_23 (by decide) (fun c3 => ?_) (fun c3 => ?_)
  · have h := az_f c3 h
    refine az_iconst (v := 0) C dX12_findOrders_32 (by decide) ?_
    refine az_istore_n C dX12_findOrders_33 rfl (by decide) rfl ?_
    refine az_aload_n C 2 dX12_findOrders_34 rfl ?_
    refine az_getr (r := 62) C o40 fl_X12_119 rfl rfl dX12_findOrders_35 ?_
    refine az_iconst (v := 0) C dX12_findOrders_38 (by decide) ?_
    refine az_iconst (v := (-1)) C dX12_findOrders_39 (by decide) ?_
    refine az_ist (k := 0) C a62 (by decide) (by decide) dX12_findOrders_40 ?_
    refine az_sub [2, 1, 0] rfl ?_
    exact s_X12_findOrders_41 C G G (M.1 42 2) 0 (az_i q1 62 0 (-1)) r h hp
  · have h := az_t c3 h
    refine az_aload_n C 1 dX12_findOrders_26 rfl ?_
    refine az_iconst (v := 0) C dX12_findOrders_27 (by decide) ?_
    obtain ⟨q4, e5, h⟩ := az_b h
    refine az_callV C [.int 0] (c_X12_keepOrder C.hL G 0 q1 e5) (by decide) li_X12_503 o40 (by decide) rfl rfl (Nat.le_of_ble_eq_true rfl) dX12_findOrders_28 (fun v M1 hv => ?_)
    obtain ⟨rfl, rfl⟩ := hv
    refine az_eqst (st' := []) rfl ?_
    obtain rfl := Option.some.inj h
    exact az_vret C rfl dX12_findOrders_31 hp
theorem c_X12_findOrders {l : Launch} {V : az_V} (hL : az_L V) (G : Nat)  (M : az_M) {r : az_M} (h : f_X12_findOrders G M = some r) : az_Ct l V yX12_findOrders cX12_findOrders 4 none 9 [.ref (az_ad V 40)] M (fun v M' => v = none ∧ M' = r) :=
  az_Ct.of (by decide) (Nat.le_of_ble_eq_true rfl) (fun Y _ _ C => s_X12_findOrders_e C G M r h ⟨rfl, rfl⟩)
set_option maxHeartbeats 4000000 in
set_option maxRecDepth 100000 in
theorem s_X12_queue_79 {Y : az_Y} {V : az_V} {post : Option Value → az_M → Prop} (C : az_C Y V cX12_queue 3 RX12 (some .int) 10) (G : Nat) (s0 : Int32) (M : az_M) (r : (Int32 × az_M)) (h : f_X12_queue_79 G s0 M = some r) (hp : post (some (.int r.1)) r.2) : AW Y V (az_end Y V post) 3 M 79 [] [.int s0] := by
  unfold f_X12_queue_79 at h
  obtain rfl := Option.some.inj h
  exact az_iret C dX12_queue_79 hp
set_option maxHeartbeats 4000000 in
set_option maxRecDepth 100000 in
theorem s_X12_queue_67 {Y : az_Y} {V : az_V} {post : Option Value → az_M → Prop} (C : az_C Y V cX12_queue 3 RX12 (some .int) 10) (G : Nat) (x1 : Int32) (M : az_M) (r : (Int32 × az_M)) (h : f_X12_queue_67 G x1 M = some r) (hp : post (some (.int r.1)) r.2) : AW Y V (az_end Y V post) 3 M 67 [(0, .ref (az_ad V 40)), (1, .int x1)] [] := by
  have o40 := C.hL.at 40 (ci := 12) rfl
  unfold f_X12_queue_67 at h
  refine az_iload_n C 1 dX12_queue_67 rfl ?_
  refine az_if_ne C 78 dX12_queue_68 (by decide) (fun c17 => ?_) (fun c17 => ?_)
  · have h := az_f c17 h
    refine az_iconst (v := (-1)) C dX12_queue_78 (by decide) ?_
    refine az_sub [] rfl ?_
    exact s_X12_queue_79 C G (-1) M r h hp
  · have h := az_t c17 h
    refine az_aload_n C 0 dX12_queue_71 rfl ?_
    refine az_geti C o40 fl_X12_494 rfl dX12_queue_72 ?_
    refine az_goto C 79 dX12_queue_75 (by decide) ?_
    refine az_sub [] rfl ?_
    exact s_X12_queue_79 C G (M.1 40 48) M r h hp
set_option maxHeartbeats 4000000 in
set_option maxRecDepth 100000 in
theorem s_X12_queue_119 {Y : az_Y} {V : az_V} {post : Option Value → az_M → Prop} (C : az_C Y V cX12_queue 3 RX12 (some .int) 10) (G : Nat) (s0 : Int32) (M : az_M) (r : (Int32 × az_M)) (h : f_X12_queue_119 G s0 M = some r) (hp : post (some (.int r.1)) r.2) : AW Y V (az_end Y V post) 3 M 119 [] [.int s0] := by
  unfold f_X12_queue_119 at h
  obtain rfl := Option.some.inj h
  exact az_iret C dX12_queue_119 hp
set_option maxHeartbeats 4000000 in
set_option maxRecDepth 100000 in
theorem s_X12_queue_52 {Y : az_Y} {V : az_V} {post : Option Value → az_M → Prop} (C : az_C Y V cX12_queue 3 RX12 (some .int) 10) (G : Nat) (x1 : Int32) (M : az_M) (r : (Int32 × az_M)) (h : f_X12_queue_52 G x1 M = some r) (hp : post (some (.int r.1)) r.2) : AW Y V (az_end Y V post) 3 M 52 [(0, .ref (az_ad V 40)), (1, .int x1)] [] := by
  have o40 := C.hL.at 40 (ci := 12) rfl
  have a63 := C.hL.ar 63 (t := 0) (len := 7) rfl
  have a64 := C.hL.ar 64 (t := 0) (len := 7) rfl
  unfold f_X12_queue_52 at h
  refine az_aload_n C 0 dX12_queue_52 rfl ?_
  obtain ⟨q9, e10, h⟩ := az_b h
  refine az_callV C [] (c_X12_findOrders C.hL G M e10) (by decide) li_X12_515 o40 (by decide) rfl rfl (Nat.le_of_ble_eq_true rfl) dX12_queue_53 (fun v M1 hv => ?_)
  obtain ⟨rfl, rfl⟩ := hv
  refine az_eqst (st' := []) rfl ?_
  refine az_iload_n C 1 dX12_queue_56 rfl ?_
  refine az_if_eq C 67 dX12_queue_57 (by decide) (fun c11 => ?_) (fun c11 => ?_)
  · have h := az_t c11 h
    exact s_X12_queue_67 C G x1 q9 r h hp
  · have h := az_f c11 h
    refine az_aload_n C 0 dX12_queue_60 rfl ?_
    refine az_geti C o40 fl_X12_494 rfl dX12_queue_61 ?_
    refine az_if_ne C 80 dX12_queue_64 (by decide) (fun c12 => ?_) (fun c12 => ?_)
    · have h := az_f c12 h
      refine az_iload_n C 1 dX12_queue_80 rfl ?_
      refine az_bipush (v := 21) C dX12_queue_81 (by decide) ?_
      refine az_icmp_ne C 93 dX12_queue_83 (by decide) (fun c13 => ?_) (fun c13 => ?_)
      · have h := az_f c13 h
        refine az_iload_n C 1 dX12_queue_93 rfl ?_
        refine az_bipush (v := 11) C dX12_queue_94 (by decide) ?_
        refine az_icmp_ge C 110 dX12_queue_96 (by decide) (fun c14 => ?_) (fun c14 => ?_)
        · have h := az_t c14 h
          refine az_aload_n C 0 dX12_queue_110 rfl ?_
          refine az_getr (r := 64) C o40 fl_X12_125 rfl rfl dX12_queue_111 ?_
          refine az_iload_n C 1 dX12_queue_114 rfl ?_
          refine az_bipush (v := 11) C dX12_queue_115 (by decide) ?_
          refine az_isub C dX12_queue_117 ?_
          obtain ⟨g15, h⟩ := az_g h
          refine az_ild (k := (x1 - 11).toNatClampNeg) C a64 g15 rfl dX12_queue_118 ?_
          refine az_sub [] rfl ?_
          exact s_X12_queue_119 C G (q9.1 64 ((x1 - 11).toNatClampNeg)) q9 r h hp
        · have h := az_f c14 h
          refine az_aload_n C 0 dX12_queue_99 rfl ?_
          refine az_getr (r := 63) C o40 fl_X12_122 rfl rfl dX12_queue_100 ?_
          refine az_iload_n C 1 dX12_queue_103 rfl ?_
          refine az_iconst (v := 1) C dX12_queue_104 (by decide) ?_
          refine az_isub C dX12_queue_105 ?_
          obtain ⟨g16, h⟩ := az_g h
          refine az_ild (k := (x1 - 1).toNatClampNeg) C a63 g16 rfl dX12_queue_106 ?_
          refine az_goto C 119 dX12_queue_107 (by decide) ?_
          refine az_sub [] rfl ?_
          exact s_X12_queue_119 C G (q9.1 63 ((x1 - 1).toNatClampNeg)) q9 r h hp
      · have h := az_t c13 h
        refine az_aload_n C 0 dX12_queue_86 rfl ?_
        refine az_geti C o40 fl_X12_497 rfl dX12_queue_87 ?_
        refine az_goto C 119 dX12_queue_90 (by decide) ?_
        refine az_sub [] rfl ?_
        exact s_X12_queue_119 C G (q9.1 40 47) q9 r h hp
    · have h := az_t c12 h
      exact s_X12_queue_67 C G x1 q9 r h hp
set_option maxHeartbeats 4000000 in
set_option maxRecDepth 100000 in
theorem s_X12_queue_e {Y : az_Y} {V : az_V} {post : Option Value → az_M → Prop} (C : az_C Y V cX12_queue 3 RX12 (some .int) 10) (G : Nat) (p0 : Int32) (M : az_M) (r : (Int32 × az_M)) (h : f_X12_queue G p0 M = some r) (hp : post (some (.int r.1)) r.2) : AW Y V (az_end Y V post) 3 M 0 [(0, .ref (az_ad V 40)), (1, .int p0)] [] := by
  have o40 := C.hL.at 40 (ci := 12) rfl
  have a42 := C.hL.ar 42 (t := 0) (len := 5550) rfl
  unfold f_X12_queue at h
  refine az_aload_n C 0 dX12_queue_0 rfl ?_
  refine az_iconst (v := 0) C dX12_queue_1 (by decide) ?_
  refine az_puti C o40 fl_X12_149 rfl rfl rfl rfl dX12_queue_2 ?_
  refine az_aload_n C 0 dX12_queue_5 rfl ?_
  refine az_getr (r := 42) C o40 fl_X12_13 rfl rfl dX12_queue_6 ?_
  refine az_iconst (v := 2) C dX12_queue_9 (by decide) ?_
  refine az_ild (k := 2) C a42 (by decide) (by decide) dX12_queue_10 ?_
  refine az_istore_n C dX12_queue_11 rfl (by decide) rfl ?_
  refine az_iload_n C 2 dX12_queue_12 rfl ?_
  refine az_if_eq C 52 dX12_queue_13 (by decide) (fun c1 => ?_) (fun c1 => ?_)
  · have h := az_t c1 h
    refine az_sub [1, 2] rfl ?_
    exact s_X12_queue_52 C G p0 (az_i M 40 0 0) r h hp
  · have h := az_f c1 h
    refine az_iload_n C 2 dX12_queue_16 rfl ?_
    refine az_bipush (v := 21) C dX12_queue_17 (by decide) ?_
    refine az_icmp_eq C 52 dX12_queue_19 (by decide) (fun c2 => ?_) (fun c2 => ?_)
    · have h := az_t c2 h
      refine az_sub [1, 2] rfl ?_
      exact s_X12_queue_52 C G p0 (az_i M 40 0 0) r h hp
    · have h := az_f c2 h
      refine az_iload_n C 2 dX12_queue_22 rfl ?_
      refine az_i2l C dX12_queue_23 ?_
      refine az_lconst (v := 1) C dX12_queue_24 (by decide) ?_
      refine az_iload_n C 0 dX12_queue_25 rfl ?_
      refine az_i2l C dX12_queue_26 ?_
      obtain ⟨q3, e4, h⟩ := az_b h
      refine az_callS C [.long p0.toInt64, .long 1, .long (((az_i M 40 0 0).1 42 2).toInt64)] (c_X12_in C.hL p0.toInt64 1 (((az_i M 40 0 0).1 42 2).toInt64) (az_i M 40 0 0) e4) (by decide) li_X12_169 rfl rfl (Nat.le_of_ble_eq_true rfl) dX12_queue_27 (fun v M1 hv => ?_)
      obtain ⟨rfl, rfl⟩ := hv
      refine az_eqst (st' := [.int q3]) rfl ?_
      refine az_if_ne C 52 dX12_queue_30 (by decide) (fun c5 => ?_) (fun c5 => ?_)
      · have h := az_f c5 h
        refine az_sub [1, 2] rfl ?_
        exact s_X12_queue_52 C G p0 (az_i M 40 0 0) r h hp
      · have h := az_t c5 h
        refine az_iload_n C 2 dX12_queue_33 rfl ?_
        refine az_i2l C dX12_queue_34 ?_
        refine az_ldc2 C ck_X12_361 dX12_queue_35 ?_
        refine az_ldc2 C ck_X12_224 dX12_queue_38 ?_
        refine az_iload_n C 0 dX12_queue_41 rfl ?_
        refine az_i2l C dX12_queue_42 ?_
        refine az_ladd C dX12_queue_43 ?_
        obtain ⟨q6, e7, h⟩ := az_b h
        refine az_callS C [.long p0.toInt64, .long 11, .long (10 + ((az_i M 40 0 0).1 42 2).toInt64)] (c_X12_in C.hL p0.toInt64 11 (10 + ((az_i M 40 0 0).1 42 2).toInt64) (az_i M 40 0 0) e7) (by decide) li_X12_169 rfl rfl (Nat.le_of_ble_eq_true rfl) dX12_queue_44 (fun v M1 hv => ?_)
        obtain ⟨rfl, rfl⟩ := hv
        refine az_eqst (st' := [.int q6]) rfl ?_
        refine az_if_ne C 52 dX12_queue_47 (by decide) (fun c8 => ?_) (fun c8 => ?_)
        · have h := az_f c8 h
          refine az_sub [1, 2] rfl ?_
          exact s_X12_queue_52 C G p0 (az_i M 40 0 0) r h hp
        · have h := az_t c8 h
          refine az_iconst (v := (-1)) C dX12_queue_50 (by decide) ?_
          obtain rfl := Option.some.inj h
          exact az_iret C dX12_queue_51 hp
theorem c_X12_queue {l : Launch} {V : az_V} (hL : az_L V) (G : Nat) (p0 : Int32) (M : az_M) {r : (Int32 × az_M)} (h : f_X12_queue G p0 M = some r) : az_Ct l V yX12_queue cX12_queue 3 (some .int) 10 [.ref (az_ad V 40), .int p0] M (fun v M' => v = some (.int r.1) ∧ M' = r.2) :=
  az_Ct.of (by decide) (Nat.le_of_ble_eq_true rfl) (fun Y _ _ C => s_X12_queue_e C G p0 M r h ⟨rfl, rfl⟩)
set_option maxHeartbeats 4000000 in
set_option maxRecDepth 100000 in
theorem s_X12_spades_50 {Y : az_Y} {V : az_V} {post : Option Value → az_M → Prop} (C : az_C Y V cX12_spades 4 RX12 (some .int) 10) (G : Nat) (K15 : (Int32 → Int32 → Int32 → az_M → Option (Int32 × az_M))) (hK15 : ∀ (x1 : Int32) (x2 : Int32) (x3 : Int32) (M : az_M) (r : (Int32 × az_M)), K15 x1 x2 x3 M = some r → post (some (.int r.1)) r.2 → AW Y V (az_end Y V post) 4 M 15 [(0, .ref (az_ad V 40)), (1, .int x1), (2, .int x2), (3, .int x3)] []) (x1 : Int32) (x3 : Int32) (s0 : Int32) (M : az_M) (r : (Int32 × az_M)) (h : f_X12_spades_50 G K15 x1 x3 s0 M = some r) (hp : post (some (.int r.1)) r.2) : AW Y V (az_end Y V post) 4 M 50 [(0, .ref (az_ad V 40)), (1, .int x1), (3, .int x3)] [.int s0] := by
  unfold f_X12_spades_50 at h
  refine az_istore_n C dX12_spades_50 rfl (by decide) rfl ?_
  refine az_iinc (v := (x3 + 1)) C 3 dX12_spades_51 rfl rfl (by decide) rfl ?_
  refine az_goto C 15 dX12_spades_54 (by decide) ?_
  refine az_sub [2, 3, 1, 0] rfl ?_
  exact hK15 x1 s0 (x3 + 1) M r h hp
set_option maxHeartbeats 4000000 in
set_option maxRecDepth 100000 in
theorem s_X12_spades_57 {Y : az_Y} {V : az_V} {post : Option Value → az_M → Prop} (C : az_C Y V cX12_spades 4 RX12 (some .int) 10) (G : Nat) (x1 : Int32) (x2 : Int32) (M : az_M) (r : (Int32 × az_M)) (h : f_X12_spades_57 G x1 x2 M = some r) (hp : post (some (.int r.1)) r.2) : AW Y V (az_end Y V post) 4 M 57 [(0, .ref (az_ad V 40)), (1, .int x1), (2, .int x2)] [] := by
  have o40 := C.hL.at 40 (ci := 12) rfl
  have a42 := C.hL.ar 42 (t := 0) (len := 5550) rfl
  unfold f_X12_spades_57 at h
  refine az_aload_n C 0 dX12_spades_57 rfl ?_
  refine az_getr (r := 42) C o40 fl_X12_13 rfl rfl dX12_spades_58 ?_
  refine az_bipush (v := 9) C dX12_spades_61 (by decide) ?_
  refine az_iload_n C 1 dX12_spades_63 rfl ?_
  refine az_ist (k := 9) C a42 (by decide) (by decide) dX12_spades_64 ?_
  refine az_iload_n C 2 dX12_spades_65 rfl ?_
  obtain rfl := Option.some.inj h
  exact az_iret C dX12_spades_66 hp
set_option maxHeartbeats 4000000 in
set_option maxRecDepth 100000 in
theorem s_X12_spades_15 {Y : az_Y} {V : az_V} {post : Option Value → az_M → Prop} (C : az_C Y V cX12_spades 4 RX12 (some .int) 10) (G : Nat) : ∀ (F : Nat) (x1 : Int32) (x2 : Int32) (x3 : Int32) (M : az_M) (r : (Int32 × az_M)), f_X12_spades_15 G F x1 x2 x3 M = some r → post (some (.int r.1)) r.2 → AW Y V (az_end Y V post) 4 M 15 [(0, .ref (az_ad V 40)), (1, .int x1), (2, .int x2), (3, .int x3)] [] := by
  have o40 := C.hL.at 40 (ci := 12) rfl
  have a42 := C.hL.ar 42 (t := 0) (len := 5550) rfl
  intro F
  induction F with
  | zero =>
    intro x1 x2 x3 M r h
    exact absurd (show (none : Option (Int32 × az_M)) = some r from h) (fun q => by cases q)
  | succ F ih =>
    intro x1 x2 x3 M r h hp
    rw [f_X12_spades_15] at h
    refine az_iload_n C 3 dX12_spades_15 rfl ?_
    refine az_bipush (v := 10) C dX12_spades_16 (by decide) ?_
    refine az_icmp_ge C 57 dX12_spades_18 (by decide) (fun c3 => ?_) (fun c3 => ?_)
    · have h := az_t c3 h
      refine az_sub [0, 1, 2] rfl ?_
      exact s_X12_spades_57 C G x1 x2 M r h hp
    · have h := az_f c3 h
      refine az_iload_n C 2 dX12_spades_21 rfl ?_
      refine az_iconst (v := (-1)) C dX12_spades_22 (by decide) ?_
      refine az_icmp_ne C 57 dX12_spades_23 (by decide) (fun c4 => ?_) (fun c4 => ?_)
      · have h := az_f c4 h
        refine az_sub [0, 1, 2] rfl ?_
        exact s_X12_spades_57 C G x1 x2 M r h hp
      · have h := az_t c4 h
        refine az_aload_n C 0 dX12_spades_26 rfl ?_
        refine az_getr (r := 42) C o40 fl_X12_13 rfl rfl dX12_spades_27 ?_
        refine az_bipush (v := 9) C dX12_spades_30 (by decide) ?_
        refine az_iload_n C 3 dX12_spades_32 rfl ?_
        refine az_ist (k := 9) C a42 (by decide) (by decide) dX12_spades_33 ?_
        refine az_aload_n C 0 dX12_spades_34 rfl ?_
        obtain ⟨q5, e6, h⟩ := az_b h
        refine az_callV C [] (c_X12_findOrders C.hL G (az_i M 42 9 x3) e6) (by decide) li_X12_515 o40 (by decide) rfl rfl (Nat.le_of_ble_eq_true rfl) dX12_spades_35 (fun v M1 hv => ?_)
        obtain ⟨rfl, rfl⟩ := hv
        refine az_eqst (st' := []) rfl ?_
        refine az_aload_n C 0 dX12_spades_38 rfl ?_
        refine az_geti C o40 fl_X12_494 rfl dX12_spades_39 ?_
        refine az_if_le C 49 dX12_spades_42 (by decide) (fun c7 => ?_) (fun c7 => ?_)
        · have h := az_t c7 h
          refine az_iconst (v := (-1)) C dX12_spades_49 (by decide) ?_
          refine az_sub [0, 1, 3] rfl ?_
          exact s_X12_spades_50 C G (f_X12_spades_15 G F) ih x1 x3 (-1) q5 r h hp
        · have h := az_f c7 h
          refine az_iload_n C 3 dX12_spades_45 rfl ?_
          refine az_goto C 50 dX12_spades_46 (by decide) ?_
          refine az_sub [0, 1, 3] rfl ?_
          exact s_X12_spades_50 C G (f_X12_spades_15 G F) ih x1 x3 x3 q5 r h hp
set_option maxHeartbeats 4000000 in
set_option maxRecDepth 100000 in
theorem s_X12_spades_e {Y : az_Y} {V : az_V} {post : Option Value → az_M → Prop} (C : az_C Y V cX12_spades 4 RX12 (some .int) 10) (G : Nat)  (M : az_M) (r : (Int32 × az_M)) (h : f_X12_spades G M = some r) (hp : post (some (.int r.1)) r.2) : AW Y V (az_end Y V post) 4 M 0 [(0, .ref (az_ad V 40))] [] := by
  have o40 := C.hL.at 40 (ci := 12) rfl
  unfold f_X12_spades at h
  refine az_aload_n C 0 dX12_spades_0 rfl ?_
  refine az_iconst (v := 0) C dX12_spades_1 (by decide) ?_
  refine az_puti C o40 fl_X12_149 rfl rfl rfl rfl dX12_spades_2 ?_
  refine az_aload_n C 0 dX12_spades_5 rfl ?_
  refine az_iconst (v := 3) C dX12_spades_6 (by decide) ?_
  obtain ⟨q1, e2, h⟩ := az_b h
  refine az_callV C [.int 3] (c_X12_term C.hL 3 (az_i M 40 0 0) e2) (by decide) li_X12_189 o40 (by decide) rfl rfl (Nat.le_of_ble_eq_true rfl) dX12_spades_7 (fun v M1 hv => ?_)
  obtain ⟨rfl, rfl⟩ := hv
  refine az_eqst (st' := [.int q1]) rfl ?_
  refine az_istore_n C dX12_spades_10 rfl (by decide) rfl ?_
  refine az_iconst (v := (-1)) C dX12_spades_11 (by decide) ?_
  refine az_istore_n C dX12_spades_12 rfl (by decide) rfl ?_
  refine az_iconst (v := 1) C dX12_spades_13 (by decide) ?_
  refine az_istore_n C dX12_spades_14 rfl (by decide) rfl ?_
  refine az_sub [3, 2, 1, 0] rfl ?_
  exact s_X12_spades_15 C G G q1 (-1) 1 (az_i M 40 0 0) r h hp
theorem c_X12_spades {l : Launch} {V : az_V} (hL : az_L V) (G : Nat)  (M : az_M) {r : (Int32 × az_M)} (h : f_X12_spades G M = some r) : az_Ct l V yX12_spades cX12_spades 4 (some .int) 10 [.ref (az_ad V 40)] M (fun v M' => v = some (.int r.1) ∧ M' = r.2) :=
  az_Ct.of (by decide) (Nat.le_of_ble_eq_true rfl) (fun Y _ _ C => s_X12_spades_e C G M r h ⟨rfl, rfl⟩)
set_option maxHeartbeats 4000000 in
set_option maxRecDepth 100000 in
theorem s_X12_free_133 {Y : az_Y} {V : az_V} {post : Option Value → az_M → Prop} (C : az_C Y V cX12_free 8 RX12 (some .int) 2) (G : Nat) (K24 : (Int32 → Int32 → Int32 → Int32 → az_M → Option (Int32 × az_M))) (K46 : (Int32 → Int32 → Int32 → Int32 → Int32 → Int32 → Int32 → az_M → Option (Int32 × az_M))) (hK24 : ∀ (x1 : Int32) (x2 : Int32) (x3 : Int32) (x4 : Int32) (M : az_M) (r : (Int32 × az_M)), K24 x1 x2 x3 x4 M = some r → post (some (.int r.1)) r.2 → AW Y V (az_end Y V post) 8 M 24 [(0, .ref (az_ad V 40)), (1, .int x1), (2, .int x2), (3, .int x3), (4, .int x4)] []) (hK46 : ∀ (x1 : Int32) (x2 : Int32) (x3 : Int32) (x4 : Int32) (x5 : Int32) (x6 : Int32) (x7 : Int32) (M : az_M) (r : (Int32 × az_M)), K46 x1 x2 x3 x4 x5 x6 x7 M = some r → post (some (.int r.1)) r.2 → AW Y V (az_end Y V post) 8 M 46 [(0, .ref (az_ad V 40)), (1, .int x1), (2, .int x2), (3, .int x3), (4, .int x4), (5, .int x5), (6, .int x6), (7, .int x7)] []) (x1 : Int32) (x2 : Int32) (x3 : Int32) (x4 : Int32) (x5 : Int32) (x6 : Int32) (x7 : Int32) (M : az_M) (r : (Int32 × az_M)) (h : f_X12_free_133 G K24 K46 x1 x2 x3 x4 x5 x6 x7 M = some r) (hp : post (some (.int r.1)) r.2) : AW Y V (az_end Y V post) 8 M 133 [(0, .ref (az_ad V 40)), (1, .int x1), (2, .int x2), (3, .int x3), (4, .int x4), (5, .int x5), (6, .int x6), (7, .int x7)] [] := by
  unfold f_X12_free_133 at h
  refine az_iinc (v := (x7 + 1)) C 7 dX12_free_133 rfl rfl (by decide) rfl ?_
  refine az_goto C 46 dX12_free_136 (by decide) ?_
  refine az_sub [1, 2, 3, 4, 5, 6, 7, 0] rfl ?_
  exact hK46 x1 x2 x3 x4 x5 x6 (x7 + 1) M r h hp
set_option maxHeartbeats 4000000 in
set_option maxRecDepth 100000 in
theorem s_X12_free_107 {Y : az_Y} {V : az_V} {post : Option Value → az_M → Prop} (C : az_C Y V cX12_free 8 RX12 (some .int) 2) (G : Nat) (K24 : (Int32 → Int32 → Int32 → Int32 → az_M → Option (Int32 × az_M))) (K46 : (Int32 → Int32 → Int32 → Int32 → Int32 → Int32 → Int32 → az_M → Option (Int32 × az_M))) (hK24 : ∀ (x1 : Int32) (x2 : Int32) (x3 : Int32) (x4 : Int32) (M : az_M) (r : (Int32 × az_M)), K24 x1 x2 x3 x4 M = some r → post (some (.int r.1)) r.2 → AW Y V (az_end Y V post) 8 M 24 [(0, .ref (az_ad V 40)), (1, .int x1), (2, .int x2), (3, .int x3), (4, .int x4)] []) (hK46 : ∀ (x1 : Int32) (x2 : Int32) (x3 : Int32) (x4 : Int32) (x5 : Int32) (x6 : Int32) (x7 : Int32) (M : az_M) (r : (Int32 × az_M)), K46 x1 x2 x3 x4 x5 x6 x7 M = some r → post (some (.int r.1)) r.2 → AW Y V (az_end Y V post) 8 M 46 [(0, .ref (az_ad V 40)), (1, .int x1), (2, .int x2), (3, .int x3), (4, .int x4), (5, .int x5), (6, .int x6), (7, .int x7)] []) (x1 : Int32) (x2 : Int32) (x3 : Int32) (x4 : Int32) (x5 : Int32) (x7 : Int32) (s0 : Int32) (M : az_M) (r : (Int32 × az_M)) (h : f_X12_free_107 G K24 K46 x1 x2 x3 x4 x5 x7 s0 M = some r) (hp : post (some (.int r.1)) r.2) : AW Y V (az_end Y V post) 8 M 107 [(0, .ref (az_ad V 40)), (1, .int x1), (2, .int x2), (3, .int x3), (4, .int x4), (5, .int x5), (7, .int x7)] [.int s0] := by
  have o40 := C.hL.at 40 (ci := 12) rfl
  unfold f_X12_free_107 at h
  refine az_istore C dX12_free_107 (by decide) rfl ?_
  refine az_iload C 6 dX12_free_109 rfl ?_
  refine az_iconst (v := 1) C dX12_free_111 (by decide) ?_
  refine az_aload_n C 1 dX12_free_112 rfl ?_
  refine az_iload C 7 dX12_free_113 rfl ?_
  refine az_iconst (v := 0) C dX12_free_115 (by decide) ?_
  obtain ⟨q27, e28, h⟩ := az_b h
  refine az_callV C [.int x7, .int 0] (c_X12_ofQuarrel C.hL x7 0 M e28) (by decide) li_X12_238 o40 (by decide) rfl rfl (Nat.le_of_ble_eq_true rfl) dX12_free_116 (fun v M1 hv => ?_)
  obtain ⟨rfl, rfl⟩ := hv
  refine az_eqst (st' := [.int q27, .int 1, .int x5]) rfl ?_
  refine az_ishl C dX12_free_119 ?_
  refine az_iconst (v := 1) C dX12_free_120 (by decide) ?_
  refine az_aload_n C 1 dX12_free_121 rfl ?_
  refine az_iload C 7 dX12_free_122 rfl ?_
  refine az_iconst (v := 1) C dX12_free_124 (by decide) ?_
  obtain ⟨q29, e30, h⟩ := az_b h
  refine az_callV C [.int x7, .int 1] (c_X12_ofQuarrel C.hL x7 1 M e30) (by decide) li_X12_238 o40 (by decide) rfl rfl (Nat.le_of_ble_eq_true rfl) dX12_free_125 (fun v M1 hv => ?_)
  obtain ⟨rfl, rfl⟩ := hv
  refine az_eqst (st' := [.int q29, .int 1, .int (1 <<< (q27 &&& 31)), .int x5]) rfl ?_
  refine az_ishl C dX12_free_128 ?_
  refine az_ior C dX12_free_129 ?_
  refine az_ior C dX12_free_130 ?_
  refine az_istore C dX12_free_131 (by decide) rfl ?_
  refine az_sub [2, 3, 4, 5, 6, 0, 1, 7] rfl ?_
  exact s_X12_free_133 C G K24 K46 hK24 hK46 x1 x2 x3 x4 (x5 ||| ((1 <<< (q27 &&& 31)) ||| (1 <<< (q29 &&& 31)))) s0 x7 M r h hp
set_option maxHeartbeats 4000000 in
set_option maxRecDepth 100000 in
theorem s_X12_free_106 {Y : az_Y} {V : az_V} {post : Option Value → az_M → Prop} (C : az_C Y V cX12_free 8 RX12 (some .int) 2) (G : Nat) (K24 : (Int32 → Int32 → Int32 → Int32 → az_M → Option (Int32 × az_M))) (K46 : (Int32 → Int32 → Int32 → Int32 → Int32 → Int32 → Int32 → az_M → Option (Int32 × az_M))) (hK24 : ∀ (x1 : Int32) (x2 : Int32) (x3 : Int32) (x4 : Int32) (M : az_M) (r : (Int32 × az_M)), K24 x1 x2 x3 x4 M = some r → post (some (.int r.1)) r.2 → AW Y V (az_end Y V post) 8 M 24 [(0, .ref (az_ad V 40)), (1, .int x1), (2, .int x2), (3, .int x3), (4, .int x4)] []) (hK46 : ∀ (x1 : Int32) (x2 : Int32) (x3 : Int32) (x4 : Int32) (x5 : Int32) (x6 : Int32) (x7 : Int32) (M : az_M) (r : (Int32 × az_M)), K46 x1 x2 x3 x4 x5 x6 x7 M = some r → post (some (.int r.1)) r.2 → AW Y V (az_end Y V post) 8 M 46 [(0, .ref (az_ad V 40)), (1, .int x1), (2, .int x2), (3, .int x3), (4, .int x4), (5, .int x5), (6, .int x6), (7, .int x7)] []) (x1 : Int32) (x2 : Int32) (x3 : Int32) (x4 : Int32) (x5 : Int32) (x7 : Int32) (M : az_M) (r : (Int32 × az_M)) (h : f_X12_free_106 G K24 K46 x1 x2 x3 x4 x5 x7 M = some r) (hp : post (some (.int r.1)) r.2) : AW Y V (az_end Y V post) 8 M 106 [(0, .ref (az_ad V 40)), (1, .int x1), (2, .int x2), (3, .int x3), (4, .int x4), (5, .int x5), (7, .int x7)] [] := by
  unfold f_X12_free_106 at h
  refine az_iconst (v := 0) C dX12_free_106 (by decide) ?_
  exact s_X12_free_107 C G K24 K46 hK24 hK46 x1 x2 x3 x4 x5 x7 0 M r h hp
set_option maxHeartbeats 4000000 in
set_option maxRecDepth 100000 in
theorem s_X12_free_162 {Y : az_Y} {V : az_V} {post : Option Value → az_M → Prop} (C : az_C Y V cX12_free 8 RX12 (some .int) 2) (G : Nat) (K24 : (Int32 → Int32 → Int32 → Int32 → az_M → Option (Int32 × az_M))) (hK24 : ∀ (x1 : Int32) (x2 : Int32) (x3 : Int32) (x4 : Int32) (M : az_M) (r : (Int32 × az_M)), K24 x1 x2 x3 x4 M = some r → post (some (.int r.1)) r.2 → AW Y V (az_end Y V post) 8 M 24 [(0, .ref (az_ad V 40)), (1, .int x1), (2, .int x2), (3, .int x3), (4, .int x4)] []) (x1 : Int32) (x2 : Int32) (x3 : Int32) (x4 : Int32) (M : az_M) (r : (Int32 × az_M)) (h : f_X12_free_162 G K24 x1 x2 x3 x4 M = some r) (hp : post (some (.int r.1)) r.2) : AW Y V (az_end Y V post) 8 M 162 [(0, .ref (az_ad V 40)), (1, .int x1), (2, .int x2), (3, .int x3), (4, .int x4)] [] := by
  unfold f_X12_free_162 at h
  refine az_iinc (v := (x4 + 1)) C 4 dX12_free_162 rfl rfl (by decide) rfl ?_
  refine az_goto C 24 dX12_free_165 (by decide) ?_
  refine az_sub [1, 2, 3, 4, 0] rfl ?_
  exact hK24 x1 x2 x3 (x4 + 1) M r h hp
set_option maxHeartbeats 4000000 in
set_option maxRecDepth 100000 in
theorem s_X12_free_46 {Y : az_Y} {V : az_V} {post : Option Value → az_M → Prop} (C : az_C Y V cX12_free 8 RX12 (some .int) 2) (G : Nat) (K24 : (Int32 → Int32 → Int32 → Int32 → az_M → Option (Int32 × az_M))) (hK24 : ∀ (x1 : Int32) (x2 : Int32) (x3 : Int32) (x4 : Int32) (M : az_M) (r : (Int32 × az_M)), K24 x1 x2 x3 x4 M = some r → post (some (.int r.1)) r.2 → AW Y V (az_end Y V post) 8 M 24 [(0, .ref (az_ad V 40)), (1, .int x1), (2, .int x2), (3, .int x3), (4, .int x4)] []) : ∀ (F : Nat) (x1 : Int32) (x2 : Int32) (x3 : Int32) (x4 : Int32) (x5 : Int32) (x6 : Int32) (x7 : Int32) (M : az_M) (r : (Int32 × az_M)), f_X12_free_46 G K24 F x1 x2 x3 x4 x5 x6 x7 M = some r → post (some (.int r.1)) r.2 → AW Y V (az_end Y V post) 8 M 46 [(0, .ref (az_ad V 40)), (1, .int x1), (2, .int x2), (3, .int x3), (4, .int x4), (5, .int x5), (6, .int x6), (7, .int x7)] [] := by
  have o40 := C.hL.at 40 (ci := 12) rfl
  have a42 := C.hL.ar 42 (t := 0) (len := 5550) rfl
  intro F
  induction F with
  | zero =>
    intro x1 x2 x3 x4 x5 x6 x7 M r h
    exact absurd (show (none : Option (Int32 × az_M)) = some r from h) (fun q => by cases q)
  | succ F ih =>
    intro x1 x2 x3 x4 x5 x6 x7 M r h hp
    rw [f_X12_free_46] at h
    refine az_iload C 7 dX12_free_46 rfl ?_
    refine az_aload_n C 0 dX12_free_48 rfl ?_
    refine az_getr (r := 42) C o40 fl_X12_13 rfl rfl dX12_free_49 ?_
    refine az_iconst (v := 2) C dX12_free_52 (by decide) ?_
    refine az_ild (k := 2) C a42 (by decide) (by decide) dX12_free_53 ?_
    refine az_icmp_ge C 139 dX12_free_54 (by decide) (fun c6 => ?_) (fun c6 => ?_)
    · have h := az_t c6 h
      refine az_iload C 6 dX12_free_139 rfl ?_
      refine az_if_eq C 162 dX12_free_141 (by decide) (fun c7 => ?_) (fun c7 => ?_)
      · have h := az_t c7 h
        refine az_sub [0, 1, 2, 3, 4] rfl ?_
        exact s_X12_free_162 C G K24 hK24 x1 x2 x3 x4 M r h hp
      · have h := az_f c7 h
        refine az_iload C 4 dX12_free_144 rfl ?_
        obtain ⟨q8, e9, h⟩ := az_b h
        refine az_callS C [.int x4] (c_X12_ones C.hL G x4 M e9) (by decide) li_X12_521 rfl rfl (Nat.le_of_ble_eq_true rfl) dX12_free_146 (fun v M1 hv => ?_)
        obtain ⟨rfl, rfl⟩ := hv
        refine az_eqst (st' := [.int q8]) rfl ?_
        refine az_iload_n C 2 dX12_free_149 rfl ?_
        refine az_icmp_le C 162 dX12_free_150 (by decide) (fun c10 => ?_) (fun c10 => ?_)
        · have h := az_t c10 h
          refine az_sub [0, 1, 2, 3, 4] rfl ?_
          exact s_X12_free_162 C G K24 hK24 x1 x2 x3 x4 M r h hp
        · have h := az_f c10 h
          refine az_iload C 4 dX12_free_153 rfl ?_
          obtain ⟨q11, e12, h⟩ := az_b h
          refine az_callS C [.int x4] (c_X12_ones C.hL G x4 M e12) (by decide) li_X12_521 rfl rfl (Nat.le_of_ble_eq_true rfl) dX12_free_155 (fun v M1 hv => ?_)
          obtain ⟨rfl, rfl⟩ := hv
          refine az_eqst (st' := [.int q11]) rfl ?_
          refine az_istore_n C dX12_free_158 rfl (by decide) rfl ?_
          refine az_iload C 4 dX12_free_159 rfl ?_
          refine az_istore_n C dX12_free_161 rfl (by decide) rfl ?_
          refine az_sub [2, 3, 1, 0, 4] rfl ?_
          exact s_X12_free_162 C G K24 hK24 x1 q11 x4 x4 M r h hp
    · have h := az_f c6 h
      refine az_iload C 4 dX12_free_57 rfl ?_
      refine az_iload C 7 dX12_free_59 rfl ?_
      obtain ⟨q13, e14, h⟩ := az_b h
      refine az_callS C [.int x4, .int x7] (c_X12_is C.hL x4 x7 M e14) (by decide) li_X12_518 rfl rfl (Nat.le_of_ble_eq_true rfl) dX12_free_61 (fun v M1 hv => ?_)
      obtain ⟨rfl, rfl⟩ := hv
      refine az_eqst (st' := [.int q13]) rfl ?_
      refine az_if_eq C 133 dX12_free_64 (by decide) (fun c15 => ?_) (fun c15 => ?_)
      · have h := az_t c15 h
        exact s_X12_free_133 C G K24 (f_X12_free_46 G K24 F) hK24 ih x1 x2 x3 x4 x5 x6 x7 M r h hp
      · have h := az_f c15 h
        refine az_iload C 6 dX12_free_67 rfl ?_
        refine az_if_eq C 106 dX12_free_69 (by decide) (fun c16 => ?_) (fun c16 => ?_)
        · have h := az_t c16 h
          refine az_sub [0, 1, 2, 3, 4, 5, 7] rfl ?_
          exact s_X12_free_106 C G K24 (f_X12_free_46 G K24 F) hK24 ih x1 x2 x3 x4 x5 x7 M r h hp
        · have h := az_f c16 h
          refine az_iload C 5 dX12_free_72 rfl ?_
          refine az_aload_n C 0 dX12_free_74 rfl ?_
          refine az_iload C 7 dX12_free_75 rfl ?_
          refine az_iconst (v := 0) C dX12_free_77 (by decide) ?_
          obtain ⟨q17, e18, h⟩ := az_b h
          refine az_callV C [.int x7, .int 0] (c_X12_ofQuarrel C.hL x7 0 M e18) (by decide) li_X12_238 o40 (by decide) rfl rfl (Nat.le_of_ble_eq_true rfl) dX12_free_78 (fun v M1 hv => ?_)
          obtain ⟨rfl, rfl⟩ := hv
          refine az_eqst (st' := [.int q17, .int x5]) rfl ?_
          obtain ⟨q19, e20, h⟩ := az_b h
          refine az_callS C [.int x5, .int q17] (c_X12_is C.hL x5 q17 M e20) (by decide) li_X12_518 rfl rfl (Nat.le_of_ble_eq_true rfl) dX12_free_81 (fun v M1 hv => ?_)
          obtain ⟨rfl, rfl⟩ := hv
          refine az_eqst (st' := [.int q19]) rfl ?_
          refine az_if_ne C 106 dX12_free_84 (by decide) (fun c21 => ?_) (fun c21 => ?_)
          · have h := az_f c21 h
            refine az_sub [0, 1, 2, 3, 4, 5, 7] rfl ?_
            exact s_X12_free_106 C G K24 (f_X12_free_46 G K24 F) hK24 ih x1 x2 x3 x4 x5 x7 M r h hp
          · have h := az_t c21 h
            refine az_iload C 5 dX12_free_87 rfl ?_
            refine az_aload_n C 0 dX12_free_89 rfl ?_
            refine az_iload C 7 dX12_free_90 rfl ?_
            refine az_iconst (v := 1) C dX12_free_92 (by decide) ?_
            obtain ⟨q22, e23, h⟩ := az_b h
            refine az_callV C [.int x7, .int 1] (c_X12_ofQuarrel C.hL x7 1 M e23) (by decide) li_X12_238 o40 (by decide) rfl rfl (Nat.le_of_ble_eq_true rfl) dX12_free_93 (fun v M1 hv => ?_)
            obtain ⟨rfl, rfl⟩ := hv
            refine az_eqst (st' := [.int q22, .int x5]) rfl ?_
            obtain ⟨q24, e25, h⟩ := az_b h
            refine az_callS C [.int x5, .int q22] (c_X12_is C.hL x5 q22 M e25) (by decide) li_X12_518 rfl rfl (Nat.le_of_ble_eq_true rfl) dX12_free_96 (fun v M1 hv => ?_)
            obtain ⟨rfl, rfl⟩ := hv
            refine az_eqst (st' := [.int q24]) rfl ?_
            refine az_if_ne C 106 dX12_free_99 (by decide) (fun c26 => ?_) (fun c26 => ?_)
            · have h := az_f c26 h
              refine az_sub [0, 1, 2, 3, 4, 5, 7] rfl ?_
              exact s_X12_free_106 C G K24 (f_X12_free_46 G K24 F) hK24 ih x1 x2 x3 x4 x5 x7 M r h hp
            · have h := az_t c26 h
              refine az_iconst (v := 1) C dX12_free_102 (by decide) ?_
              refine az_goto C 107 dX12_free_103 (by decide) ?_
              refine az_sub [0, 1, 2, 3, 4, 5, 7] rfl ?_
              exact s_X12_free_107 C G K24 (f_X12_free_46 G K24 F) hK24 ih x1 x2 x3 x4 x5 x7 1 M r h hp
set_option maxHeartbeats 4000000 in
set_option maxRecDepth 100000 in
theorem s_X12_free_177 {Y : az_Y} {V : az_V} {post : Option Value → az_M → Prop} (C : az_C Y V cX12_free 8 RX12 (some .int) 2) (G : Nat) (s0 : Int32) (M : az_M) (r : (Int32 × az_M)) (h : f_X12_free_177 G s0 M = some r) (hp : post (some (.int r.1)) r.2) : AW Y V (az_end Y V post) 8 M 177 [] [.int s0] := by
  unfold f_X12_free_177 at h
  obtain rfl := Option.some.inj h
  exact az_iret C dX12_free_177 hp
set_option maxHeartbeats 4000000 in
set_option maxRecDepth 100000 in
theorem s_X12_free_24 {Y : az_Y} {V : az_V} {post : Option Value → az_M → Prop} (C : az_C Y V cX12_free 8 RX12 (some .int) 2) (G : Nat) : ∀ (F : Nat) (x1 : Int32) (x2 : Int32) (x3 : Int32) (x4 : Int32) (M : az_M) (r : (Int32 × az_M)), f_X12_free_24 G F x1 x2 x3 x4 M = some r → post (some (.int r.1)) r.2 → AW Y V (az_end Y V post) 8 M 24 [(0, .ref (az_ad V 40)), (1, .int x1), (2, .int x2), (3, .int x3), (4, .int x4)] [] := by
  have o40 := C.hL.at 40 (ci := 12) rfl
  have a42 := C.hL.ar 42 (t := 0) (len := 5550) rfl
  intro F
  induction F with
  | zero =>
    intro x1 x2 x3 x4 M r h
    exact absurd (show (none : Option (Int32 × az_M)) = some r from h) (fun q => by cases q)
  | succ F ih =>
    intro x1 x2 x3 x4 M r h hp
    rw [f_X12_free_24] at h
    refine az_iload C 4 dX12_free_24 rfl ?_
    refine az_iconst (v := 1) C dX12_free_26 (by decide) ?_
    refine az_aload_n C 0 dX12_free_27 rfl ?_
    refine az_getr (r := 42) C o40 fl_X12_13 rfl rfl dX12_free_28 ?_
    refine az_iconst (v := 2) C dX12_free_31 (by decide) ?_
    refine az_ild (k := 2) C a42 (by decide) (by decide) dX12_free_32 ?_
    refine az_ishl C dX12_free_33 ?_
    refine az_icmp_ge C 168 dX12_free_34 (by decide) (fun c4 => ?_) (fun c4 => ?_)
    · have h := az_t c4 h
      refine az_iload_n C 1 dX12_free_168 rfl ?_
      refine az_if_ne C 176 dX12_free_169 (by decide) (fun c5 => ?_) (fun c5 => ?_)
      · have h := az_f c5 h
        refine az_iload_n C 3 dX12_free_176 rfl ?_
        refine az_sub [] rfl ?_
        exact s_X12_free_177 C G x3 M r h hp
      · have h := az_t c5 h
        refine az_iload_n C 2 dX12_free_172 rfl ?_
        refine az_goto C 177 dX12_free_173 (by decide) ?_
        refine az_sub [] rfl ?_
        exact s_X12_free_177 C G x2 M r h hp
    · have h := az_f c4 h
      refine az_iconst (v := 0) C dX12_free_37 (by decide) ?_
      refine az_istore C dX12_free_38 (by decide) rfl ?_
      refine az_iconst (v := 1) C dX12_free_40 (by decide) ?_
      refine az_istore C dX12_free_41 (by decide) rfl ?_
      refine az_iconst (v := 0) C dX12_free_43 (by decide) ?_
      refine az_istore C dX12_free_44 (by decide) rfl ?_
      refine az_sub [3, 4, 5, 6, 7, 2, 1, 0] rfl ?_
      exact s_X12_free_46 C G (f_X12_free_24 G F) ih G x1 x2 x3 x4 0 1 0 M r h hp
set_option maxHeartbeats 4000000 in
set_option maxRecDepth 100000 in
theorem s_X12_free_e {Y : az_Y} {V : az_V} {post : Option Value → az_M → Prop} (C : az_C Y V cX12_free 8 RX12 (some .int) 2) (G : Nat) (p0 : Int32) (M : az_M) (r : (Int32 × az_M)) (h : f_X12_free G p0 M = some r) (hp : post (some (.int r.1)) r.2) : AW Y V (az_end Y V post) 8 M 0 [(0, .ref (az_ad V 40)), (1, .int p0)] [] := by
  have o40 := C.hL.at 40 (ci := 12) rfl
  unfold f_X12_free at h
  refine az_aload_n C 0 dX12_free_0 rfl ?_
  refine az_iconst (v := 0) C dX12_free_1 (by decide) ?_
  refine az_puti C o40 fl_X12_149 rfl rfl rfl rfl dX12_free_2 ?_
  refine az_iload_n C 1 dX12_free_5 rfl ?_
  refine az_i2l C dX12_free_6 ?_
  refine az_lconst (v := 0) C dX12_free_7 (by decide) ?_
  refine az_lconst (v := 1) C dX12_free_8 (by decide) ?_
  obtain ⟨q1, e2, h⟩ := az_b h
  refine az_callS C [.long p0.toInt64, .long 0, .long 1] (c_X12_in C.hL p0.toInt64 0 1 (az_i M 40 0 0) e2) (by decide) li_X12_169 rfl rfl (Nat.le_of_ble_eq_true rfl) dX12_free_9 (fun v M1 hv => ?_)
  obtain ⟨rfl, rfl⟩ := hv
  refine az_eqst (st' := [.int q1]) rfl ?_
  refine az_if_ne C 17 dX12_free_12 (by decide) (fun c3 => ?_) (fun c3 => ?_)
  · have h := az_f c3 h
    refine az_iconst (v := (-1)) C dX12_free_17 (by decide) ?_
    refine az_istore_n C dX12_free_18 rfl (by decide) rfl ?_
    refine az_iconst (v := 0) C dX12_free_19 (by decide) ?_
    refine az_istore_n C dX12_free_20 rfl (by decide) rfl ?_
    refine az_iconst (v := 0) C dX12_free_21 (by decide) ?_
    refine az_istore C dX12_free_22 (by decide) rfl ?_
    refine az_sub [3, 4, 2, 1, 0] rfl ?_
    exact s_X12_free_24 C G G p0 (-1) 0 0 (az_i M 40 0 0) r h hp
  · have h := az_t c3 h
    refine az_iconst (v := (-1)) C dX12_free_15 (by decide) ?_
    obtain rfl := Option.some.inj h
    exact az_iret C dX12_free_16 hp
theorem c_X12_free {l : Launch} {V : az_V} (hL : az_L V) (G : Nat) (p0 : Int32) (M : az_M) {r : (Int32 × az_M)} (h : f_X12_free G p0 M = some r) : az_Ct l V yX12_free cX12_free 8 (some .int) 2 [.ref (az_ad V 40), .int p0] M (fun v M' => v = some (.int r.1) ∧ M' = r.2) :=
  az_Ct.of (by decide) (Nat.le_of_ble_eq_true rfl) (fun Y _ _ C => s_X12_free_e C G p0 M r h ⟨rfl, rfl⟩)
set_option maxHeartbeats 4000000 in
set_option maxRecDepth 100000 in
theorem s_X12_findMarks_154 {Y : az_Y} {V : az_V} {post : Option Value → az_M → Prop} (C : az_C Y V cX12_findMarks 10 RX12 (some .int) 8) (G : Nat) (K35 : (Int32 → Int32 → Int32 → Int32 → Int32 → Int32 → az_M → Option (Int32 × az_M))) (K95 : (Int32 → Int32 → Int32 → Int32 → Int32 → Int32 → Int32 → Int32 → az_M → Option (Int32 × az_M))) (hK35 : ∀ (x1 : Int32) (x2 : Int32) (x3 : Int32) (x4 : Int32) (x5 : Int32) (x6 : Int32) (M : az_M) (r : (Int32 × az_M)), K35 x1 x2 x3 x4 x5 x6 M = some r → post (some (.int r.1)) r.2 → AW Y V (az_end Y V post) 10 M 35 [(0, .ref (az_ad V 40)), (1, .int x1), (2, .int x2), (3, .int x3), (4, .int x4), (5, .int x5), (6, .int x6)] []) (hK95 : ∀ (x1 : Int32) (x2 : Int32) (x3 : Int32) (x4 : Int32) (x5 : Int32) (x6 : Int32) (x8 : Int32) (x9 : Int32) (M : az_M) (r : (Int32 × az_M)), K95 x1 x2 x3 x4 x5 x6 x8 x9 M = some r → post (some (.int r.1)) r.2 → AW Y V (az_end Y V post) 10 M 95 [(0, .ref (az_ad V 40)), (1, .int x1), (2, .int x2), (3, .int x3), (4, .int x4), (5, .int x5), (6, .int x6), (8, .int x8), (9, .int x9)] []) (x1 : Int32) (x2 : Int32) (x3 : Int32) (x4 : Int32) (x5 : Int32) (x6 : Int32) (x8 : Int32) (x9 : Int32) (M : az_M) (r : (Int32 × az_M)) (h : f_X12_findMarks_154 G K35 K95 x1 x2 x3 x4 x5 x6 x8 x9 M = some r) (hp : post (some (.int r.1)) r.2) : AW Y V (az_end Y V post) 10 M 154 [(0, .ref (az_ad V 40)), (1, .int x1), (2, .int x2), (3, .int x3), (4, .int x4), (5, .int x5), (6, .int x6), (8, .int x8), (9, .int x9)] [] := by
  unfold f_X12_findMarks_154 at h
  refine az_iinc (v := (x9 + 1)) C 8 dX12_findMarks_154 rfl rfl (by decide) rfl ?_
  refine az_goto C 95 dX12_findMarks_157 (by decide) ?_
  refine az_sub [1, 2, 3, 4, 5, 6, 7, 8, 0] rfl ?_
  exact hK95 x1 x2 x3 x4 x5 x6 x8 (x9 + 1) M r h hp
set_option maxHeartbeats 4000000 in
set_option maxRecDepth 100000 in
theorem s_X12_findMarks_135 {Y : az_Y} {V : az_V} {post : Option Value → az_M → Prop} (C : az_C Y V cX12_findMarks 10 RX12 (some .int) 8) (G : Nat) (K35 : (Int32 → Int32 → Int32 → Int32 → Int32 → Int32 → az_M → Option (Int32 × az_M))) (K95 : (Int32 → Int32 → Int32 → Int32 → Int32 → Int32 → Int32 → Int32 → az_M → Option (Int32 × az_M))) (hK35 : ∀ (x1 : Int32) (x2 : Int32) (x3 : Int32) (x4 : Int32) (x5 : Int32) (x6 : Int32) (M : az_M) (r : (Int32 × az_M)), K35 x1 x2 x3 x4 x5 x6 M = some r → post (some (.int r.1)) r.2 → AW Y V (az_end Y V post) 10 M 35 [(0, .ref (az_ad V 40)), (1, .int x1), (2, .int x2), (3, .int x3), (4, .int x4), (5, .int x5), (6, .int x6)] []) (hK95 : ∀ (x1 : Int32) (x2 : Int32) (x3 : Int32) (x4 : Int32) (x5 : Int32) (x6 : Int32) (x8 : Int32) (x9 : Int32) (M : az_M) (r : (Int32 × az_M)), K95 x1 x2 x3 x4 x5 x6 x8 x9 M = some r → post (some (.int r.1)) r.2 → AW Y V (az_end Y V post) 10 M 95 [(0, .ref (az_ad V 40)), (1, .int x1), (2, .int x2), (3, .int x3), (4, .int x4), (5, .int x5), (6, .int x6), (8, .int x8), (9, .int x9)] []) (x1 : Int32) (x2 : Int32) (x3 : Int32) (x4 : Int32) (x5 : Int32) (x6 : Int32) (x9 : Int32) (s0 : Int32) (M : az_M) (r : (Int32 × az_M)) (h : f_X12_findMarks_135 G K35 K95 x1 x2 x3 x4 x5 x6 x9 s0 M = some r) (hp : post (some (.int r.1)) r.2) : AW Y V (az_end Y V post) 10 M 135 [(0, .ref (az_ad V 40)), (1, .int x1), (2, .int x2), (3, .int x3), (4, .int x4), (5, .int x5), (6, .int x6), (9, .int x9)] [.int s0] := by
  have o40 := C.hL.at 40 (ci := 12) rfl
  have a67 := C.hL.ar 67 (t := 0) (len := 3) rfl
  unfold f_X12_findMarks_135 at h
  refine az_istore C dX12_findMarks_135 (by decide) rfl ?_
  refine az_iload C 0 dX12_findMarks_137 rfl ?_
  refine az_if_eq C 154 dX12_findMarks_139 (by decide) (fun c16 => ?_) (fun c16 => ?_)
  · have h := az_t c16 h
    refine az_sub [1, 2, 3, 4, 5, 6, 7, 0, 8] rfl ?_
    exact s_X12_findMarks_154 C G K35 K95 hK35 hK95 x1 x2 x3 x4 x5 x6 s0 x9 M r h hp
  · have h := az_f c16 h
    refine az_aload_n C 1 dX12_findMarks_142 rfl ?_
    refine az_iconst (v := 0) C dX12_findMarks_143 (by decide) ?_
    refine az_aload_n C 1 dX12_findMarks_144 rfl ?_
    refine az_getr (r := 67) C o40 fl_X12_134 rfl rfl dX12_findMarks_145 ?_
    refine az_iload C 8 dX12_findMarks_148 rfl ?_
    obtain ⟨g17, h⟩ := az_g h
    refine az_ild (k := x9.toNatClampNeg) C a67 g17 rfl dX12_findMarks_150 ?_
    obtain ⟨q18, e19, h⟩ := az_b h
    refine az_callV C [.int 0, .int (M.1 67 x9.toNatClampNeg)] (c_X12_shoot C.hL G 0 (M.1 67 x9.toNatClampNeg) M e19) (by decide) li_X12_460 o40 (by decide) rfl rfl (Nat.le_of_ble_eq_true rfl) dX12_findMarks_151 (fun v M1 hv => ?_)
    obtain ⟨rfl, rfl⟩ := hv
    refine az_eqst (st' := []) rfl ?_
    refine az_sub [1, 2, 3, 4, 5, 6, 7, 0, 8] rfl ?_
    exact s_X12_findMarks_154 C G K35 K95 hK35 hK95 x1 x2 x3 x4 x5 x6 s0 x9 q18 r h hp
set_option maxHeartbeats 4000000 in
set_option maxRecDepth 100000 in
theorem s_X12_findMarks_134 {Y : az_Y} {V : az_V} {post : Option Value → az_M → Prop} (C : az_C Y V cX12_findMarks 10 RX12 (some .int) 8) (G : Nat) (K35 : (Int32 → Int32 → Int32 → Int32 → Int32 → Int32 → az_M → Option (Int32 × az_M))) (K95 : (Int32 → Int32 → Int32 → Int32 → Int32 → Int32 → Int32 → Int32 → az_M → Option (Int32 × az_M))) (hK35 : ∀ (x1 : Int32) (x2 : Int32) (x3 : Int32) (x4 : Int32) (x5 : Int32) (x6 : Int32) (M : az_M) (r : (Int32 × az_M)), K35 x1 x2 x3 x4 x5 x6 M = some r → post (some (.int r.1)) r.2 → AW Y V (az_end Y V post) 10 M 35 [(0, .ref (az_ad V 40)), (1, .int x1), (2, .int x2), (3, .int x3), (4, .int x4), (5, .int x5), (6, .int x6)] []) (hK95 : ∀ (x1 : Int32) (x2 : Int32) (x3 : Int32) (x4 : Int32) (x5 : Int32) (x6 : Int32) (x8 : Int32) (x9 : Int32) (M : az_M) (r : (Int32 × az_M)), K95 x1 x2 x3 x4 x5 x6 x8 x9 M = some r → post (some (.int r.1)) r.2 → AW Y V (az_end Y V post) 10 M 95 [(0, .ref (az_ad V 40)), (1, .int x1), (2, .int x2), (3, .int x3), (4, .int x4), (5, .int x5), (6, .int x6), (8, .int x8), (9, .int x9)] []) (x1 : Int32) (x2 : Int32) (x3 : Int32) (x4 : Int32) (x5 : Int32) (x6 : Int32) (x9 : Int32) (M : az_M) (r : (Int32 × az_M)) (h : f_X12_findMarks_134 G K35 K95 x1 x2 x3 x4 x5 x6 x9 M = some r) (hp : post (some (.int r.1)) r.2) : AW Y V (az_end Y V post) 10 M 134 [(0, .ref (az_ad V 40)), (1, .int x1), (2, .int x2), (3, .int x3), (4, .int x4), (5, .int x5), (6, .int x6), (9, .int x9)] [] := by
  unfold f_X12_findMarks_134 at h
  refine az_iconst (v := 0) C dX12_findMarks_134 (by decide) ?_
  exact s_X12_findMarks_135 C G K35 K95 hK35 hK95 x1 x2 x3 x4 x5 x6 x9 0 M r h hp
set_option maxHeartbeats 4000000 in
set_option maxRecDepth 100000 in
theorem s_X12_findMarks_247 {Y : az_Y} {V : az_V} {post : Option Value → az_M → Prop} (C : az_C Y V cX12_findMarks 10 RX12 (some .int) 8) (G : Nat) (K35 : (Int32 → Int32 → Int32 → Int32 → Int32 → Int32 → az_M → Option (Int32 × az_M))) (hK35 : ∀ (x1 : Int32) (x2 : Int32) (x3 : Int32) (x4 : Int32) (x5 : Int32) (x6 : Int32) (M : az_M) (r : (Int32 × az_M)), K35 x1 x2 x3 x4 x5 x6 M = some r → post (some (.int r.1)) r.2 → AW Y V (az_end Y V post) 10 M 35 [(0, .ref (az_ad V 40)), (1, .int x1), (2, .int x2), (3, .int x3), (4, .int x4), (5, .int x5), (6, .int x6)] []) (x1 : Int32) (x2 : Int32) (x3 : Int32) (x4 : Int32) (x6 : Int32) (s0 : Int32) (s1 : Int32) (M : az_M) (r : (Int32 × az_M)) (h : f_X12_findMarks_247 G K35 x1 x2 x3 x4 x6 s0 s1 M = some r) (hp : post (some (.int r.1)) r.2) : AW Y V (az_end Y V post) 10 M 247 [(0, .ref (az_ad V 40)), (1, .int x1), (2, .int x2), (3, .int x3), (4, .int x4), (6, .int x6)] [.int s0, .int s1] := by
  unfold f_X12_findMarks_247 at h
  refine az_iadd C dX12_findMarks_247 ?_
  refine az_istore C dX12_findMarks_248 (by decide) rfl ?_
  refine az_iinc (v := (x6 + 1)) C 6 dX12_findMarks_250 rfl rfl (by decide) rfl ?_
  refine az_goto C 35 dX12_findMarks_253 (by decide) ?_
  refine az_sub [2, 3, 4, 5, 6, 1, 0] rfl ?_
  exact hK35 x1 x2 x3 x4 (s1 + s0) (x6 + 1) M r h hp
set_option maxHeartbeats 4000000 in
set_option maxRecDepth 100000 in
theorem s_X12_findMarks_235 {Y : az_Y} {V : az_V} {post : Option Value → az_M → Prop} (C : az_C Y V cX12_findMarks 10 RX12 (some .int) 8) (G : Nat) (K35 : (Int32 → Int32 → Int32 → Int32 → Int32 → Int32 → az_M → Option (Int32 × az_M))) (hK35 : ∀ (x1 : Int32) (x2 : Int32) (x3 : Int32) (x4 : Int32) (x5 : Int32) (x6 : Int32) (M : az_M) (r : (Int32 × az_M)), K35 x1 x2 x3 x4 x5 x6 M = some r → post (some (.int r.1)) r.2 → AW Y V (az_end Y V post) 10 M 35 [(0, .ref (az_ad V 40)), (1, .int x1), (2, .int x2), (3, .int x3), (4, .int x4), (5, .int x5), (6, .int x6)] []) (x1 : Int32) (x2 : Int32) (x3 : Int32) (x4 : Int32) (x5 : Int32) (x6 : Int32) (x8 : Int32) (M : az_M) (r : (Int32 × az_M)) (h : f_X12_findMarks_235 G K35 x1 x2 x3 x4 x5 x6 x8 M = some r) (hp : post (some (.int r.1)) r.2) : AW Y V (az_end Y V post) 10 M 235 [(0, .ref (az_ad V 40)), (1, .int x1), (2, .int x2), (3, .int x3), (4, .int x4), (5, .int x5), (6, .int x6), (8, .int x8)] [] := by
  unfold f_X12_findMarks_235 at h
  refine az_iload C 5 dX12_findMarks_235 rfl ?_
  refine az_iload C 7 dX12_findMarks_237 rfl ?_
  refine az_if_eq C 246 dX12_findMarks_239 (by decide) (fun c34 => ?_) (fun c34 => ?_)
  · have h := az_t c34 h
    refine az_iconst (v := 0) C dX12_findMarks_246 (by decide) ?_
    refine az_sub [0, 1, 2, 3, 4, 6] rfl ?_
    exact s_X12_findMarks_247 C G K35 hK35 x1 x2 x3 x4 x6 0 x5 M r h hp
  · have h := az_f c34 h
    refine az_iconst (v := 1) C dX12_findMarks_242 (by decide) ?_
    refine az_goto C 247 dX12_findMarks_243 (by decide) ?_
    refine az_sub [0, 1, 2, 3, 4, 6] rfl ?_
    exact s_X12_findMarks_247 C G K35 hK35 x1 x2 x3 x4 x6 1 x5 M r h hp
set_option maxHeartbeats 4000000 in
set_option maxRecDepth 100000 in
theorem s_X12_findMarks_199 {Y : az_Y} {V : az_V} {post : Option Value → az_M → Prop} (C : az_C Y V cX12_findMarks 10 RX12 (some .int) 8) (G : Nat) (K35 : (Int32 → Int32 → Int32 → Int32 → Int32 → Int32 → az_M → Option (Int32 × az_M))) (hK35 : ∀ (x1 : Int32) (x2 : Int32) (x3 : Int32) (x4 : Int32) (x5 : Int32) (x6 : Int32) (M : az_M) (r : (Int32 × az_M)), K35 x1 x2 x3 x4 x5 x6 M = some r → post (some (.int r.1)) r.2 → AW Y V (az_end Y V post) 10 M 35 [(0, .ref (az_ad V 40)), (1, .int x1), (2, .int x2), (3, .int x3), (4, .int x4), (5, .int x5), (6, .int x6)] []) : ∀ (F : Nat) (x1 : Int32) (x2 : Int32) (x3 : Int32) (x4 : Int32) (x5 : Int32) (x6 : Int32) (x8 : Int32) (x9 : Int32) (M : az_M) (r : (Int32 × az_M)), f_X12_findMarks_199 G K35 F x1 x2 x3 x4 x5 x6 x8 x9 M = some r → post (some (.int r.1)) r.2 → AW Y V (az_end Y V post) 10 M 199 [(0, .ref (az_ad V 40)), (1, .int x1), (2, .int x2), (3, .int x3), (4, .int x4), (5, .int x5), (6, .int x6), (8, .int x8), (9, .int x9)] [] := by
  have o40 := C.hL.at 40 (ci := 12) rfl
  have a66 := C.hL.ar 66 (t := 0) (len := 3) rfl
  have a67 := C.hL.ar 67 (t := 0) (len := 3) rfl
  intro F
  induction F with
  | zero =>
    intro x1 x2 x3 x4 x5 x6 x8 x9 M r h
    exact absurd (show (none : Option (Int32 × az_M)) = some r from h) (fun q => by cases q)
  | succ F ih =>
    intro x1 x2 x3 x4 x5 x6 x8 x9 M r h hp
    rw [f_X12_findMarks_199] at h
    refine az_iload C 8 dX12_findMarks_199 rfl ?_
    refine az_iload_n C 1 dX12_findMarks_201 rfl ?_
    refine az_icmp_ge C 235 dX12_findMarks_202 (by decide) (fun c29 => ?_) (fun c29 => ?_)
    · have h := az_t c29 h
      refine az_sub [0, 1, 2, 3, 4, 5, 6, 7] rfl ?_
      exact s_X12_findMarks_235 C G K35 hK35 x1 x2 x3 x4 x5 x6 x8 M r h hp
    · have h := az_f c29 h
      refine az_iload C 7 dX12_findMarks_205 rfl ?_
      refine az_if_eq C 235 dX12_findMarks_207 (by decide) (fun c30 => ?_) (fun c30 => ?_)
      · have h := az_t c30 h
        refine az_sub [0, 1, 2, 3, 4, 5, 6, 7] rfl ?_
        exact s_X12_findMarks_235 C G K35 hK35 x1 x2 x3 x4 x5 x6 x8 M r h hp
      · have h := az_f c30 h
        refine az_iload C 5 dX12_findMarks_210 rfl ?_
        refine az_if_ne C 235 dX12_findMarks_212 (by decide) (fun c31 => ?_) (fun c31 => ?_)
        · have h := az_f c31 h
          refine az_sub [0, 1, 2, 3, 4, 5, 6, 7] rfl ?_
          exact s_X12_findMarks_235 C G K35 hK35 x1 x2 x3 x4 x5 x6 x8 M r h hp
        · have h := az_t c31 h
          refine az_aload_n C 0 dX12_findMarks_215 rfl ?_
          refine az_getr (r := 66) C o40 fl_X12_131 rfl rfl dX12_findMarks_216 ?_
          refine az_iload C 8 dX12_findMarks_219 rfl ?_
          refine az_aload_n C 0 dX12_findMarks_221 rfl ?_
          refine az_getr (r := 67) C o40 fl_X12_134 rfl rfl dX12_findMarks_222 ?_
          refine az_iload C 8 dX12_findMarks_225 rfl ?_
          obtain ⟨g32, h⟩ := az_g h
          refine az_ild (k := x9.toNatClampNeg) C a67 g32 rfl dX12_findMarks_227 ?_
          obtain ⟨g33, h⟩ := az_g h
          refine az_ist (k := x9.toNatClampNeg) C a66 g33 rfl dX12_findMarks_228 ?_
          refine az_iinc (v := (x9 + 1)) C 8 dX12_findMarks_229 rfl rfl (by decide) rfl ?_
          refine az_goto C 199 dX12_findMarks_232 (by decide) ?_
          refine az_sub [1, 2, 3, 4, 5, 6, 7, 8, 0] rfl ?_
          exact ih x1 x2 x3 x4 x5 x6 x8 (x9 + 1) (az_i M 66 x9.toNatClampNeg (M.1 67 x9.toNatClampNeg)) r h hp
set_option maxHeartbeats 4000000 in
set_option maxRecDepth 100000 in
theorem s_X12_findMarks_188 {Y : az_Y} {V : az_V} {post : Option Value → az_M → Prop} (C : az_C Y V cX12_findMarks 10 RX12 (some .int) 8) (G : Nat) (K35 : (Int32 → Int32 → Int32 → Int32 → Int32 → Int32 → az_M → Option (Int32 × az_M))) (hK35 : ∀ (x1 : Int32) (x2 : Int32) (x3 : Int32) (x4 : Int32) (x5 : Int32) (x6 : Int32) (M : az_M) (r : (Int32 × az_M)), K35 x1 x2 x3 x4 x5 x6 M = some r → post (some (.int r.1)) r.2 → AW Y V (az_end Y V post) 10 M 35 [(0, .ref (az_ad V 40)), (1, .int x1), (2, .int x2), (3, .int x3), (4, .int x4), (5, .int x5), (6, .int x6)] []) (x1 : Int32) (x2 : Int32) (x3 : Int32) (x4 : Int32) (x5 : Int32) (x6 : Int32) (s0 : Int32) (M : az_M) (r : (Int32 × az_M)) (h : f_X12_findMarks_188 G K35 x1 x2 x3 x4 x5 x6 s0 M = some r) (hp : post (some (.int r.1)) r.2) : AW Y V (az_end Y V post) 10 M 188 [(0, .ref (az_ad V 40)), (1, .int x1), (2, .int x2), (3, .int x3), (4, .int x4), (5, .int x5), (6, .int x6)] [.int s0] := by
  have o40 := C.hL.at 40 (ci := 12) rfl
  unfold f_X12_findMarks_188 at h
  refine az_istore C dX12_findMarks_188 (by decide) rfl ?_
  refine az_aload_n C 1 dX12_findMarks_190 rfl ?_
  refine az_bipush (v := 16) C dX12_findMarks_191 (by decide) ?_
  obtain ⟨q27, e28, h⟩ := az_b h
  refine az_callV C [.int 16] (c_X12_putBack C.hL G 16 M e28) (by decide) li_X12_166 o40 (by decide) rfl rfl (Nat.le_of_ble_eq_true rfl) dX12_findMarks_193 (fun v M1 hv => ?_)
  obtain ⟨rfl, rfl⟩ := hv
  refine az_eqst (st' := []) rfl ?_
  refine az_iconst (v := 0) C dX12_findMarks_196 (by decide) ?_
  refine az_istore C dX12_findMarks_197 (by decide) rfl ?_
  refine az_sub [2, 3, 4, 5, 6, 7, 8, 1, 0] rfl ?_
  exact s_X12_findMarks_199 C G K35 hK35 G x1 x2 x3 x4 x5 x6 s0 0 q27 r h hp
set_option maxHeartbeats 4000000 in
set_option maxRecDepth 100000 in
theorem s_X12_findMarks_187 {Y : az_Y} {V : az_V} {post : Option Value → az_M → Prop} (C : az_C Y V cX12_findMarks 10 RX12 (some .int) 8) (G : Nat) (K35 : (Int32 → Int32 → Int32 → Int32 → Int32 → Int32 → az_M → Option (Int32 × az_M))) (hK35 : ∀ (x1 : Int32) (x2 : Int32) (x3 : Int32) (x4 : Int32) (x5 : Int32) (x6 : Int32) (M : az_M) (r : (Int32 × az_M)), K35 x1 x2 x3 x4 x5 x6 M = some r → post (some (.int r.1)) r.2 → AW Y V (az_end Y V post) 10 M 35 [(0, .ref (az_ad V 40)), (1, .int x1), (2, .int x2), (3, .int x3), (4, .int x4), (5, .int x5), (6, .int x6)] []) (x1 : Int32) (x2 : Int32) (x3 : Int32) (x4 : Int32) (x5 : Int32) (x6 : Int32) (M : az_M) (r : (Int32 × az_M)) (h : f_X12_findMarks_187 G K35 x1 x2 x3 x4 x5 x6 M = some r) (hp : post (some (.int r.1)) r.2) : AW Y V (az_end Y V post) 10 M 187 [(0, .ref (az_ad V 40)), (1, .int x1), (2, .int x2), (3, .int x3), (4, .int x4), (5, .int x5), (6, .int x6)] [] := by
  unfold f_X12_findMarks_187 at h
  refine az_iconst (v := 0) C dX12_findMarks_187 (by decide) ?_
  exact s_X12_findMarks_188 C G K35 hK35 x1 x2 x3 x4 x5 x6 0 M r h hp
set_option maxHeartbeats 4000000 in
set_option maxRecDepth 100000 in
theorem s_X12_findMarks_160 {Y : az_Y} {V : az_V} {post : Option Value → az_M → Prop} (C : az_C Y V cX12_findMarks 10 RX12 (some .int) 8) (G : Nat) (K35 : (Int32 → Int32 → Int32 → Int32 → Int32 → Int32 → az_M → Option (Int32 × az_M))) (hK35 : ∀ (x1 : Int32) (x2 : Int32) (x3 : Int32) (x4 : Int32) (x5 : Int32) (x6 : Int32) (M : az_M) (r : (Int32 × az_M)), K35 x1 x2 x3 x4 x5 x6 M = some r → post (some (.int r.1)) r.2 → AW Y V (az_end Y V post) 10 M 35 [(0, .ref (az_ad V 40)), (1, .int x1), (2, .int x2), (3, .int x3), (4, .int x4), (5, .int x5), (6, .int x6)] []) (x1 : Int32) (x2 : Int32) (x3 : Int32) (x4 : Int32) (x5 : Int32) (x6 : Int32) (x8 : Int32) (M : az_M) (r : (Int32 × az_M)) (h : f_X12_findMarks_160 G K35 x1 x2 x3 x4 x5 x6 x8 M = some r) (hp : post (some (.int r.1)) r.2) : AW Y V (az_end Y V post) 10 M 160 [(0, .ref (az_ad V 40)), (1, .int x1), (2, .int x2), (3, .int x3), (4, .int x4), (5, .int x5), (6, .int x6), (8, .int x8)] [] := by
  have o40 := C.hL.at 40 (ci := 12) rfl
  unfold f_X12_findMarks_160 at h
  refine az_iload C 7 dX12_findMarks_160 rfl ?_
  refine az_if_eq C 187 dX12_findMarks_162 (by decide) (fun c20 => ?_) (fun c20 => ?_)
  · have h := az_t c20 h
    refine az_sub [0, 1, 2, 3, 4, 5, 6] rfl ?_
    exact s_X12_findMarks_187 C G K35 hK35 x1 x2 x3 x4 x5 x6 M r h hp
  · have h := az_f c20 h
    refine az_aload_n C 0 dX12_findMarks_165 rfl ?_
    refine az_iconst (v := 0) C dX12_findMarks_166 (by decide) ?_
    obtain ⟨q21, e22, h⟩ := az_b h
    refine az_callV C [.int 0] (c_X12_bulletOf C.hL 0 M e22) (by decide) li_X12_186 o40 (by decide) rfl rfl (Nat.le_of_ble_eq_true rfl) dX12_findMarks_167 (fun v M1 hv => ?_)
    obtain ⟨rfl, rfl⟩ := hv
    refine az_eqst (st' := [.int q21]) rfl ?_
    refine az_iload_n C 2 dX12_findMarks_170 rfl ?_
    refine az_icmp_ne C 187 dX12_findMarks_171 (by decide) (fun c23 => ?_) (fun c23 => ?_)
    · have h := az_f c23 h
      refine az_sub [0, 1, 2, 3, 4, 5, 6] rfl ?_
      exact s_X12_findMarks_187 C G K35 hK35 x1 x2 x3 x4 x5 x6 M r h hp
    · have h := az_t c23 h
      refine az_aload_n C 0 dX12_findMarks_174 rfl ?_
      refine az_iconst (v := 1) C dX12_findMarks_175 (by decide) ?_
      obtain ⟨q24, e25, h⟩ := az_b h
      refine az_callV C [.int 1] (c_X12_bulletOf C.hL 1 M e25) (by decide) li_X12_186 o40 (by decide) rfl rfl (Nat.le_of_ble_eq_true rfl) dX12_findMarks_176 (fun v M1 hv => ?_)
      obtain ⟨rfl, rfl⟩ := hv
      refine az_eqst (st' := [.int q24]) rfl ?_
      refine az_iload_n C 3 dX12_findMarks_179 rfl ?_
      refine az_icmp_ne C 187 dX12_findMarks_180 (by decide) (fun c26 => ?_) (fun c26 => ?_)
      · have h := az_f c26 h
        refine az_sub [0, 1, 2, 3, 4, 5, 6] rfl ?_
        exact s_X12_findMarks_187 C G K35 hK35 x1 x2 x3 x4 x5 x6 M r h hp
      · have h := az_t c26 h
        refine az_iconst (v := 1) C dX12_findMarks_183 (by decide) ?_
        refine az_goto C 188 dX12_findMarks_184 (by decide) ?_
        refine az_sub [0, 1, 2, 3, 4, 5, 6] rfl ?_
        exact s_X12_findMarks_188 C G K35 hK35 x1 x2 x3 x4 x5 x6 1 M r h hp
set_option maxHeartbeats 4000000 in
set_option maxRecDepth 100000 in
theorem s_X12_findMarks_95 {Y : az_Y} {V : az_V} {post : Option Value → az_M → Prop} (C : az_C Y V cX12_findMarks 10 RX12 (some .int) 8) (G : Nat) (K35 : (Int32 → Int32 → Int32 → Int32 → Int32 → Int32 → az_M → Option (Int32 × az_M))) (hK35 : ∀ (x1 : Int32) (x2 : Int32) (x3 : Int32) (x4 : Int32) (x5 : Int32) (x6 : Int32) (M : az_M) (r : (Int32 × az_M)), K35 x1 x2 x3 x4 x5 x6 M = some r → post (some (.int r.1)) r.2 → AW Y V (az_end Y V post) 10 M 35 [(0, .ref (az_ad V 40)), (1, .int x1), (2, .int x2), (3, .int x3), (4, .int x4), (5, .int x5), (6, .int x6)] []) : ∀ (F : Nat) (x1 : Int32) (x2 : Int32) (x3 : Int32) (x4 : Int32) (x5 : Int32) (x6 : Int32) (x8 : Int32) (x9 : Int32) (M : az_M) (r : (Int32 × az_M)), f_X12_findMarks_95 G K35 F x1 x2 x3 x4 x5 x6 x8 x9 M = some r → post (some (.int r.1)) r.2 → AW Y V (az_end Y V post) 10 M 95 [(0, .ref (az_ad V 40)), (1, .int x1), (2, .int x2), (3, .int x3), (4, .int x4), (5, .int x5), (6, .int x6), (8, .int x8), (9, .int x9)] [] := by
  have o40 := C.hL.at 40 (ci := 12) rfl
  have a67 := C.hL.ar 67 (t := 0) (len := 3) rfl
  intro F
  induction F with
  | zero =>
    intro x1 x2 x3 x4 x5 x6 x8 x9 M r h
    exact absurd (show (none : Option (Int32 × az_M)) = some r from h) (fun q => by cases q)
  | succ F ih =>
    intro x1 x2 x3 x4 x5 x6 x8 x9 M r h hp
    rw [f_X12_findMarks_95] at h
    refine az_iload C 8 dX12_findMarks_95 rfl ?_
    refine az_iload_n C 1 dX12_findMarks_97 rfl ?_
    refine az_icmp_ge C 160 dX12_findMarks_98 (by decide) (fun c7 => ?_) (fun c7 => ?_)
    · have h := az_t c7 h
      refine az_sub [0, 1, 2, 3, 4, 5, 6, 7] rfl ?_
      exact s_X12_findMarks_160 C G K35 hK35 x1 x2 x3 x4 x5 x6 x8 M r h hp
    · have h := az_f c7 h
      refine az_iload C 7 dX12_findMarks_101 rfl ?_
      refine az_if_eq C 160 dX12_findMarks_103 (by decide) (fun c8 => ?_) (fun c8 => ?_)
      · have h := az_t c8 h
        refine az_sub [0, 1, 2, 3, 4, 5, 6, 7] rfl ?_
        exact s_X12_findMarks_160 C G K35 hK35 x1 x2 x3 x4 x5 x6 x8 M r h hp
      · have h := az_f c8 h
        refine az_aload_n C 0 dX12_findMarks_106 rfl ?_
        refine az_aload_n C 0 dX12_findMarks_107 rfl ?_
        refine az_getr (r := 67) C o40 fl_X12_134 rfl rfl dX12_findMarks_108 ?_
        refine az_iload C 8 dX12_findMarks_111 rfl ?_
        obtain ⟨g9, h⟩ := az_g h
        refine az_ild (k := x9.toNatClampNeg) C a67 g9 rfl dX12_findMarks_113 ?_
        refine az_iconst (v := 0) C dX12_findMarks_114 (by decide) ?_
        obtain ⟨q10, e11, h⟩ := az_b h
        refine az_callV C [.int (M.1 67 x9.toNatClampNeg), .int 0] (c_X12_ofPlace C.hL (M.1 67 x9.toNatClampNeg) 0 M e11) (by decide) li_X12_221 o40 (by decide) rfl rfl (Nat.le_of_ble_eq_true rfl) dX12_findMarks_115 (fun v M1 hv => ?_)
        obtain ⟨rfl, rfl⟩ := hv
        refine az_eqst (st' := [.int q10]) rfl ?_
        refine az_iconst (v := 2) C dX12_findMarks_118 (by decide) ?_
        refine az_icmp_eq C 134 dX12_findMarks_119 (by decide) (fun c12 => ?_) (fun c12 => ?_)
        · have h := az_t c12 h
          refine az_sub [0, 1, 2, 3, 4, 5, 6, 8] rfl ?_
          exact s_X12_findMarks_134 C G K35 (f_X12_findMarks_95 G K35 F) hK35 ih x1 x2 x3 x4 x5 x6 x9 M r h hp
        · have h := az_f c12 h
          refine az_aload_n C 0 dX12_findMarks_122 rfl ?_
          refine az_iconst (v := 0) C dX12_findMarks_123 (by decide) ?_
          obtain ⟨q13, e14, h⟩ := az_b h
          refine az_callV C [.int 0] (c_X12_bulletOf C.hL 0 M e14) (by decide) li_X12_186 o40 (by decide) rfl rfl (Nat.le_of_ble_eq_true rfl) dX12_findMarks_124 (fun v M1 hv => ?_)
          obtain ⟨rfl, rfl⟩ := hv
          refine az_eqst (st' := [.int q13]) rfl ?_
          refine az_if_le C 134 dX12_findMarks_127 (by decide) (fun c15 => ?_) (fun c15 => ?_)
          · have h := az_t c15 h
            refine az_sub [0, 1, 2, 3, 4, 5, 6, 8] rfl ?_
            exact s_X12_findMarks_134 C G K35 (f_X12_findMarks_95 G K35 F) hK35 ih x1 x2 x3 x4 x5 x6 x9 M r h hp
          · have h := az_f c15 h
            refine az_iconst (v := 1) C dX12_findMarks_130 (by decide) ?_
            refine az_goto C 135 dX12_findMarks_131 (by decide) ?_
            refine az_sub [0, 1, 2, 3, 4, 5, 6, 8] rfl ?_
            exact s_X12_findMarks_135 C G K35 (f_X12_findMarks_95 G K35 F) hK35 ih x1 x2 x3 x4 x5 x6 x9 1 M r h hp
set_option maxHeartbeats 4000000 in
set_option maxRecDepth 100000 in
theorem s_X12_findMarks_51 {Y : az_Y} {V : az_V} {post : Option Value → az_M → Prop} (C : az_C Y V cX12_findMarks 10 RX12 (some .int) 8) (G : Nat) (K35 : (Int32 → Int32 → Int32 → Int32 → Int32 → Int32 → az_M → Option (Int32 × az_M))) (hK35 : ∀ (x1 : Int32) (x2 : Int32) (x3 : Int32) (x4 : Int32) (x5 : Int32) (x6 : Int32) (M : az_M) (r : (Int32 × az_M)), K35 x1 x2 x3 x4 x5 x6 M = some r → post (some (.int r.1)) r.2 → AW Y V (az_end Y V post) 10 M 35 [(0, .ref (az_ad V 40)), (1, .int x1), (2, .int x2), (3, .int x3), (4, .int x4), (5, .int x5), (6, .int x6)] []) : ∀ (F : Nat) (x1 : Int32) (x2 : Int32) (x3 : Int32) (x4 : Int32) (x5 : Int32) (x6 : Int32) (x7 : Int32) (x8 : Int32) (M : az_M) (r : (Int32 × az_M)), f_X12_findMarks_51 G K35 F x1 x2 x3 x4 x5 x6 x7 x8 M = some r → post (some (.int r.1)) r.2 → AW Y V (az_end Y V post) 10 M 51 [(0, .ref (az_ad V 40)), (1, .int x1), (2, .int x2), (3, .int x3), (4, .int x4), (5, .int x5), (6, .int x6), (7, .int x7), (8, .int x8)] [] := by
  have o40 := C.hL.at 40 (ci := 12) rfl
  have a42 := C.hL.ar 42 (t := 0) (len := 5550) rfl
  have a67 := C.hL.ar 67 (t := 0) (len := 3) rfl
  intro F
  induction F with
  | zero =>
    intro x1 x2 x3 x4 x5 x6 x7 x8 M r h
    exact absurd (show (none : Option (Int32 × az_M)) = some r from h) (fun q => by cases q)
  | succ F ih =>
    intro x1 x2 x3 x4 x5 x6 x7 x8 M r h hp
    rw [f_X12_findMarks_51] at h
    refine az_iload C 8 dX12_findMarks_51 rfl ?_
    refine az_if_lt C 89 dX12_findMarks_53 (by decide) (fun c3 => ?_) (fun c3 => ?_)
    · have h := az_t c3 h
      refine az_iconst (v := 1) C dX12_findMarks_89 (by decide) ?_
      refine az_istore C dX12_findMarks_90 (by decide) rfl ?_
      refine az_iconst (v := 0) C dX12_findMarks_92 (by decide) ?_
      refine az_istore C dX12_findMarks_93 (by decide) rfl ?_
      refine az_sub [2, 3, 4, 5, 6, 7, 8, 1, 0] rfl ?_
      exact s_X12_findMarks_95 C G K35 hK35 G x1 x2 x3 x4 x5 x6 1 0 M r h hp
    · have h := az_f c3 h
      refine az_aload_n C 0 dX12_findMarks_56 rfl ?_
      refine az_getr (r := 67) C o40 fl_X12_134 rfl rfl dX12_findMarks_57 ?_
      refine az_iload C 8 dX12_findMarks_60 rfl ?_
      refine az_iload C 7 dX12_findMarks_62 rfl ?_
      refine az_aload_n C 0 dX12_findMarks_64 rfl ?_
      refine az_getr (r := 42) C o40 fl_X12_13 rfl rfl dX12_findMarks_65 ?_
      refine az_iconst (v := 0) C dX12_findMarks_68 (by decide) ?_
      refine az_ild (k := 0) C a42 (by decide) (by decide) dX12_findMarks_69 ?_
      obtain ⟨g4, h⟩ := az_g h
      refine az_irem2 C dX12_findMarks_70 g4 ?_
      obtain ⟨g5, h⟩ := az_g h
      refine az_ist (k := x8.toNatClampNeg) C a67 g5 rfl dX12_findMarks_71 ?_
      refine az_iload C 7 dX12_findMarks_72 rfl ?_
      refine az_aload_n C 0 dX12_findMarks_74 rfl ?_
      refine az_getr (r := 42) C o40 fl_X12_13 rfl rfl dX12_findMarks_75 ?_
      refine az_iconst (v := 0) C dX12_findMarks_78 (by decide) ?_
      refine az_ild (k := 0) C a42 (by decide) (by decide) dX12_findMarks_79 ?_
      obtain ⟨g6, h⟩ := az_g h
      refine az_idiv C dX12_findMarks_80 g6 ?_
      refine az_istore C dX12_findMarks_81 (by decide) rfl ?_
      refine az_iinc (v := (x8 + (-1))) C 8 dX12_findMarks_83 rfl rfl (by decide) rfl ?_
      refine az_goto C 51 dX12_findMarks_86 (by decide) ?_
      refine az_sub [2, 3, 4, 5, 6, 7, 8, 1, 0] rfl ?_
      exact ih x1 x2 x3 x4 x5 x6 (x7 / ((az_i M 67 x8.toNatClampNeg (az_rem x7 (M.1 42 0))).1 42 0)) (x8 + (-1)) (az_i M 67 x8.toNatClampNeg (az_rem x7 (M.1 42 0))) r h hp
set_option maxHeartbeats 4000000 in
set_option maxRecDepth 100000 in
theorem s_X12_findMarks_35 {Y : az_Y} {V : az_V} {post : Option Value → az_M → Prop} (C : az_C Y V cX12_findMarks 10 RX12 (some .int) 8) (G : Nat) : ∀ (F : Nat) (x1 : Int32) (x2 : Int32) (x3 : Int32) (x4 : Int32) (x5 : Int32) (x6 : Int32) (M : az_M) (r : (Int32 × az_M)), f_X12_findMarks_35 G F x1 x2 x3 x4 x5 x6 M = some r → post (some (.int r.1)) r.2 → AW Y V (az_end Y V post) 10 M 35 [(0, .ref (az_ad V 40)), (1, .int x1), (2, .int x2), (3, .int x3), (4, .int x4), (5, .int x5), (6, .int x6)] [] := by
  intro F
  induction F with
  | zero =>
    intro x1 x2 x3 x4 x5 x6 M r h
    exact absurd (show (none : Option (Int32 × az_M)) = some r from h) (fun q => by cases q)
  | succ F ih =>
    intro x1 x2 x3 x4 x5 x6 M r h hp
    rw [f_X12_findMarks_35] at h
    refine az_iload C 6 dX12_findMarks_35 rfl ?_
    refine az_iload C 4 dX12_findMarks_37 rfl ?_
    refine az_icmp_ge C 256 dX12_findMarks_39 (by decide) (fun c2 => ?_) (fun c2 => ?_)
    · have h := az_t c2 h
      refine az_iload C 5 dX12_findMarks_256 rfl ?_
      obtain rfl := Option.some.inj h
      exact az_iret C dX12_findMarks_258 hp
    · have h := az_f c2 h
      refine az_iload C 6 dX12_findMarks_42 rfl ?_
      refine az_istore C dX12_findMarks_44 (by decide) rfl ?_
      refine az_iload_n C 2 dX12_findMarks_46 rfl ?_
      refine az_iconst (v := 1) C dX12_findMarks_47 (by decide) ?_
      refine az_isub C dX12_findMarks_48 ?_
      refine az_istore C dX12_findMarks_49 (by decide) rfl ?_
      refine az_sub [2, 3, 4, 5, 6, 7, 8, 1, 0] rfl ?_
      exact s_X12_findMarks_51 C G (f_X12_findMarks_35 G F) ih G x1 x2 x3 x4 x5 x6 x6 (x1 - 1) M r h hp
set_option maxHeartbeats 4000000 in
set_option maxRecDepth 100000 in
theorem s_X12_findMarks_6 {Y : az_Y} {V : az_V} {post : Option Value → az_M → Prop} (C : az_C Y V cX12_findMarks 10 RX12 (some .int) 8) (G : Nat) : ∀ (F : Nat) (x1 : Int32) (x2 : Int32) (x3 : Int32) (x4 : Int32) (x5 : Int32) (M : az_M) (r : (Int32 × az_M)), f_X12_findMarks_6 G F x1 x2 x3 x4 x5 M = some r → post (some (.int r.1)) r.2 → AW Y V (az_end Y V post) 10 M 6 [(0, .ref (az_ad V 40)), (1, .int x1), (2, .int x2), (3, .int x3), (4, .int x4), (5, .int x5)] [] := by
  have o40 := C.hL.at 40 (ci := 12) rfl
  have a42 := C.hL.ar 42 (t := 0) (len := 5550) rfl
  intro F
  induction F with
  | zero =>
    intro x1 x2 x3 x4 x5 M r h
    exact absurd (show (none : Option (Int32 × az_M)) = some r from h) (fun q => by cases q)
  | succ F ih =>
    intro x1 x2 x3 x4 x5 M r h hp
    rw [f_X12_findMarks_6] at h
    refine az_iload C 5 dX12_findMarks_6 rfl ?_
    refine az_iload_n C 1 dX12_findMarks_8 rfl ?_
    refine az_icmp_ge C 29 dX12_findMarks_9 (by decide) (fun c1 => ?_) (fun c1 => ?_)
    · have h := az_t c1 h
      refine az_iconst (v := 0) C dX12_findMarks_29 (by decide) ?_
      refine az_istore C dX12_findMarks_30 (by decide) rfl ?_
      refine az_iconst (v := 0) C dX12_findMarks_32 (by decide) ?_
      refine az_istore C dX12_findMarks_33 (by decide) rfl ?_
      refine az_sub [2, 3, 4, 5, 6, 1, 0] rfl ?_
      exact s_X12_findMarks_35 C G G x1 x2 x3 x4 0 0 M r h hp
    · have h := az_f c1 h
      refine az_iload C 4 dX12_findMarks_12 rfl ?_
      refine az_aload_n C 0 dX12_findMarks_14 rfl ?_
      refine az_getr (r := 42) C o40 fl_X12_13 rfl rfl dX12_findMarks_15 ?_
      refine az_iconst (v := 0) C dX12_findMarks_18 (by decide) ?_
      refine az_ild (k := 0) C a42 (by decide) (by decide) dX12_findMarks_19 ?_
      refine az_imul C dX12_findMarks_20 ?_
      refine az_istore C dX12_findMarks_21 (by decide) rfl ?_
      refine az_iinc (v := (x5 + 1)) C 5 dX12_findMarks_23 rfl rfl (by decide) rfl ?_
      refine az_goto C 6 dX12_findMarks_26 (by decide) ?_
      refine az_sub [2, 3, 4, 5, 1, 0] rfl ?_
      exact ih x1 x2 x3 (x4 * (M.1 42 0)) (x5 + 1) M r h hp
set_option maxHeartbeats 4000000 in
set_option maxRecDepth 100000 in
theorem s_X12_findMarks_e {Y : az_Y} {V : az_V} {post : Option Value → az_M → Prop} (C : az_C Y V cX12_findMarks 10 RX12 (some .int) 8) (G : Nat) (p0 : Int32) (p1 : Int32) (p2 : Int32) (M : az_M) (r : (Int32 × az_M)) (h : f_X12_findMarks G p0 p1 p2 M = some r) (hp : post (some (.int r.1)) r.2) : AW Y V (az_end Y V post) 10 M 0 [(0, .ref (az_ad V 40)), (1, .int p0), (2, .int p1), (3, .int p2)] [] := by
  unfold f_X12_findMarks at h
  refine az_iconst (v := 1) C dX12_findMarks_0 (by decide) ?_
  refine az_istore C dX12_findMarks_1 (by decide) rfl ?_
  refine az_iconst (v := 0) C dX12_findMarks_3 (by decide) ?_
  refine az_istore C dX12_findMarks_4 (by decide) rfl ?_
  refine az_sub [2, 3, 4, 5, 1, 0] rfl ?_
  exact s_X12_findMarks_6 C G G p0 p1 p2 1 0 M r h hp
theorem c_X12_findMarks {l : Launch} {V : az_V} (hL : az_L V) (G : Nat) (p0 : Int32) (p1 : Int32) (p2 : Int32) (M : az_M) {r : (Int32 × az_M)} (h : f_X12_findMarks G p0 p1 p2 M = some r) : az_Ct l V yX12_findMarks cX12_findMarks 10 (some .int) 8 [.ref (az_ad V 40), .int p0, .int p1, .int p2] M (fun v M' => v = some (.int r.1) ∧ M' = r.2) :=
  az_Ct.of (by decide) (Nat.le_of_ble_eq_true rfl) (fun Y _ _ C => s_X12_findMarks_e C G p0 p1 p2 M r h ⟨rfl, rfl⟩)
set_option maxHeartbeats 4000000 in
set_option maxRecDepth 100000 in
theorem s_X12_marks_57 {Y : az_Y} {V : az_V} {post : Option Value → az_M → Prop} (C : az_C Y V cX12_marks 6 RX12 (some .int) 9) (G : Nat)  (M : az_M) (r : (Int32 × az_M)) (h : f_X12_marks_57 G M = some r) (hp : post (some (.int r.1)) r.2) : AW Y V (az_end Y V post) 6 M 57 [] [] := by
  unfold f_X12_marks_57 at h
  refine az_iconst (v := (-1)) C dX12_marks_57 (by decide) ?_
  obtain rfl := Option.some.inj h
  exact az_iret C dX12_marks_58 hp
set_option maxHeartbeats 4000000 in
set_option maxRecDepth 100000 in
theorem s_X12_marks_101 {Y : az_Y} {V : az_V} {post : Option Value → az_M → Prop} (C : az_C Y V cX12_marks 6 RX12 (some .int) 9) (G : Nat) (s0 : Int32) (M : az_M) (r : (Int32 × az_M)) (h : f_X12_marks_101 G s0 M = some r) (hp : post (some (.int r.1)) r.2) : AW Y V (az_end Y V post) 6 M 101 [] [.int s0] := by
  unfold f_X12_marks_101 at h
  obtain rfl := Option.some.inj h
  exact az_iret C dX12_marks_101 hp
set_option maxHeartbeats 4000000 in
set_option maxRecDepth 100000 in
theorem s_X12_marks_e {Y : az_Y} {V : az_V} {post : Option Value → az_M → Prop} (C : az_C Y V cX12_marks 6 RX12 (some .int) 9) (G : Nat) (p0 : Int32) (p1 : Int32) (p2 : Int32) (p3 : Int32) (M : az_M) (r : (Int32 × az_M)) (h : f_X12_marks G p0 p1 p2 p3 M = some r) (hp : post (some (.int r.1)) r.2) : AW Y V (az_end Y V post) 6 M 0 [(0, .ref (az_ad V 40)), (1, .int p0), (2, .int p1), (3, .int p2), (4, .int p3)] [] := by
  have o40 := C.hL.at 40 (ci := 12) rfl
  have a66 := C.hL.ar 66 (t := 0) (len := 3) rfl
  unfold f_X12_marks at h
  refine az_aload_n C 0 dX12_marks_0 rfl ?_
  refine az_iconst (v := 0) C dX12_marks_1 (by decide) ?_
  refine az_puti C o40 fl_X12_149 rfl rfl rfl rfl dX12_marks_2 ?_
  refine az_iload_n C 1 dX12_marks_5 rfl ?_
  refine az_i2l C dX12_marks_6 ?_
  refine az_lconst (v := 1) C dX12_marks_7 (by decide) ?_
  refine az_ldc2 C ck_X12_198 dX12_marks_8 ?_
  obtain ⟨q1, e2, h⟩ := az_b h
  refine az_callS C [.long p0.toInt64, .long 1, .long 3] (c_X12_in C.hL p0.toInt64 1 3 (az_i M 40 0 0) e2) (by decide) li_X12_169 rfl rfl (Nat.le_of_ble_eq_true rfl) dX12_marks_11 (fun v M1 hv => ?_)
  obtain ⟨rfl, rfl⟩ := hv
  refine az_eqst (st' := [.int q1]) rfl ?_
  refine az_if_eq C 57 dX12_marks_14 (by decide) (fun c3 => ?_) (fun c3 => ?_)
  · have h := az_t c3 h
    refine az_sub [] rfl ?_
    exact s_X12_marks_57 C G (az_i M 40 0 0) r h hp
  · have h := az_f c3 h
    refine az_iload_n C 2 dX12_marks_17 rfl ?_
    refine az_i2l C dX12_marks_18 ?_
    refine az_lconst (v := 0) C dX12_marks_19 (by decide) ?_
    refine az_ldc2 C ck_X12_178 dX12_marks_20 ?_
    obtain ⟨q4, e5, h⟩ := az_b h
    refine az_callS C [.long p1.toInt64, .long 0, .long 999] (c_X12_in C.hL p1.toInt64 0 999 (az_i M 40 0 0) e5) (by decide) li_X12_169 rfl rfl (Nat.le_of_ble_eq_true rfl) dX12_marks_23 (fun v M1 hv => ?_)
    obtain ⟨rfl, rfl⟩ := hv
    refine az_eqst (st' := [.int q4]) rfl ?_
    refine az_if_eq C 57 dX12_marks_26 (by decide) (fun c6 => ?_) (fun c6 => ?_)
    · have h := az_t c6 h
      refine az_sub [] rfl ?_
      exact s_X12_marks_57 C G (az_i M 40 0 0) r h hp
    · have h := az_f c6 h
      refine az_iload_n C 3 dX12_marks_29 rfl ?_
      refine az_i2l C dX12_marks_30 ?_
      refine az_lconst (v := 0) C dX12_marks_31 (by decide) ?_
      refine az_ldc2 C ck_X12_180 dX12_marks_32 ?_
      obtain ⟨q7, e8, h⟩ := az_b h
      refine az_callS C [.long p2.toInt64, .long 0, .long 99] (c_X12_in C.hL p2.toInt64 0 99 (az_i M 40 0 0) e8) (by decide) li_X12_169 rfl rfl (Nat.le_of_ble_eq_true rfl) dX12_marks_35 (fun v M1 hv => ?_)
      obtain ⟨rfl, rfl⟩ := hv
      refine az_eqst (st' := [.int q7]) rfl ?_
      refine az_if_eq C 57 dX12_marks_38 (by decide) (fun c9 => ?_) (fun c9 => ?_)
      · have h := az_t c9 h
        refine az_sub [] rfl ?_
        exact s_X12_marks_57 C G (az_i M 40 0 0) r h hp
      · have h := az_f c9 h
        refine az_iload C 4 dX12_marks_41 rfl ?_
        refine az_i2l C dX12_marks_43 ?_
        refine az_ldc2 C ck_X12_297 dX12_marks_44 ?_
        refine az_iload_n C 1 dX12_marks_47 rfl ?_
        refine az_i2l C dX12_marks_48 ?_
        refine az_lconst (v := 1) C dX12_marks_49 (by decide) ?_
        refine az_lsub C dX12_marks_50 ?_
        obtain ⟨q10, e11, h⟩ := az_b h
        refine az_callS C [.long p3.toInt64, .long (-1), .long (p0.toInt64 - 1)] (c_X12_in C.hL p3.toInt64 (-1) (p0.toInt64 - 1) (az_i M 40 0 0) e11) (by decide) li_X12_169 rfl rfl (Nat.le_of_ble_eq_true rfl) dX12_marks_51 (fun v M1 hv => ?_)
        obtain ⟨rfl, rfl⟩ := hv
        refine az_eqst (st' := [.int q10]) rfl ?_
        refine az_if_ne C 59 dX12_marks_54 (by decide) (fun c12 => ?_) (fun c12 => ?_)
        · have h := az_f c12 h
          refine az_aload_n C 0 dX12_marks_59 rfl ?_
          refine az_bipush (v := 16) C dX12_marks_60 (by decide) ?_
          obtain ⟨q13, e14, h⟩ := az_b h
          refine az_callV C [.int 16] (c_X12_keepAll C.hL G 16 (az_i M 40 0 0) e14) (by decide) li_X12_162 o40 (by decide) rfl rfl (Nat.le_of_ble_eq_true rfl) dX12_marks_62 (fun v M1 hv => ?_)
          obtain ⟨rfl, rfl⟩ := hv
          refine az_eqst (st' := []) rfl ?_
          refine az_aload_n C 0 dX12_marks_65 rfl ?_
          refine az_iload_n C 1 dX12_marks_66 rfl ?_
          refine az_iload_n C 2 dX12_marks_67 rfl ?_
          refine az_iload_n C 3 dX12_marks_68 rfl ?_
          obtain ⟨q15, e16, h⟩ := az_b h
          refine az_callV C [.int p0, .int p1, .int p2] (c_X12_findMarks C.hL G p0 p1 p2 q13 e16) (by decide) li_X12_524 o40 (by decide) rfl rfl (Nat.le_of_ble_eq_true rfl) dX12_marks_69 (fun v M1 hv => ?_)
          obtain ⟨rfl, rfl⟩ := hv
          refine az_eqst (st' := [.int q15.1]) rfl ?_
          refine az_istore C dX12_marks_72 (by decide) rfl ?_
          refine az_iload C 5 dX12_marks_74 rfl ?_
          refine az_iconst (v := (-1)) C dX12_marks_76 (by decide) ?_
          refine az_icmp_ne C 85 dX12_marks_77 (by decide) (fun c17 => ?_) (fun c17 => ?_)
          · have h := az_f c17 h
            refine az_iload C 0 dX12_marks_85 rfl ?_
            refine az_if_ne C 94 dX12_marks_87 (by decide) (fun c18 => ?_) (fun c18 => ?_)
            · have h := az_f c18 h
              refine az_aload_n C 1 dX12_marks_94 rfl ?_
              refine az_getr (r := 66) C o40 fl_X12_131 rfl rfl dX12_marks_95 ?_
              refine az_iload C 5 dX12_marks_98 rfl ?_
              obtain ⟨g19, h⟩ := az_g h
              refine az_ild (k := p3.toNatClampNeg) C a66 g19 rfl dX12_marks_100 ?_
              refine az_sub [] rfl ?_
              exact s_X12_marks_101 C G (q15.2.1 66 p3.toNatClampNeg) q15.2 r h hp
            · have h := az_t c18 h
              refine az_iconst (v := (-1)) C dX12_marks_90 (by decide) ?_
              refine az_goto C 101 dX12_marks_91 (by decide) ?_
              refine az_sub [] rfl ?_
              exact s_X12_marks_101 C G (-1) q15.2 r h hp
          · have h := az_t c17 h
            refine az_iload C 0 dX12_marks_80 rfl ?_
            refine az_goto C 101 dX12_marks_82 (by decide) ?_
            refine az_sub [] rfl ?_
            exact s_X12_marks_101 C G q15.1 q15.2 r h hp
        · have h := az_t c12 h
          refine az_sub [] rfl ?_
          exact s_X12_marks_57 C G (az_i M 40 0 0) r h hp
theorem c_X12_marks {l : Launch} {V : az_V} (hL : az_L V) (G : Nat) (p0 : Int32) (p1 : Int32) (p2 : Int32) (p3 : Int32) (M : az_M) {r : (Int32 × az_M)} (h : f_X12_marks G p0 p1 p2 p3 M = some r) : az_Ct l V yX12_marks cX12_marks 6 (some .int) 9 [.ref (az_ad V 40), .int p0, .int p1, .int p2, .int p3] M (fun v M' => v = some (.int r.1) ∧ M' = r.2) :=
  az_Ct.of (by decide) (Nat.le_of_ble_eq_true rfl) (fun Y _ _ C => s_X12_marks_e C G p0 p1 p2 p3 M r h ⟨rfl, rfl⟩)
set_option maxHeartbeats 4000000 in
set_option maxRecDepth 100000 in
theorem s_X12_isWon_50 {Y : az_Y} {V : az_V} {post : Option Value → az_M → Prop} (C : az_C Y V cX12_isWon 4 RX12 (some .boolean) 7) (G : Nat) (s0 : Int32) (M : az_M) (r : (Int32 × az_M)) (h : f_X12_isWon_50 G s0 M = some r) (hp : post (some (.int r.1)) r.2) : AW Y V (az_end Y V post) 4 M 50 [] [.int s0] := by
  unfold f_X12_isWon_50 at h
  obtain ⟨g12, h⟩ := az_g2 h
  obtain rfl := Option.some.inj h
  exact az_zret C dX12_isWon_50 (az_nz g12) hp
set_option maxHeartbeats 4000000 in
set_option maxRecDepth 100000 in
theorem s_X12_isWon_49 {Y : az_Y} {V : az_V} {post : Option Value → az_M → Prop} (C : az_C Y V cX12_isWon 4 RX12 (some .boolean) 7) (G : Nat)  (M : az_M) (r : (Int32 × az_M)) (h : f_X12_isWon_49 G M = some r) (hp : post (some (.int r.1)) r.2) : AW Y V (az_end Y V post) 4 M 49 [] [] := by
  unfold f_X12_isWon_49 at h
  refine az_iconst (v := 0) C dX12_isWon_49 (by decide) ?_
  exact s_X12_isWon_50 C G 0 M r h hp
set_option maxHeartbeats 4000000 in
set_option maxRecDepth 100000 in
theorem s_X12_isWon_e {Y : az_Y} {V : az_V} {post : Option Value → az_M → Prop} (C : az_C Y V cX12_isWon 4 RX12 (some .boolean) 7) (G : Nat) (p0 : Int32) (p1 : Int32) (M : az_M) (r : (Int32 × az_M)) (h : f_X12_isWon G p0 p1 M = some r) (hp : post (some (.int r.1)) r.2) : AW Y V (az_end Y V post) 4 M 0 [(0, .ref (az_ad V 40)), (1, .int p0), (2, .int p1)] [] := by
  have o40 := C.hL.at 40 (ci := 12) rfl
  have a68 := C.hL.ar 68 (t := 2) (len := 1000) rfl
  unfold f_X12_isWon at h
  refine az_aload_n C 0 dX12_isWon_0 rfl ?_
  refine az_iload_n C 2 dX12_isWon_1 rfl ?_
  refine az_iconst (v := 0) C dX12_isWon_2 (by decide) ?_
  obtain ⟨q1, e2, h⟩ := az_b h
  refine az_callV C [.int p1, .int 0] (c_X12_ofPlace C.hL p1 0 M e2) (by decide) li_X12_221 o40 (by decide) rfl rfl (Nat.le_of_ble_eq_true rfl) dX12_isWon_3 (fun v M1 hv => ?_)
  obtain ⟨rfl, rfl⟩ := hv
  refine az_eqst (st' := [.int q1]) rfl ?_
  refine az_iconst (v := 2) C dX12_isWon_6 (by decide) ?_
  refine az_icmp_ne C 12 dX12_isWon_7 (by decide) (fun c3 => ?_) (fun c3 => ?_)
  · have h := az_f c3 h
    refine az_aload_n C 0 dX12_isWon_12 rfl ?_
    refine az_iload_n C 2 dX12_isWon_13 rfl ?_
    refine az_iload_n C 1 dX12_isWon_14 rfl ?_
    obtain ⟨q4, e5, h⟩ := az_b h
    refine az_callV C [.int p1, .int p0] (c_X12_wearsOf C.hL G p1 p0 M e5) (by decide) li_X12_212 o40 (by decide) rfl rfl (Nat.le_of_ble_eq_true rfl) dX12_isWon_15 (fun v M1 hv => ?_)
    obtain ⟨rfl, rfl⟩ := hv
    refine az_eqst (st' := [.int q4.1]) rfl ?_
    refine az_istore_n C dX12_isWon_18 rfl (by decide) rfl ?_
    refine az_iload_n C 0 dX12_isWon_19 rfl ?_
    refine az_if_le C 49 dX12_isWon_20 (by decide) (fun c6 => ?_) (fun c6 => ?_)
    · have h := az_t c6 h
      refine az_sub [] rfl ?_
      exact s_X12_isWon_49 C G q4.2 r h hp
    · have h := az_f c6 h
      refine az_iload_n C 2 dX12_isWon_23 rfl ?_
      refine az_iload_n C 0 dX12_isWon_24 rfl ?_
      refine az_isub C dX12_isWon_25 ?_
      refine az_aload_n C 1 dX12_isWon_26 rfl ?_
      refine az_iconst (v := 2) C dX12_isWon_27 (by decide) ?_
      obtain ⟨q7, e8, h⟩ := az_b h
      refine az_callV C [.int 2] (c_X12_term C.hL 2 q4.2 e8) (by decide) li_X12_189 o40 (by decide) rfl rfl (Nat.le_of_ble_eq_true rfl) dX12_isWon_28 (fun v M1 hv => ?_)
      obtain ⟨rfl, rfl⟩ := hv
      refine az_eqst (st' := [.int q7, .int (p0 - q4.1)]) rfl ?_
      refine az_icmp_lt C 49 dX12_isWon_31 (by decide) (fun c9 => ?_) (fun c9 => ?_)
      · have h := az_t c9 h
        refine az_sub [] rfl ?_
        exact s_X12_isWon_49 C G q4.2 r h hp
      · have h := az_f c9 h
        refine az_aload_n C 1 dX12_isWon_34 rfl ?_
        refine az_getr (r := 68) C o40 fl_X12_137 rfl rfl dX12_isWon_35 ?_
        refine az_iload_n C 2 dX12_isWon_38 rfl ?_
        refine az_iload_n C 0 dX12_isWon_39 rfl ?_
        refine az_isub C dX12_isWon_40 ?_
        obtain ⟨g10, h⟩ := az_g h
        refine az_zld (k := (p0 - q4.1).toNatClampNeg) C a68 g10 rfl dX12_isWon_41 ?_
        refine az_if_ne C 49 dX12_isWon_42 (by decide) (fun c11 => ?_) (fun c11 => ?_)
        · have h := az_f c11 h
          refine az_sub [] rfl ?_
          exact s_X12_isWon_49 C G q4.2 r h hp
        · have h := az_t c11 h
          refine az_iconst (v := 1) C dX12_isWon_45 (by decide) ?_
          refine az_goto C 50 dX12_isWon_46 (by decide) ?_
          refine az_sub [] rfl ?_
          exact s_X12_isWon_50 C G 1 q4.2 r h hp
  · have h := az_t c3 h
    refine az_iconst (v := 0) C dX12_isWon_10 (by decide) ?_
    obtain rfl := Option.some.inj h
    exact az_zret C dX12_isWon_11 rfl hp
theorem c_X12_isWon {l : Launch} {V : az_V} (hL : az_L V) (G : Nat) (p0 : Int32) (p1 : Int32) (M : az_M) {r : (Int32 × az_M)} (h : f_X12_isWon G p0 p1 M = some r) : az_Ct l V yX12_isWon cX12_isWon 4 (some .boolean) 7 [.ref (az_ad V 40), .int p0, .int p1] M (fun v M' => v = some (.int r.1) ∧ M' = r.2) :=
  az_Ct.of (by decide) (Nat.le_of_ble_eq_true rfl) (fun Y _ _ C => s_X12_isWon_e C G p0 p1 M r h ⟨rfl, rfl⟩)
