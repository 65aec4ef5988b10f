set_option maxHeartbeats 4000000 in
set_option maxRecDepth 100000 in
theorem s_X12_free_133 {Y : az_Y} {V : az_V} {post : Option Value → az_M → Prop} (C : az_C Y V cX12_free 8 RX12 (some .int) 2) (G : Nat) (K24 : (Int32 → Int32 → Int32 → Int32 → az_M → Option (Int32 × az_M))) (K46 : (Int32 → Int32 → Int32 → Int32 → Int32 → Int32 → Int32 → az_M → Option (Int32 × az_M))) (hK24 : ∀ (x1 : Int32) (x2 : Int32) (x3 : Int32) (x4 : Int32) (M : az_M) (r : (Int32 × az_M)), K24 x1 x2 x3 x4 M = some r → post (some (.int r.1)) r.2 → AW Y V (az_end Y V post) 8 M 24 [(0, .ref (az_ad V 40)), (1, .int x1), (2, .int x2), (3, .int x3), (4, .int x4)] []) (hK46 : ∀ (x1 : Int32) (x2 : Int32) (x3 : Int32) (x4 : Int32) (x5 : Int32) (x6 : Int32) (x7 : Int32) (M : az_M) (r : (Int32 × az_M)), K46 x1 x2 x3 x4 x5 x6 x7 M = some r → post (some (.int r.1)) r.2 → AW Y V (az_end Y V post) 8 M 46 [(0, .ref (az_ad V 40)), (1, .int x1), (2, .int x2), (3, .int x3), (4, .int x4), (5, .int x5), (6, .int x6), (7, .int x7)] []) (x1 : Int32) (x2 : Int32) (x3 : Int32) (x4 : Int32) (x5 : Int32) (x6 : Int32) (x7 : Int32) (M : az_M) (r : (Int32 × az_M)) (h : f_X12_free_133 G K24 K46 x1 x2 x3 x4 x5 x6 x7 M = some r) (hp : post (some (.int r.1)) r.2) : AW Y V (az_end Y V post) 8 M 133 [(0, .ref (az_ad V 40)), (1, .int x1), (2, .int x2), (3, .int x3), (4, .int x4), (5, .int x5), (6, .int x6), (7, .int x7)] [] := by
  unfold f_X12_free_133 at h
  refine az_iinc (v := (x7 + 1)) C 7 dX12_free_133 rfl rfl (by decide) rfl ?_
  refine az_goto C 46 dX12_free_136 (by decide) ?_
  refine az_sub [1, 2, 3, 4, 5, 6, 7, 0] rfl ?_
  exact hK46 x1 x2 x3 x4 x5 x6 (x7 + 1) M r h hp
set_option maxHeartbeats 4000000 in
set_option maxRecDepth 100000 in
theorem s_X12_free_107 {Y : az_Y} {V : az_V} {post : Option Value → az_M → Prop} (C : az_C Y V cX12_free 8 RX12 (some .int) 2) (G : Nat) (K24 : (Int32 → Int32 → Int32 → Int32 → az_M → Option (Int32 × az_M))) (K46 : (Int32 → Int32 → Int32 → Int32 → Int32 → Int32 → Int32 → az_M → Option (Int32 × az_M))) (hK24 : ∀ (x1 : Int32) (x2 : Int32) (x3 : Int32) (x4 : Int32) (M : az_M) (r : (Int32 × az_M)), K24 x1 x2 x3 x4 M = some r → post (some (.int r.1)) r.2 → AW Y V (az_end Y V post) 8 M 24 [(0, .ref (az_ad V 40)), (1, .int x1), (2, .int x2), (3, .int x3), (4, .int x4)] []) (hK46 : ∀ (x1 : Int32) (x2 : Int32) (x3 : Int32) (x4 : Int32) (x5 : Int32) (x6 : Int32) (x7 : Int32) (M : az_M) (r : (Int32 × az_M)), K46 x1 x2 x3 x4 x5 x6 x7 M = some r → post (some (.int r.1)) r.2 → AW Y V (az_end Y V post) 8 M 46 [(0, .ref (az_ad V 40)), (1, .int x1), (2, .int x2), (3, .int x3), (4, .int x4), (5, .int x5), (6, .int x6), (7, .int x7)] []) (x1 : Int32) (x2 : Int32) (x3 : Int32) (x4 : Int32) (x5 : Int32) (x7 : Int32) (s0 : Int32) (M : az_M) (r : (Int32 × az_M)) (h : f_X12_free_107 G K24 K46 x1 x2 x3 x4 x5 x7 s0 M = some r) (hp : post (some (.int r.1)) r.2) : AW Y V (az_end Y V post) 8 M 107 [(0, .ref (az_ad V 40)), (1, .int x1), (2, .int x2), (3, .int x3), (4, .int x4), (5, .int x5), (7, .int x7)] [.int s0] := by
  have o40 := C.hL.at 40 (ci := 12) rfl
  unfold f_X12_free_107 at h
  refine az_istore C dX12_free_107 (by decide) rfl ?_
  refine az_iload C 6 dX12_free_109 rfl ?_
  refine az_iconst (v := 1) C dX12_free_111 (by decide) ?_
  refine az_aload_n C 1 dX12_free_112 rfl ?_
  refine az_iload C 7 dX12_free_113 rfl ?_
  refine az_iconst (v := 0) C dX12_free_115 (by decide) ?_
  obtain ⟨q27, e28, h⟩ := az_b h
  refine az_cV (rest := [.int 1, .int x5]) (st2 := [.int q27, .int 1, .int x5]) C [.int x7, .int 0] (c_X12_ofQuarrel C.hL x7 0 M e28) (by decide) li_X12_238 o40 (by decide) rfl rfl (Nat.le_of_ble_eq_true rfl) dX12_free_116 rfl ?_
  refine az_ishl C dX12_free_119 ?_
  refine az_iconst (v := 1) C dX12_free_120 (by decide) ?_
  refine az_aload_n C 1 dX12_free_121 rfl ?_
  refine az_iload C 7 dX12_free_122 rfl ?_
  refine az_iconst (v := 1) C dX12_free_124 (by decide) ?_
  obtain ⟨q29, e30, h⟩ := az_b h
  refine az_cV (rest := [.int 1, .int (1 <<< (q27 &&& 31)), .int x5]) (st2 := [.int q29, .int 1, .int (1 <<< (q27 &&& 31)), .int x5]) C [.int x7, .int 1] (c_X12_ofQuarrel C.hL x7 1 M e30) (by decide) li_X12_238 o40 (by decide) rfl rfl (Nat.le_of_ble_eq_true rfl) dX12_free_125 rfl ?_
  refine az_ishl C dX12_free_128 ?_
  refine az_ior C dX12_free_129 ?_
  refine az_ior C dX12_free_130 ?_
  refine az_istore C dX12_free_131 (by decide) rfl ?_
  refine az_sub [2, 3, 4, 5, 6, 0, 1, 7] rfl ?_
  exact s_X12_free_133 C G K24 K46 hK24 hK46 x1 x2 x3 x4 (x5 ||| ((1 <<< (q27 &&& 31)) ||| (1 <<< (q29 &&& 31)))) s0 x7 M r h hp
set_option maxHeartbeats 4000000 in
set_option maxRecDepth 100000 in
theorem s_X12_free_106 {Y : az_Y} {V : az_V} {post : Option Value → az_M → Prop} (C : az_C Y V cX12_free 8 RX12 (some .int) 2) (G : Nat) (K24 : (Int32 → Int32 → Int32 → Int32 → az_M → Option (Int32 × az_M))) (K46 : (Int32 → Int32 → Int32 → Int32 → Int32 → Int32 → Int32 → az_M → Option (Int32 × az_M))) (hK24 : ∀ (x1 : Int32) (x2 : Int32) (x3 : Int32) (x4 : Int32) (M : az_M) (r : (Int32 × az_M)), K24 x1 x2 x3 x4 M = some r → post (some (.int r.1)) r.2 → AW Y V (az_end Y V post) 8 M 24 [(0, .ref (az_ad V 40)), (1, .int x1), (2, .int x2), (3, .int x3), (4, .int x4)] []) (hK46 : ∀ (x1 : Int32) (x2 : Int32) (x3 : Int32) (x4 : Int32) (x5 : Int32) (x6 : Int32) (x7 : Int32) (M : az_M) (r : (Int32 × az_M)), K46 x1 x2 x3 x4 x5 x6 x7 M = some r → post (some (.int r.1)) r.2 → AW Y V (az_end Y V post) 8 M 46 [(0, .ref (az_ad V 40)), (1, .int x1), (2, .int x2), (3, .int x3), (4, .int x4), (5, .int x5), (6, .int x6), (7, .int x7)] []) (x1 : Int32) (x2 : Int32) (x3 : Int32) (x4 : Int32) (x5 : Int32) (x7 : Int32) (M : az_M) (r : (Int32 × az_M)) (h : f_X12_free_106 G K24 K46 x1 x2 x3 x4 x5 x7 M = some r) (hp : post (some (.int r.1)) r.2) : AW Y V (az_end Y V post) 8 M 106 [(0, .ref (az_ad V 40)), (1, .int x1), (2, .int x2), (3, .int x3), (4, .int x4), (5, .int x5), (7, .int x7)] [] := by
  unfold f_X12_free_106 at h
  refine az_iconst (v := 0) C dX12_free_106 (by decide) ?_
  exact s_X12_free_107 C G K24 K46 hK24 hK46 x1 x2 x3 x4 x5 x7 0 M r h hp
set_option maxHeartbeats 4000000 in
set_option maxRecDepth 100000 in
theorem s_X12_free_162 {Y : az_Y} {V : az_V} {post : Option Value → az_M → Prop} (C : az_C Y V cX12_free 8 RX12 (some .int) 2) (G : Nat) (K24 : (Int32 → Int32 → Int32 → Int32 → az_M → Option (Int32 × az_M))) (hK24 : ∀ (x1 : Int32) (x2 : Int32) (x3 : Int32) (x4 : Int32) (M : az_M) (r : (Int32 × az_M)), K24 x1 x2 x3 x4 M = some r → post (some (.int r.1)) r.2 → AW Y V (az_end Y V post) 8 M 24 [(0, .ref (az_ad V 40)), (1, .int x1), (2, .int x2), (3, .int x3), (4, .int x4)] []) (x1 : Int32) (x2 : Int32) (x3 : Int32) (x4 : Int32) (M : az_M) (r : (Int32 × az_M)) (h : f_X12_free_162 G K24 x1 x2 x3 x4 M = some r) (hp : post (some (.int r.1)) r.2) : AW Y V (az_end Y V post) 8 M 162 [(0, .ref (az_ad V 40)), (1, .int x1), (2, .int x2), (3, .int x3), (4, .int x4)] [] := by
  unfold f_X12_free_162 at h
  refine az_iinc (v := (x4 + 1)) C 4 dX12_free_162 rfl rfl (by decide) rfl ?_
  refine az_goto C 24 dX12_free_165 (by decide) ?_
  refine az_sub [1, 2, 3, 4, 0] rfl ?_
  exact hK24 x1 x2 x3 (x4 + 1) M r h hp
set_option maxHeartbeats 4000000 in
set_option maxRecDepth 100000 in
theorem s_X12_free_46 {Y : az_Y} {V : az_V} {post : Option Value → az_M → Prop} (C : az_C Y V cX12_free 8 RX12 (some .int) 2) (G : Nat) (K24 : (Int32 → Int32 → Int32 → Int32 → az_M → Option (Int32 × az_M))) (hK24 : ∀ (x1 : Int32) (x2 : Int32) (x3 : Int32) (x4 : Int32) (M : az_M) (r : (Int32 × az_M)), K24 x1 x2 x3 x4 M = some r → post (some (.int r.1)) r.2 → AW Y V (az_end Y V post) 8 M 24 [(0, .ref (az_ad V 40)), (1, .int x1), (2, .int x2), (3, .int x3), (4, .int x4)] []) : ∀ (F : Nat) (x1 : Int32) (x2 : Int32) (x3 : Int32) (x4 : Int32) (x5 : Int32) (x6 : Int32) (x7 : Int32) (M : az_M) (r : (Int32 × az_M)), f_X12_free_46 G K24 F x1 x2 x3 x4 x5 x6 x7 M = some r → post (some (.int r.1)) r.2 → AW Y V (az_end Y V post) 8 M 46 [(0, .ref (az_ad V 40)), (1, .int x1), (2, .int x2), (3, .int x3), (4, .int x4), (5, .int x5), (6, .int x6), (7, .int x7)] [] := by
  have o40 := C.hL.at 40 (ci := 12) rfl
  have a42 := C.hL.ar 42 (t := 0) (len := 5550) rfl
  intro F
  induction F with
  | zero =>
    intro x1 x2 x3 x4 x5 x6 x7 M r h
    exact absurd (show (none : Option (Int32 × az_M)) = some r from h) (fun q => by cases q)
  | succ F ih =>
    intro x1 x2 x3 x4 x5 x6 x7 M r h hp
    rw [f_X12_free_46] at h
    refine az_iload C 7 dX12_free_46 rfl ?_
    refine az_aload_n C 0 dX12_free_48 rfl ?_
    refine az_getr (r := 42) C o40 fl_X12_13 rfl rfl dX12_free_49 ?_
    refine az_iconst (v := 2) C dX12_free_52 (by decide) ?_
    refine az_ild (k := 2) C a42 (az_vin (by decide)) (by decide) dX12_free_53 ?_
    refine az_icmp_ge C 139 dX12_free_54 (by decide) (fun c6 => ?_) (fun c6 => ?_)
    · have h := az_t c6 h
      refine az_iload C 6 dX12_free_139 rfl ?_
      refine az_if_eq C 162 dX12_free_141 (by decide) (fun c7 => ?_) (fun c7 => ?_)
      · have h := az_t c7 h
        refine az_sub [0, 1, 2, 3, 4] rfl ?_
        exact s_X12_free_162 C G K24 hK24 x1 x2 x3 x4 M r h hp
      · have h := az_f c7 h
        refine az_iload C 4 dX12_free_144 rfl ?_
        obtain ⟨q8, e9, h⟩ := az_b h
        refine az_cS (rest := []) (st2 := [.int q8]) C [.int x4] (c_X12_ones C.hL G x4 M e9) (by decide) li_X12_521 rfl rfl (Nat.le_of_ble_eq_true rfl) dX12_free_146 rfl ?_
        refine az_iload_n C 2 dX12_free_149 rfl ?_
        refine az_icmp_le C 162 dX12_free_150 (by decide) (fun c10 => ?_) (fun c10 => ?_)
        · have h := az_t c10 h
          refine az_sub [0, 1, 2, 3, 4] rfl ?_
          exact s_X12_free_162 C G K24 hK24 x1 x2 x3 x4 M r h hp
        · have h := az_f c10 h
          refine az_iload C 4 dX12_free_153 rfl ?_
          obtain ⟨q11, e12, h⟩ := az_b h
          refine az_cS (rest := []) (st2 := [.int q11]) C [.int x4] (c_X12_ones C.hL G x4 M e12) (by decide) li_X12_521 rfl rfl (Nat.le_of_ble_eq_true rfl) dX12_free_155 rfl ?_
          refine az_istore_n C dX12_free_158 rfl (by decide) rfl ?_
          refine az_iload C 4 dX12_free_159 rfl ?_
          refine az_istore_n C dX12_free_161 rfl (by decide) rfl ?_
          refine az_sub [2, 3, 1, 0, 4] rfl ?_
          exact s_X12_free_162 C G K24 hK24 x1 q11 x4 x4 M r h hp
    · have h := az_f c6 h
      refine az_iload C 4 dX12_free_57 rfl ?_
      refine az_iload C 7 dX12_free_59 rfl ?_
      obtain ⟨q13, e14, h⟩ := az_b h
      refine az_cS (rest := []) (st2 := [.int q13]) C [.int x4, .int x7] (c_X12_is C.hL x4 x7 M e14) (by decide) li_X12_518 rfl rfl (Nat.le_of_ble_eq_true rfl) dX12_free_61 rfl ?_
      refine az_if_eq C 133 dX12_free_64 (by decide) (fun c15 => ?_) (fun c15 => ?_)
      · have h := az_t c15 h
        exact s_X12_free_133 C G K24 (f_X12_free_46 G K24 F) hK24 ih x1 x2 x3 x4 x5 x6 x7 M r h hp
      · have h := az_f c15 h
        refine az_iload C 6 dX12_free_67 rfl ?_
        refine az_if_eq C 106 dX12_free_69 (by decide) (fun c16 => ?_) (fun c16 => ?_)
        · have h := az_t c16 h
          refine az_sub [0, 1, 2, 3, 4, 5, 7] rfl ?_
          exact s_X12_free_106 C G K24 (f_X12_free_46 G K24 F) hK24 ih x1 x2 x3 x4 x5 x7 M r h hp
        · have h := az_f c16 h
          refine az_iload C 5 dX12_free_72 rfl ?_
          refine az_aload_n C 0 dX12_free_74 rfl ?_
          refine az_iload C 7 dX12_free_75 rfl ?_
          refine az_iconst (v := 0) C dX12_free_77 (by decide) ?_
          obtain ⟨q17, e18, h⟩ := az_b h
          refine az_cV (rest := [.int x5]) (st2 := [.int q17, .int x5]) C [.int x7, .int 0] (c_X12_ofQuarrel C.hL x7 0 M e18) (by decide) li_X12_238 o40 (by decide) rfl rfl (Nat.le_of_ble_eq_true rfl) dX12_free_78 rfl ?_
          obtain ⟨q19, e20, h⟩ := az_b h
          refine az_cS (rest := []) (st2 := [.int q19]) C [.int x5, .int q17] (c_X12_is C.hL x5 q17 M e20) (by decide) li_X12_518 rfl rfl (Nat.le_of_ble_eq_true rfl) dX12_free_81 rfl ?_
          refine az_if_ne C 106 dX12_free_84 (by decide) (fun c21 => ?_) (fun c21 => ?_)
          · have h := az_f c21 h
            refine az_sub [0, 1, 2, 3, 4, 5, 7] rfl ?_
            exact s_X12_free_106 C G K24 (f_X12_free_46 G K24 F) hK24 ih x1 x2 x3 x4 x5 x7 M r h hp
          · have h := az_t c21 h
            refine az_iload C 5 dX12_free_87 rfl ?_
            refine az_aload_n C 0 dX12_free_89 rfl ?_
            refine az_iload C 7 dX12_free_90 rfl ?_
            refine az_iconst (v := 1) C dX12_free_92 (by decide) ?_
            obtain ⟨q22, e23, h⟩ := az_b h
            refine az_cV (rest := [.int x5]) (st2 := [.int q22, .int x5]) C [.int x7, .int 1] (c_X12_ofQuarrel C.hL x7 1 M e23) (by decide) li_X12_238 o40 (by decide) rfl rfl (Nat.le_of_ble_eq_true rfl) dX12_free_93 rfl ?_
            obtain ⟨q24, e25, h⟩ := az_b h
            refine az_cS (rest := []) (st2 := [.int q24]) C [.int x5, .int q22] (c_X12_is C.hL x5 q22 M e25) (by decide) li_X12_518 rfl rfl (Nat.le_of_ble_eq_true rfl) dX12_free_96 rfl ?_
            refine az_if_ne C 106 dX12_free_99 (by decide) (fun c26 => ?_) (fun c26 => ?_)
            · have h := az_f c26 h
              refine az_sub [0, 1, 2, 3, 4, 5, 7] rfl ?_
              exact s_X12_free_106 C G K24 (f_X12_free_46 G K24 F) hK24 ih x1 x2 x3 x4 x5 x7 M r h hp
            · have h := az_t c26 h
              refine az_iconst (v := 1) C dX12_free_102 (by decide) ?_
              refine az_goto C 107 dX12_free_103 (by decide) ?_
              refine az_sub [0, 1, 2, 3, 4, 5, 7] rfl ?_
              exact s_X12_free_107 C G K24 (f_X12_free_46 G K24 F) hK24 ih x1 x2 x3 x4 x5 x7 1 M r h hp
set_option maxHeartbeats 4000000 in
set_option maxRecDepth 100000 in
theorem s_X12_free_177 {Y : az_Y} {V : az_V} {post : Option Value → az_M → Prop} (C : az_C Y V cX12_free 8 RX12 (some .int) 2) (G : Nat) (s0 : Int32) (M : az_M) (r : (Int32 × az_M)) (h : f_X12_free_177 G s0 M = some r) (hp : post (some (.int r.1)) r.2) : AW Y V (az_end Y V post) 8 M 177 [] [.int s0] := by
  unfold f_X12_free_177 at h
  obtain rfl := Option.some.inj h
  exact az_iret C dX12_free_177 hp
set_option maxHeartbeats 4000000 in
set_option maxRecDepth 100000 in
theorem s_X12_free_24 {Y : az_Y} {V : az_V} {post : Option Value → az_M → Prop} (C : az_C Y V cX12_free 8 RX12 (some .int) 2) (G : Nat) : ∀ (F : Nat) (x1 : Int32) (x2 : Int32) (x3 : Int32) (x4 : Int32) (M : az_M) (r : (Int32 × az_M)), f_X12_free_24 G F x1 x2 x3 x4 M = some r → post (some (.int r.1)) r.2 → AW Y V (az_end Y V post) 8 M 24 [(0, .ref (az_ad V 40)), (1, .int x1), (2, .int x2), (3, .int x3), (4, .int x4)] [] := by
  have o40 := C.hL.at 40 (ci := 12) rfl
  have a42 := C.hL.ar 42 (t := 0) (len := 5550) rfl
  intro F
  induction F with
  | zero =>
    intro x1 x2 x3 x4 M r h
    exact absurd (show (none : Option (Int32 × az_M)) = some r from h) (fun q => by cases q)
  | succ F ih =>
    intro x1 x2 x3 x4 M r h hp
    rw [f_X12_free_24] at h
    refine az_iload C 4 dX12_free_24 rfl ?_
    refine az_iconst (v := 1) C dX12_free_26 (by decide) ?_
    refine az_aload_n C 0 dX12_free_27 rfl ?_
    refine az_getr (r := 42) C o40 fl_X12_13 rfl rfl dX12_free_28 ?_
    refine az_iconst (v := 2) C dX12_free_31 (by decide) ?_
    refine az_ild (k := 2) C a42 (az_vin (by decide)) (by decide) dX12_free_32 ?_
    refine az_ishl C dX12_free_33 ?_
    refine az_icmp_ge C 168 dX12_free_34 (by decide) (fun c4 => ?_) (fun c4 => ?_)
    · have h := az_t c4 h
      refine az_iload_n C 1 dX12_free_168 rfl ?_
      refine az_if_ne C 176 dX12_free_169 (by decide) (fun c5 => ?_) (fun c5 => ?_)
      · have h := az_f c5 h
        refine az_iload_n C 3 dX12_free_176 rfl ?_
        refine az_sub [] rfl ?_
        exact s_X12_free_177 C G x3 M r h hp
      · have h := az_t c5 h
        refine az_iload_n C 2 dX12_free_172 rfl ?_
        refine az_goto C 177 dX12_free_173 (by decide) ?_
        refine az_sub [] rfl ?_
        exact s_X12_free_177 C G x2 M r h hp
    · have h := az_f c4 h
      refine az_iconst (v := 0) C dX12_free_37 (by decide) ?_
      refine az_istore C dX12_free_38 (by decide) rfl ?_
      refine az_iconst (v := 1) C dX12_free_40 (by decide) ?_
      refine az_istore C dX12_free_41 (by decide) rfl ?_
      refine az_iconst (v := 0) C dX12_free_43 (by decide) ?_
      refine az_istore C dX12_free_44 (by decide) rfl ?_
      refine az_sub [3, 4, 5, 6, 7, 2, 1, 0] rfl ?_
      exact s_X12_free_46 C G (f_X12_free_24 G F) ih G x1 x2 x3 x4 0 1 0 M r h hp
set_option maxHeartbeats 4000000 in
set_option maxRecDepth 100000 in
theorem s_X12_free_e {Y : az_Y} {V : az_V} {post : Option Value → az_M → Prop} (C : az_C Y V cX12_free 8 RX12 (some .int) 2) (G : Nat) (p0 : Int32) (M : az_M) (r : (Int32 × az_M)) (h : f_X12_free G p0 M = some r) (hp : post (some (.int r.1)) r.2) : AW Y V (az_end Y V post) 8 M 0 [(0, .ref (az_ad V 40)), (1, .int p0)] [] := by
  have o40 := C.hL.at 40 (ci := 12) rfl
  unfold f_X12_free at h
  refine az_aload_n C 0 dX12_free_0 rfl ?_
  refine az_iconst (v := 0) C dX12_free_1 (by decide) ?_
  refine az_puti C o40 fl_X12_149 rfl rfl rfl rfl dX12_free_2 ?_
  refine az_iload_n C 1 dX12_free_5 rfl ?_
  refine az_i2l C dX12_free_6 ?_
  refine az_lconst (v := 0) C dX12_free_7 (by decide) ?_
  refine az_lconst (v := 1) C dX12_free_8 (by decide) ?_
  obtain ⟨q1, e2, h⟩ := az_b h
  refine az_cS (rest := []) (st2 := [.int q1]) C [.long p0.toInt64, .long 0, .long 1] (c_X12_in C.hL p0.toInt64 0 1 (az_i M 40 0 0) e2) (by decide) li_X12_169 rfl rfl (Nat.le_of_ble_eq_true rfl) dX12_free_9 rfl ?_
  refine az_if_ne C 17 dX12_free_12 (by decide) (fun c3 => ?_) (fun c3 => ?_)
  · have h := az_f c3 h
    refine az_iconst (v := (-1)) C dX12_free_17 (by decide) ?_
    refine az_istore_n C dX12_free_18 rfl (by decide) rfl ?_
    refine az_iconst (v := 0) C dX12_free_19 (by decide) ?_
    refine az_istore_n C dX12_free_20 rfl (by decide) rfl ?_
    refine az_iconst (v := 0) C dX12_free_21 (by decide) ?_
    refine az_istore C dX12_free_22 (by decide) rfl ?_
    refine az_sub [3, 4, 2, 1, 0] rfl ?_
    exact s_X12_free_24 C G G p0 (-1) 0 0 (az_i M 40 0 0) r h hp
  · have h := az_t c3 h
    refine az_iconst (v := (-1)) C dX12_free_15 (by decide) ?_
    obtain rfl := Option.some.inj h
    exact az_iret C dX12_free_16 hp
theorem c_X12_free {l : Launch} {V : az_V} (hL : az_L V) (G : Nat) (p0 : Int32) (M : az_M) {r : (Int32 × az_M)} (h : f_X12_free G p0 M = some r) : az_Ct l V yX12_free cX12_free 8 (some .int) 2 [.ref (az_ad V 40), .int p0] M (fun v M' => v = some (.int r.1) ∧ M' = r.2) :=
  az_Ct.of (by decide) (Nat.le_of_ble_eq_true rfl) (fun Y _ _ C => s_X12_free_e C G p0 M r h ⟨rfl, rfl⟩)
set_option maxHeartbeats 4000000 in
set_option maxRecDepth 100000 in
theorem s_X12_findMarks_154 {Y : az_Y} {V : az_V} {post : Option Value → az_M → Prop} (C : az_C Y V cX12_findMarks 10 RX12 (some .int) 8) (G : Nat) (K35 : (Int32 → Int32 → Int32 → Int32 → Int32 → Int32 → az_M → Option (Int32 × az_M))) (K95 : (Int32 → Int32 → Int32 → Int32 → Int32 → Int32 → Int32 → Int32 → az_M → Option (Int32 × az_M))) (hK35 : ∀ (x1 : Int32) (x2 : Int32) (x3 : Int32) (x4 : Int32) (x5 : Int32) (x6 : Int32) (M : az_M) (r : (Int32 × az_M)), K35 x1 x2 x3 x4 x5 x6 M = some r → post (some (.int r.1)) r.2 → AW Y V (az_end Y V post) 10 M 35 [(0, .ref (az_ad V 40)), (1, .int x1), (2, .int x2), (3, .int x3), (4, .int x4), (5, .int x5), (6, .int x6)] []) (hK95 : ∀ (x1 : Int32) (x2 : Int32) (x3 : Int32) (x4 : Int32) (x5 : Int32) (x6 : Int32) (x8 : Int32) (x9 : Int32) (M : az_M) (r : (Int32 × az_M)), K95 x1 x2 x3 x4 x5 x6 x8 x9 M = some r → post (some (.int r.1)) r.2 → AW Y V (az_end Y V post) 10 M 95 [(0, .ref (az_ad V 40)), (1, .int x1), (2, .int x2), (3, .int x3), (4, .int x4), (5, .int x5), (6, .int x6), (8, .int x8), (9, .int x9)] []) (x1 : Int32) (x2 : Int32) (x3 : Int32) (x4 : Int32) (x5 : Int32) (x6 : Int32) (x8 : Int32) (x9 : Int32) (M : az_M) (r : (Int32 × az_M)) (h : f_X12_findMarks_154 G K35 K95 x1 x2 x3 x4 x5 x6 x8 x9 M = some r) (hp : post (some (.int r.1)) r.2) : AW Y V (az_end Y V post) 10 M 154 [(0, .ref (az_ad V 40)), (1, .int x1), (2, .int x2), (3, .int x3), (4, .int x4), (5, .int x5), (6, .int x6), (8, .int x8), (9, .int x9)] [] := by
  unfold f_X12_findMarks_154 at h
  refine az_iinc (v := (x9 + 1)) C 8 dX12_findMarks_154 rfl rfl (by decide) rfl ?_
  refine az_goto C 95 dX12_findMarks_157 (by decide) ?_
  refine az_sub [1, 2, 3, 4, 5, 6, 7, 8, 0] rfl ?_
  exact hK95 x1 x2 x3 x4 x5 x6 x8 (x9 + 1) M r h hp
set_option maxHeartbeats 4000000 in
set_option maxRecDepth 100000 in
theorem s_X12_findMarks_135 {Y : az_Y} {V : az_V} {post : Option Value → az_M → Prop} (C : az_C Y V cX12_findMarks 10 RX12 (some .int) 8) (G : Nat) (K35 : (Int32 → Int32 → Int32 → Int32 → Int32 → Int32 → az_M → Option (Int32 × az_M))) (K95 : (Int32 → Int32 → Int32 → Int32 → Int32 → Int32 → Int32 → Int32 → az_M → Option (Int32 × az_M))) (hK35 : ∀ (x1 : Int32) (x2 : Int32) (x3 : Int32) (x4 : Int32) (x5 : Int32) (x6 : Int32) (M : az_M) (r : (Int32 × az_M)), K35 x1 x2 x3 x4 x5 x6 M = some r → post (some (.int r.1)) r.2 → AW Y V (az_end Y V post) 10 M 35 [(0, .ref (az_ad V 40)), (1, .int x1), (2, .int x2), (3, .int x3), (4, .int x4), (5, .int x5), (6, .int x6)] []) (hK95 : ∀ (x1 : Int32) (x2 : Int32) (x3 : Int32) (x4 : Int32) (x5 : Int32) (x6 : Int32) (x8 : Int32) (x9 : Int32) (M : az_M) (r : (Int32 × az_M)), K95 x1 x2 x3 x4 x5 x6 x8 x9 M = some r → post (some (.int r.1)) r.2 → AW Y V (az_end Y V post) 10 M 95 [(0, .ref (az_ad V 40)), (1, .int x1), (2, .int x2), (3, .int x3), (4, .int x4), (5, .int x5), (6, .int x6), (8, .int x8), (9, .int x9)] []) (x1 : Int32) (x2 : Int32) (x3 : Int32) (x4 : Int32) (x5 : Int32) (x6 : Int32) (x9 : Int32) (s0 : Int32) (M : az_M) (r : (Int32 × az_M)) (h : f_X12_findMarks_135 G K35 K95 x1 x2 x3 x4 x5 x6 x9 s0 M = some r) (hp : post (some (.int r.1)) r.2) : AW Y V (az_end Y V post) 10 M 135 [(0, .ref (az_ad V 40)), (1, .int x1), (2, .int x2), (3, .int x3), (4, .int x4), (5, .int x5), (6, .int x6), (9, .int x9)] [.int s0] := by
  have o40 := C.hL.at 40 (ci := 12) rfl
  have a67 := C.hL.ar 67 (t := 0) (len := 3) rfl
  unfold f_X12_findMarks_135 at h
  refine az_istore C dX12_findMarks_135 (by decide) rfl ?_
  refine az_iload C 0 dX12_findMarks_137 rfl ?_
  refine az_if_eq C 154 dX12_findMarks_139 (by decide) (fun c16 => ?_) (fun c16 => ?_)
  · have h := az_t c16 h
    refine az_sub [1, 2, 3, 4, 5, 6, 7, 0, 8] rfl ?_
    exact s_X12_findMarks_154 C G K35 K95 hK35 hK95 x1 x2 x3 x4 x5 x6 s0 x9 M r h hp
  · have h := az_f c16 h
    refine az_aload_n C 1 dX12_findMarks_142 rfl ?_
    refine az_iconst (v := 0) C dX12_findMarks_143 (by decide) ?_
    refine az_aload_n C 1 dX12_findMarks_144 rfl ?_
    refine az_getr (r := 67) C o40 fl_X12_134 rfl rfl dX12_findMarks_145 ?_
    refine az_iload C 8 dX12_findMarks_148 rfl ?_
    obtain ⟨g17, h⟩ := az_g h
    refine az_ild (k := x9.toNatClampNeg) C a67 g17 rfl dX12_findMarks_150 ?_
    obtain ⟨q18, e19, h⟩ := az_b h
    refine az_cV (rest := []) (st2 := []) C [.int 0, .int (M.1 67 x9.toNatClampNeg)] (c_X12_shoot C.hL G 0 (M.1 67 x9.toNatClampNeg) M e19) (by decide) li_X12_460 o40 (by decide) rfl rfl (Nat.le_of_ble_eq_true rfl) dX12_findMarks_151 rfl ?_
    refine az_sub [1, 2, 3, 4, 5, 6, 7, 0, 8] rfl ?_
    exact s_X12_findMarks_154 C G K35 K95 hK35 hK95 x1 x2 x3 x4 x5 x6 s0 x9 q18 r h hp
set_option maxHeartbeats 4000000 in
set_option maxRecDepth 100000 in
theorem s_X12_findMarks_134 {Y : az_Y} {V : az_V} {post : Option Value → az_M → Prop} (C : az_C Y V cX12_findMarks 10 RX12 (some .int) 8) (G : Nat) (K35 : (Int32 → Int32 → Int32 → Int32 → Int32 → Int32 → az_M → Option (Int32 × az_M))) (K95 : (Int32 → Int32 → Int32 → Int32 → Int32 → Int32 → Int32 → Int32 → az_M → Option (Int32 × az_M))) (hK35 : ∀ (x1 : Int32) (x2 : Int32) (x3 : Int32) (x4 : Int32) (x5 : Int32) (x6 : Int32) (M : az_M) (r : (Int32 × az_M)), K35 x1 x2 x3 x4 x5 x6 M = some r → post (some (.int r.1)) r.2 → AW Y V (az_end Y V post) 10 M 35 [(0, .ref (az_ad V 40)), (1, .int x1), (2, .int x2), (3, .int x3), (4, .int x4), (5, .int x5), (6, .int x6)] []) (hK95 : ∀ (x1 : Int32) (x2 : Int32) (x3 : Int32) (x4 : Int32) (x5 : Int32) (x6 : Int32) (x8 : Int32) (x9 : Int32) (M : az_M) (r : (Int32 × az_M)), K95 x1 x2 x3 x4 x5 x6 x8 x9 M = some r → post (some (.int r.1)) r.2 → AW Y V (az_end Y V post) 10 M 95 [(0, .ref (az_ad V 40)), (1, .int x1), (2, .int x2), (3, .int x3), (4, .int x4), (5, .int x5), (6, .int x6), (8, .int x8), (9, .int x9)] []) (x1 : Int32) (x2 : Int32) (x3 : Int32) (x4 : Int32) (x5 : Int32) (x6 : Int32) (x9 : Int32) (M : az_M) (r : (Int32 × az_M)) (h : f_X12_findMarks_134 G K35 K95 x1 x2 x3 x4 x5 x6 x9 M = some r) (hp : post (some (.int r.1)) r.2) : AW Y V (az_end Y V post) 10 M 134 [(0, .ref (az_ad V 40)), (1, .int x1), (2, .int x2), (3, .int x3), (4, .int x4), (5, .int x5), (6, .int x6), (9, .int x9)] [] := by
  unfold f_X12_findMarks_134 at h
  refine az_iconst (v := 0) C dX12_findMarks_134 (by decide) ?_
  exact s_X12_findMarks_135 C G K35 K95 hK35 hK95 x1 x2 x3 x4 x5 x6 x9 0 M r h hp
set_option maxHeartbeats 4000000 in
set_option maxRecDepth 100000 in
theorem s_X12_findMarks_247 {Y : az_Y} {V : az_V} {post : Option Value → az_M → Prop} (C : az_C Y V cX12_findMarks 10 RX12 (some .int) 8) (G : Nat) (K35 : (Int32 → Int32 → Int32 → Int32 → Int32 → Int32 → az_M → Option (Int32 × az_M))) (hK35 : ∀ (x1 : Int32) (x2 : Int32) (x3 : Int32) (x4 : Int32) (x5 : Int32) (x6 : Int32) (M : az_M) (r : (Int32 × az_M)), K35 x1 x2 x3 x4 x5 x6 M = some r → post (some (.int r.1)) r.2 → AW Y V (az_end Y V post) 10 M 35 [(0, .ref (az_ad V 40)), (1, .int x1), (2, .int x2), (3, .int x3), (4, .int x4), (5, .int x5), (6, .int x6)] []) (x1 : Int32) (x2 : Int32) (x3 : Int32) (x4 : Int32) (x6 : Int32) (s0 : Int32) (s1 : Int32) (M : az_M) (r : (Int32 × az_M)) (h : f_X12_findMarks_247 G K35 x1 x2 x3 x4 x6 s0 s1 M = some r) (hp : post (some (.int r.1)) r.2) : AW Y V (az_end Y V post) 10 M 247 [(0, .ref (az_ad V 40)), (1, .int x1), (2, .int x2), (3, .int x3), (4, .int x4), (6, .int x6)] [.int s0, .int s1] := by
  unfold f_X12_findMarks_247 at h
  refine az_iadd C dX12_findMarks_247 ?_
  refine az_istore C dX12_findMarks_248 (by decide) rfl ?_
  refine az_iinc (v := (x6 + 1)) C 6 dX12_findMarks_250 rfl rfl (by decide) rfl ?_
  refine az_goto C 35 dX12_findMarks_253 (by decide) ?_
  refine az_sub [2, 3, 4, 5, 6, 1, 0] rfl ?_
  exact hK35 x1 x2 x3 x4 (s1 + s0) (x6 + 1) M r h hp
set_option maxHeartbeats 4000000 in
set_option maxRecDepth 100000 in
theorem s_X12_findMarks_235 {Y : az_Y} {V : az_V} {post : Option Value → az_M → Prop} (C : az_C Y V cX12_findMarks 10 RX12 (some .int) 8) (G : Nat) (K35 : (Int32 → Int32 → Int32 → Int32 → Int32 → Int32 → az_M → Option (Int32 × az_M))) (hK35 : ∀ (x1 : Int32) (x2 : Int32) (x3 : Int32) (x4 : Int32) (x5 : Int32) (x6 : Int32) (M : az_M) (r : (Int32 × az_M)), K35 x1 x2 x3 x4 x5 x6 M = some r → post (some (.int r.1)) r.2 → AW Y V (az_end Y V post) 10 M 35 [(0, .ref (az_ad V 40)), (1, .int x1), (2, .int x2), (3, .int x3), (4, .int x4), (5, .int x5), (6, .int x6)] []) (x1 : Int32) (x2 : Int32) (x3 : Int32) (x4 : Int32) (x5 : Int32) (x6 : Int32) (x8 : Int32) (M : az_M) (r : (Int32 × az_M)) (h : f_X12_findMarks_235 G K35 x1 x2 x3 x4 x5 x6 x8 M = some r) (hp : post (some (.int r.1)) r.2) : AW Y V (az_end Y V post) 10 M 235 [(0, .ref (az_ad V 40)), (1, .int x1), (2, .int x2), (3, .int x3), (4, .int x4), (5, .int x5), (6, .int x6), (8, .int x8)] [] := by
  unfold f_X12_findMarks_235 at h
  refine az_iload C 5 dX12_findMarks_235 rfl ?_
  refine az_iload C 7 dX12_findMarks_237 rfl ?_
  refine az_if_eq C 246 dX12_findMarks_239 (by decide) (fun c34 => ?_) (fun c34 => ?_)
  · have h := az_t c34 h
    refine az_iconst (v := 0) C dX12_findMarks_246 (by decide) ?_
    refine az_sub [0, 1, 2, 3, 4, 6] rfl ?_
    exact s_X12_findMarks_247 C G K35 hK35 x1 x2 x3 x4 x6 0 x5 M r h hp
  · have h := az_f c34 h
    refine az_iconst (v := 1) C dX12_findMarks_242 (by decide) ?_
    refine az_goto C 247 dX12_findMarks_243 (by decide) ?_
    refine az_sub [0, 1, 2, 3, 4, 6] rfl ?_
    exact s_X12_findMarks_247 C G K35 hK35 x1 x2 x3 x4 x6 1 x5 M r h hp
set_option maxHeartbeats 4000000 in
set_option maxRecDepth 100000 in
theorem s_X12_findMarks_199 {Y : az_Y} {V : az_V} {post : Option Value → az_M → Prop} (C : az_C Y V cX12_findMarks 10 RX12 (some .int) 8) (G : Nat) (K35 : (Int32 → Int32 → Int32 → Int32 → Int32 → Int32 → az_M → Option (Int32 × az_M))) (hK35 : ∀ (x1 : Int32) (x2 : Int32) (x3 : Int32) (x4 : Int32) (x5 : Int32) (x6 : Int32) (M : az_M) (r : (Int32 × az_M)), K35 x1 x2 x3 x4 x5 x6 M = some r → post (some (.int r.1)) r.2 → AW Y V (az_end Y V post) 10 M 35 [(0, .ref (az_ad V 40)), (1, .int x1), (2, .int x2), (3, .int x3), (4, .int x4), (5, .int x5), (6, .int x6)] []) : ∀ (F : Nat) (x1 : Int32) (x2 : Int32) (x3 : Int32) (x4 : Int32) (x5 : Int32) (x6 : Int32) (x8 : Int32) (x9 : Int32) (M : az_M) (r : (Int32 × az_M)), f_X12_findMarks_199 G K35 F x1 x2 x3 x4 x5 x6 x8 x9 M = some r → post (some (.int r.1)) r.2 → AW Y V (az_end Y V post) 10 M 199 [(0, .ref (az_ad V 40)), (1, .int x1), (2, .int x2), (3, .int x3), (4, .int x4), (5, .int x5), (6, .int x6), (8, .int x8), (9, .int x9)] [] := by
  have o40 := C.hL.at 40 (ci := 12) rfl
  have a66 := C.hL.ar 66 (t := 0) (len := 3) rfl
  have a67 := C.hL.ar 67 (t := 0) (len := 3) rfl
  intro F
  induction F with
  | zero =>
    intro x1 x2 x3 x4 x5 x6 x8 x9 M r h
    exact absurd (show (none : Option (Int32 × az_M)) = some r from h) (fun q => by cases q)
  | succ F ih =>
    intro x1 x2 x3 x4 x5 x6 x8 x9 M r h hp
    rw [f_X12_findMarks_199] at h
    refine az_iload C 8 dX12_findMarks_199 rfl ?_
    refine az_iload_n C 1 dX12_findMarks_201 rfl ?_
    refine az_icmp_ge C 235 dX12_findMarks_202 (by decide) (fun c29 => ?_) (fun c29 => ?_)
    · have h := az_t c29 h
      refine az_sub [0, 1, 2, 3, 4, 5, 6, 7] rfl ?_
      exact s_X12_findMarks_235 C G K35 hK35 x1 x2 x3 x4 x5 x6 x8 M r h hp
    · have h := az_f c29 h
      refine az_iload C 7 dX12_findMarks_205 rfl ?_
      refine az_if_eq C 235 dX12_findMarks_207 (by decide) (fun c30 => ?_) (fun c30 => ?_)
      · have h := az_t c30 h
        refine az_sub [0, 1, 2, 3, 4, 5, 6, 7] rfl ?_
        exact s_X12_findMarks_235 C G K35 hK35 x1 x2 x3 x4 x5 x6 x8 M r h hp
      · have h := az_f c30 h
        refine az_iload C 5 dX12_findMarks_210 rfl ?_
        refine az_if_ne C 235 dX12_findMarks_212 (by decide) (fun c31 => ?_) (fun c31 => ?_)
        · have h := az_f c31 h
          refine az_sub [0, 1, 2, 3, 4, 5, 6, 7] rfl ?_
          exact s_X12_findMarks_235 C G K35 hK35 x1 x2 x3 x4 x5 x6 x8 M r h hp
        · have h := az_t c31 h
          refine az_aload_n C 0 dX12_findMarks_215 rfl ?_
          refine az_getr (r := 66) C o40 fl_X12_131 rfl rfl dX12_findMarks_216 ?_
          refine az_iload C 8 dX12_findMarks_219 rfl ?_
          refine az_aload_n C 0 dX12_findMarks_221 rfl ?_
          refine az_getr (r := 67) C o40 fl_X12_134 rfl rfl dX12_findMarks_222 ?_
          refine az_iload C 8 dX12_findMarks_225 rfl ?_
          obtain ⟨g32, h⟩ := az_g h
          refine az_ild (k := x9.toNatClampNeg) C a67 g32 rfl dX12_findMarks_227 ?_
          obtain ⟨g33, h⟩ := az_g h
          refine az_ist (k := x9.toNatClampNeg) C a66 g33 rfl dX12_findMarks_228 ?_
          refine az_iinc (v := (x9 + 1)) C 8 dX12_findMarks_229 rfl rfl (by decide) rfl ?_
          refine az_goto C 199 dX12_findMarks_232 (by decide) ?_
          refine az_sub [1, 2, 3, 4, 5, 6, 7, 8, 0] rfl ?_
          exact ih x1 x2 x3 x4 x5 x6 x8 (x9 + 1) (az_i M 66 x9.toNatClampNeg (M.1 67 x9.toNatClampNeg)) r h hp
set_option maxHeartbeats 4000000 in
set_option maxRecDepth 100000 in
theorem s_X12_findMarks_188 {Y : az_Y} {V : az_V} {post : Option Value → az_M → Prop} (C : az_C Y V cX12_findMarks 10 RX12 (some .int) 8) (G : Nat) (K35 : (Int32 → Int32 → Int32 → Int32 → Int32 → Int32 → az_M → Option (Int32 × az_M))) (hK35 : ∀ (x1 : Int32) (x2 : Int32) (x3 : Int32) (x4 : Int32) (x5 : Int32) (x6 : Int32) (M : az_M) (r : (Int32 × az_M)), K35 x1 x2 x3 x4 x5 x6 M = some r → post (some (.int r.1)) r.2 → AW Y V (az_end Y V post) 10 M 35 [(0, .ref (az_ad V 40)), (1, .int x1), (2, .int x2), (3, .int x3), (4, .int x4), (5, .int x5), (6, .int x6)] []) (x1 : Int32) (x2 : Int32) (x3 : Int32) (x4 : Int32) (x5 : Int32) (x6 : Int32) (s0 : Int32) (M : az_M) (r : (Int32 × az_M)) (h : f_X12_findMarks_188 G K35 x1 x2 x3 x4 x5 x6 s0 M = some r) (hp : post (some (.int r.1)) r.2) : AW Y V (az_end Y V post) 10 M 188 [(0, .ref (az_ad V 40)), (1, .int x1), (2, .int x2), (3, .int x3), (4, .int x4), (5, .int x5), (6, .int x6)] [.int s0] := by
  have o40 := C.hL.at 40 (ci := 12) rfl
  unfold f_X12_findMarks_188 at h
  refine az_istore C dX12_findMarks_188 (by decide) rfl ?_
  refine az_aload_n C 1 dX12_findMarks_190 rfl ?_
  refine az_bipush (v := 16) C dX12_findMarks_191 (by decide) ?_
  obtain ⟨q27, e28, h⟩ := az_b h
  refine az_cV (rest := []) (st2 := []) C [.int 16] (c_X12_putBack C.hL G 16 M e28) (by decide) li_X12_166 o40 (by decide) rfl rfl (Nat.le_of_ble_eq_true rfl) dX12_findMarks_193 rfl ?_
  refine az_iconst (v := 0) C dX12_findMarks_196 (by decide) ?_
  refine az_istore C dX12_findMarks_197 (by decide) rfl ?_
  refine az_sub [2, 3, 4, 5, 6, 7, 8, 1, 0] rfl ?_
  exact s_X12_findMarks_199 C G K35 hK35 G x1 x2 x3 x4 x5 x6 s0 0 q27 r h hp
set_option maxHeartbeats 4000000 in
set_option maxRecDepth 100000 in
theorem s_X12_findMarks_187 {Y : az_Y} {V : az_V} {post : Option Value → az_M → Prop} (C : az_C Y V cX12_findMarks 10 RX12 (some .int) 8) (G : Nat) (K35 : (Int32 → Int32 → Int32 → Int32 → Int32 → Int32 → az_M → Option (Int32 × az_M))) (hK35 : ∀ (x1 : Int32) (x2 : Int32) (x3 : Int32) (x4 : Int32) (x5 : Int32) (x6 : Int32) (M : az_M) (r : (Int32 × az_M)), K35 x1 x2 x3 x4 x5 x6 M = some r → post (some (.int r.1)) r.2 → AW Y V (az_end Y V post) 10 M 35 [(0, .ref (az_ad V 40)), (1, .int x1), (2, .int x2), (3, .int x3), (4, .int x4), (5, .int x5), (6, .int x6)] []) (x1 : Int32) (x2 : Int32) (x3 : Int32) (x4 : Int32) (x5 : Int32) (x6 : Int32) (M : az_M) (r : (Int32 × az_M)) (h : f_X12_findMarks_187 G K35 x1 x2 x3 x4 x5 x6 M = some r) (hp : post (some (.int r.1)) r.2) : AW Y V (az_end Y V post) 10 M 187 [(0, .ref (az_ad V 40)), (1, .int x1), (2, .int x2), (3, .int x3), (4, .int x4), (5, .int x5), (6, .int x6)] [] := by
  unfold f_X12_findMarks_187 at h
  refine az_iconst (v := 0) C dX12_findMarks_187 (by decide) ?_
  exact s_X12_findMarks_188 C G K35 hK35 x1 x2 x3 x4 x5 x6 0 M r h hp
set_option maxHeartbeats 4000000 in
set_option maxRecDepth 100000 in
theorem s_X12_findMarks_160 {Y : az_Y} {V : az_V} {post : Option Value → az_M → Prop} (C : az_C Y V cX12_findMarks 10 RX12 (some .int) 8) (G : Nat) (K35 : (Int32 → Int32 → Int32 → Int32 → Int32 → Int32 → az_M → Option (Int32 × az_M))) (hK35 : ∀ (x1 : Int32) (x2 : Int32) (x3 : Int32) (x4 : Int32) (x5 : Int32) (x6 : Int32) (M : az_M) (r : (Int32 × az_M)), K35 x1 x2 x3 x4 x5 x6 M = some r → post (some (.int r.1)) r.2 → AW Y V (az_end Y V post) 10 M 35 [(0, .ref (az_ad V 40)), (1, .int x1), (2, .int x2), (3, .int x3), (4, .int x4), (5, .int x5), (6, .int x6)] []) (x1 : Int32) (x2 : Int32) (x3 : Int32) (x4 : Int32) (x5 : Int32) (x6 : Int32) (x8 : Int32) (M : az_M) (r : (Int32 × az_M)) (h : f_X12_findMarks_160 G K35 x1 x2 x3 x4 x5 x6 x8 M = some r) (hp : post (some (.int r.1)) r.2) : AW Y V (az_end Y V post) 10 M 160 [(0, .ref (az_ad V 40)), (1, .int x1), (2, .int x2), (3, .int x3), (4, .int x4), (5, .int x5), (6, .int x6), (8, .int x8)] [] := by
  have o40 := C.hL.at 40 (ci := 12) rfl
  unfold f_X12_findMarks_160 at h
  refine az_iload C 7 dX12_findMarks_160 rfl ?_
  refine az_if_eq C 187 dX12_findMarks_162 (by decide) (fun c20 => ?_) (fun c20 => ?_)
  · have h := az_t c20 h
    refine az_sub [0, 1, 2, 3, 4, 5, 6] rfl ?_
    exact s_X12_findMarks_187 C G K35 hK35 x1 x2 x3 x4 x5 x6 M r h hp
  · have h := az_f c20 h
    refine az_aload_n C 0 dX12_findMarks_165 rfl ?_
    refine az_iconst (v := 0) C dX12_findMarks_166 (by decide) ?_
    obtain ⟨q21, e22, h⟩ := az_b h
    refine az_cV (rest := []) (st2 := [.int q21]) C [.int 0] (c_X12_bulletOf C.hL 0 M e22) (by decide) li_X12_186 o40 (by decide) rfl rfl (Nat.le_of_ble_eq_true rfl) dX12_findMarks_167 rfl ?_
    refine az_iload_n C 2 dX12_findMarks_170 rfl ?_
    refine az_icmp_ne C 187 dX12_findMarks_171 (by decide) (fun c23 => ?_) (fun c23 => ?_)
    · have h := az_f c23 h
      refine az_sub [0, 1, 2, 3, 4, 5, 6] rfl ?_
      exact s_X12_findMarks_187 C G K35 hK35 x1 x2 x3 x4 x5 x6 M r h hp
    · have h := az_t c23 h
      refine az_aload_n C 0 dX12_findMarks_174 rfl ?_
      refine az_iconst (v := 1) C dX12_findMarks_175 (by decide) ?_
      obtain ⟨q24, e25, h⟩ := az_b h
      refine az_cV (rest := []) (st2 := [.int q24]) C [.int 1] (c_X12_bulletOf C.hL 1 M e25) (by decide) li_X12_186 o40 (by decide) rfl rfl (Nat.le_of_ble_eq_true rfl) dX12_findMarks_176 rfl ?_
      refine az_iload_n C 3 dX12_findMarks_179 rfl ?_
      refine az_icmp_ne C 187 dX12_findMarks_180 (by decide) (fun c26 => ?_) (fun c26 => ?_)
      · have h := az_f c26 h
        refine az_sub [0, 1, 2, 3, 4, 5, 6] rfl ?_
        exact s_X12_findMarks_187 C G K35 hK35 x1 x2 x3 x4 x5 x6 M r h hp
      · have h := az_t c26 h
        refine az_iconst (v := 1) C dX12_findMarks_183 (by decide) ?_
        refine az_goto C 188 dX12_findMarks_184 (by decide) ?_
        refine az_sub [0, 1, 2, 3, 4, 5, 6] rfl ?_
        exact s_X12_findMarks_188 C G K35 hK35 x1 x2 x3 x4 x5 x6 1 M r h hp
set_option maxHeartbeats 4000000 in
set_option maxRecDepth 100000 in
theorem s_X12_findMarks_95 {Y : az_Y} {V : az_V} {post : Option Value → az_M → Prop} (C : az_C Y V cX12_findMarks 10 RX12 (some .int) 8) (G : Nat) (K35 : (Int32 → Int32 → Int32 → Int32 → Int32 → Int32 → az_M → Option (Int32 × az_M))) (hK35 : ∀ (x1 : Int32) (x2 : Int32) (x3 : Int32) (x4 : Int32) (x5 : Int32) (x6 : Int32) (M : az_M) (r : (Int32 × az_M)), K35 x1 x2 x3 x4 x5 x6 M = some r → post (some (.int r.1)) r.2 → AW Y V (az_end Y V post) 10 M 35 [(0, .ref (az_ad V 40)), (1, .int x1), (2, .int x2), (3, .int x3), (4, .int x4), (5, .int x5), (6, .int x6)] []) : ∀ (F : Nat) (x1 : Int32) (x2 : Int32) (x3 : Int32) (x4 : Int32) (x5 : Int32) (x6 : Int32) (x8 : Int32) (x9 : Int32) (M : az_M) (r : (Int32 × az_M)), f_X12_findMarks_95 G K35 F x1 x2 x3 x4 x5 x6 x8 x9 M = some r → post (some (.int r.1)) r.2 → AW Y V (az_end Y V post) 10 M 95 [(0, .ref (az_ad V 40)), (1, .int x1), (2, .int x2), (3, .int x3), (4, .int x4), (5, .int x5), (6, .int x6), (8, .int x8), (9, .int x9)] [] := by
  have o40 := C.hL.at 40 (ci := 12) rfl
  have a67 := C.hL.ar 67 (t := 0) (len := 3) rfl
  intro F
  induction F with
  | zero =>
    intro x1 x2 x3 x4 x5 x6 x8 x9 M r h
    exact absurd (show (none : Option (Int32 × az_M)) = some r from h) (fun q => by cases q)
  | succ F ih =>
    intro x1 x2 x3 x4 x5 x6 x8 x9 M r h hp
    rw [f_X12_findMarks_95] at h
    refine az_iload C 8 dX12_findMarks_95 rfl ?_
    refine az_iload_n C 1 dX12_findMarks_97 rfl ?_
    refine az_icmp_ge C 160 dX12_findMarks_98 (by decide) (fun c7 => ?_) (fun c7 => ?_)
    · have h := az_t c7 h
      refine az_sub [0, 1, 2, 3, 4, 5, 6, 7] rfl ?_
      exact s_X12_findMarks_160 C G K35 hK35 x1 x2 x3 x4 x5 x6 x8 M r h hp
    · have h := az_f c7 h
      refine az_iload C 7 dX12_findMarks_101 rfl ?_
      refine az_if_eq C 160 dX12_findMarks_103 (by decide) (fun c8 => ?_) (fun c8 => ?_)
      · have h := az_t c8 h
        refine az_sub [0, 1, 2, 3, 4, 5, 6, 7] rfl ?_
        exact s_X12_findMarks_160 C G K35 hK35 x1 x2 x3 x4 x5 x6 x8 M r h hp
      · have h := az_f c8 h
        refine az_aload_n C 0 dX12_findMarks_106 rfl ?_
        refine az_aload_n C 0 dX12_findMarks_107 rfl ?_
        refine az_getr (r := 67) C o40 fl_X12_134 rfl rfl dX12_findMarks_108 ?_
        refine az_iload C 8 dX12_findMarks_111 rfl ?_
        obtain ⟨g9, h⟩ := az_g h
        refine az_ild (k := x9.toNatClampNeg) C a67 g9 rfl dX12_findMarks_113 ?_
        refine az_iconst (v := 0) C dX12_findMarks_114 (by decide) ?_
        obtain ⟨q10, e11, h⟩ := az_b h
        refine az_cV (rest := []) (st2 := [.int q10]) C [.int (M.1 67 x9.toNatClampNeg), .int 0] (c_X12_ofPlace C.hL (M.1 67 x9.toNatClampNeg) 0 M e11) (by decide) li_X12_221 o40 (by decide) rfl rfl (Nat.le_of_ble_eq_true rfl) dX12_findMarks_115 rfl ?_
        refine az_iconst (v := 2) C dX12_findMarks_118 (by decide) ?_
        refine az_icmp_eq C 134 dX12_findMarks_119 (by decide) (fun c12 => ?_) (fun c12 => ?_)
        · have h := az_t c12 h
          refine az_sub [0, 1, 2, 3, 4, 5, 6, 8] rfl ?_
          exact s_X12_findMarks_134 C G K35 (f_X12_findMarks_95 G K35 F) hK35 ih x1 x2 x3 x4 x5 x6 x9 M r h hp
        · have h := az_f c12 h
          refine az_aload_n C 0 dX12_findMarks_122 rfl ?_
          refine az_iconst (v := 0) C dX12_findMarks_123 (by decide) ?_
          obtain ⟨q13, e14, h⟩ := az_b h
          refine az_cV (rest := []) (st2 := [.int q13]) C [.int 0] (c_X12_bulletOf C.hL 0 M e14) (by decide) li_X12_186 o40 (by decide) rfl rfl (Nat.le_of_ble_eq_true rfl) dX12_findMarks_124 rfl ?_
          refine az_if_le C 134 dX12_findMarks_127 (by decide) (fun c15 => ?_) (fun c15 => ?_)
          · have h := az_t c15 h
            refine az_sub [0, 1, 2, 3, 4, 5, 6, 8] rfl ?_
            exact s_X12_findMarks_134 C G K35 (f_X12_findMarks_95 G K35 F) hK35 ih x1 x2 x3 x4 x5 x6 x9 M r h hp
          · have h := az_f c15 h
            refine az_iconst (v := 1) C dX12_findMarks_130 (by decide) ?_
            refine az_goto C 135 dX12_findMarks_131 (by decide) ?_
            refine az_sub [0, 1, 2, 3, 4, 5, 6, 8] rfl ?_
            exact s_X12_findMarks_135 C G K35 (f_X12_findMarks_95 G K35 F) hK35 ih x1 x2 x3 x4 x5 x6 x9 1 M r h hp
set_option maxHeartbeats 4000000 in
set_option maxRecDepth 100000 in
theorem s_X12_findMarks_51 {Y : az_Y} {V : az_V} {post : Option Value → az_M → Prop} (C : az_C Y V cX12_findMarks 10 RX12 (some .int) 8) (G : Nat) (K35 : (Int32 → Int32 → Int32 → Int32 → Int32 → Int32 → az_M → Option (Int32 × az_M))) (hK35 : ∀ (x1 : Int32) (x2 : Int32) (x3 : Int32) (x4 : Int32) (x5 : Int32) (x6 : Int32) (M : az_M) (r : (Int32 × az_M)), K35 x1 x2 x3 x4 x5 x6 M = some r → post (some (.int r.1)) r.2 → AW Y V (az_end Y V post) 10 M 35 [(0, .ref (az_ad V 40)), (1, .int x1), (2, .int x2), (3, .int x3), (4, .int x4), (5, .int x5), (6, .int x6)] []) : ∀ (F : Nat) (x1 : Int32) (x2 : Int32) (x3 : Int32) (x4 : Int32) (x5 : Int32) (x6 : Int32) (x7 : Int32) (x8 : Int32) (M : az_M) (r : (Int32 × az_M)), f_X12_findMarks_51 G K35 F x1 x2 x3 x4 x5 x6 x7 x8 M = some r → post (some (.int r.1)) r.2 → AW Y V (az_end Y V post) 10 M 51 [(0, .ref (az_ad V 40)), (1, .int x1), (2, .int x2), (3, .int x3), (4, .int x4), (5, .int x5), (6, .int x6), (7, .int x7), (8, .int x8)] [] := by
  have o40 := C.hL.at 40 (ci := 12) rfl
  have a42 := C.hL.ar 42 (t := 0) (len := 5550) rfl
  have a67 := C.hL.ar 67 (t := 0) (len := 3) rfl
  intro F
  induction F with
  | zero =>
    intro x1 x2 x3 x4 x5 x6 x7 x8 M r h
    exact absurd (show (none : Option (Int32 × az_M)) = some r from h) (fun q => by cases q)
  | succ F ih =>
    intro x1 x2 x3 x4 x5 x6 x7 x8 M r h hp
    rw [f_X12_findMarks_51] at h
    refine az_iload C 8 dX12_findMarks_51 rfl ?_
    refine az_if_lt C 89 dX12_findMarks_53 (by decide) (fun c3 => ?_) (fun c3 => ?_)
    · have h := az_t c3 h
      refine az_iconst (v := 1) C dX12_findMarks_89 (by decide) ?_
      refine az_istore C dX12_findMarks_90 (by decide) rfl ?_
      refine az_iconst (v := 0) C dX12_findMarks_92 (by decide) ?_
      refine az_istore C dX12_findMarks_93 (by decide) rfl ?_
      refine az_sub [2, 3, 4, 5, 6, 7, 8, 1, 0] rfl ?_
      exact s_X12_findMarks_95 C G K35 hK35 G x1 x2 x3 x4 x5 x6 1 0 M r h hp
    · have h := az_f c3 h
      refine az_aload_n C 0 dX12_findMarks_56 rfl ?_
      refine az_getr (r := 67) C o40 fl_X12_134 rfl rfl dX12_findMarks_57 ?_
      refine az_iload C 8 dX12_findMarks_60 rfl ?_
      refine az_iload C 7 dX12_findMarks_62 rfl ?_
      refine az_aload_n C 0 dX12_findMarks_64 rfl ?_
      refine az_getr (r := 42) C o40 fl_X12_13 rfl rfl dX12_findMarks_65 ?_
      refine az_iconst (v := 0) C dX12_findMarks_68 (by decide) ?_
      refine az_ild (k := 0) C a42 (az_vin (by decide)) (by decide) dX12_findMarks_69 ?_
      obtain ⟨g4, h⟩ := az_g h
      refine az_irem2 C dX12_findMarks_70 g4 ?_
      obtain ⟨g5, h⟩ := az_g h
      refine az_ist (k := x8.toNatClampNeg) C a67 g5 rfl dX12_findMarks_71 ?_
      refine az_iload C 7 dX12_findMarks_72 rfl ?_
      refine az_aload_n C 0 dX12_findMarks_74 rfl ?_
      refine az_getr (r := 42) C o40 fl_X12_13 rfl rfl dX12_findMarks_75 ?_
      refine az_iconst (v := 0) C dX12_findMarks_78 (by decide) ?_
      refine az_ild (k := 0) C a42 (az_vin (by decide)) (by decide) dX12_findMarks_79 ?_
      obtain ⟨g6, h⟩ := az_g h
      refine az_idiv C dX12_findMarks_80 g6 ?_
      refine az_istore C dX12_findMarks_81 (by decide) rfl ?_
      refine az_iinc (v := (x8 + (-1))) C 8 dX12_findMarks_83 rfl rfl (by decide) rfl ?_
      refine az_goto C 51 dX12_findMarks_86 (by decide) ?_
      refine az_sub [2, 3, 4, 5, 6, 7, 8, 1, 0] rfl ?_
      exact ih x1 x2 x3 x4 x5 x6 (x7 / ((az_i M 67 x8.toNatClampNeg (az_rem x7 (M.1 42 0))).1 42 0)) (x8 + (-1)) (az_i M 67 x8.toNatClampNeg (az_rem x7 (M.1 42 0))) r h hp
set_option maxHeartbeats 4000000 in
set_option maxRecDepth 100000 in
theorem s_X12_findMarks_35 {Y : az_Y} {V : az_V} {post : Option Value → az_M → Prop} (C : az_C Y V cX12_findMarks 10 RX12 (some .int) 8) (G : Nat) : ∀ (F : Nat) (x1 : Int32) (x2 : Int32) (x3 : Int32) (x4 : Int32) (x5 : Int32) (x6 : Int32) (M : az_M) (r : (Int32 × az_M)), f_X12_findMarks_35 G F x1 x2 x3 x4 x5 x6 M = some r → post (some (.int r.1)) r.2 → AW Y V (az_end Y V post) 10 M 35 [(0, .ref (az_ad V 40)), (1, .int x1), (2, .int x2), (3, .int x3), (4, .int x4), (5, .int x5), (6, .int x6)] [] := by
  intro F
  induction F with
  | zero =>
    intro x1 x2 x3 x4 x5 x6 M r h
    exact absurd (show (none : Option (Int32 × az_M)) = some r from h) (fun q => by cases q)
  | succ F ih =>
    intro x1 x2 x3 x4 x5 x6 M r h hp
    rw [f_X12_findMarks_35] at h
    refine az_iload C 6 dX12_findMarks_35 rfl ?_
    refine az_iload C 4 dX12_findMarks_37 rfl ?_
    refine az_icmp_ge C 256 dX12_findMarks_39 (by decide) (fun c2 => ?_) (fun c2 => ?_)
    · have h := az_t c2 h
      refine az_iload C 5 dX12_findMarks_256 rfl ?_
      obtain rfl := Option.some.inj h
      exact az_iret C dX12_findMarks_258 hp
    · have h := az_f c2 h
      refine az_iload C 6 dX12_findMarks_42 rfl ?_
      refine az_istore C dX12_findMarks_44 (by decide) rfl ?_
      refine az_iload_n C 2 dX12_findMarks_46 rfl ?_
      refine az_iconst (v := 1) C dX12_findMarks_47 (by decide) ?_
      refine az_isub C dX12_findMarks_48 ?_
      refine az_istore C dX12_findMarks_49 (by decide) rfl ?_
      refine az_sub [2, 3, 4, 5, 6, 7, 8, 1, 0] rfl ?_
      exact s_X12_findMarks_51 C G (f_X12_findMarks_35 G F) ih G x1 x2 x3 x4 x5 x6 x6 (x1 - 1) M r h hp
set_option maxHeartbeats 4000000 in
set_option maxRecDepth 100000 in
theorem s_X12_findMarks_6 {Y : az_Y} {V : az_V} {post : Option Value → az_M → Prop} (C : az_C Y V cX12_findMarks 10 RX12 (some .int) 8) (G : Nat) : ∀ (F : Nat) (x1 : Int32) (x2 : Int32) (x3 : Int32) (x4 : Int32) (x5 : Int32) (M : az_M) (r : (Int32 × az_M)), f_X12_findMarks_6 G F x1 x2 x3 x4 x5 M = some r → post (some (.int r.1)) r.2 → AW Y V (az_end Y V post) 10 M 6 [(0, .ref (az_ad V 40)), (1, .int x1), (2, .int x2), (3, .int x3), (4, .int x4), (5, .int x5)] [] := by
  have o40 := C.hL.at 40 (ci := 12) rfl
  have a42 := C.hL.ar 42 (t := 0) (len := 5550) rfl
  intro F
  induction F with
  | zero =>
    intro x1 x2 x3 x4 x5 M r h
    exact absurd (show (none : Option (Int32 × az_M)) = some r from h) (fun q => by cases q)
  | succ F ih =>
    intro x1 x2 x3 x4 x5 M r h hp
    rw [f_X12_findMarks_6] at h
    refine az_iload C 5 dX12_findMarks_6 rfl ?_
    refine az_iload_n C 1 dX12_findMarks_8 rfl ?_
    refine az_icmp_ge C 29 dX12_findMarks_9 (by decide) (fun c1 => ?_) (fun c1 => ?_)
    · have h := az_t c1 h
      refine az_iconst (v := 0) C dX12_findMarks_29 (by decide) ?_
      refine az_istore C dX12_findMarks_30 (by decide) rfl ?_
      refine az_iconst (v := 0) C dX12_findMarks_32 (by decide) ?_
      refine az_istore C dX12_findMarks_33 (by decide) rfl ?_
      refine az_sub [2, 3, 4, 5, 6, 1, 0] rfl ?_
      exact s_X12_findMarks_35 C G G x1 x2 x3 x4 0 0 M r h hp
    · have h := az_f c1 h
      refine az_iload C 4 dX12_findMarks_12 rfl ?_
      refine az_aload_n C 0 dX12_findMarks_14 rfl ?_
      refine az_getr (r := 42) C o40 fl_X12_13 rfl rfl dX12_findMarks_15 ?_
      refine az_iconst (v := 0) C dX12_findMarks_18 (by decide) ?_
      refine az_ild (k := 0) C a42 (az_vin (by decide)) (by decide) dX12_findMarks_19 ?_
      refine az_imul C dX12_findMarks_20 ?_
      refine az_istore C dX12_findMarks_21 (by decide) rfl ?_
      refine az_iinc (v := (x5 + 1)) C 5 dX12_findMarks_23 rfl rfl (by decide) rfl ?_
      refine az_goto C 6 dX12_findMarks_26 (by decide) ?_
      refine az_sub [2, 3, 4, 5, 1, 0] rfl ?_
      exact ih x1 x2 x3 (x4 * (M.1 42 0)) (x5 + 1) M r h hp
set_option maxHeartbeats 4000000 in
set_option maxRecDepth 100000 in
theorem s_X12_findMarks_e {Y : az_Y} {V : az_V} {post : Option Value → az_M → Prop} (C : az_C Y V cX12_findMarks 10 RX12 (some .int) 8) (G : Nat) (p0 : Int32) (p1 : Int32) (p2 : Int32) (M : az_M) (r : (Int32 × az_M)) (h : f_X12_findMarks G p0 p1 p2 M = some r) (hp : post (some (.int r.1)) r.2) : AW Y V (az_end Y V post) 10 M 0 [(0, .ref (az_ad V 40)), (1, .int p0), (2, .int p1), (3, .int p2)] [] := by
  unfold f_X12_findMarks at h
  refine az_iconst (v := 1) C dX12_findMarks_0 (by decide) ?_
  refine az_istore C dX12_findMarks_1 (by decide) rfl ?_
  refine az_iconst (v := 0) C dX12_findMarks_3 (by decide) ?_
  refine az_istore C dX12_findMarks_4 (by decide) rfl ?_
  refine az_sub [2, 3, 4, 5, 1, 0] rfl ?_
  exact s_X12_findMarks_6 C G G p0 p1 p2 1 0 M r h hp
theorem c_X12_findMarks {l : Launch} {V : az_V} (hL : az_L V) (G : Nat) (p0 : Int32) (p1 : Int32) (p2 : Int32) (M : az_M) {r : (Int32 × az_M)} (h : f_X12_findMarks G p0 p1 p2 M = some r) : az_Ct l V yX12_findMarks cX12_findMarks 10 (some .int) 8 [.ref (az_ad V 40), .int p0, .int p1, .int p2] M (fun v M' => v = some (.int r.1) ∧ M' = r.2) :=
  az_Ct.of (by decide) (Nat.le_of_ble_eq_true rfl) (fun Y _ _ C => s_X12_findMarks_e C G p0 p1 p2 M r h ⟨rfl, rfl⟩)
set_option maxHeartbeats 4000000 in
set_option maxRecDepth 100000 in
theorem s_X12_marks_57 {Y : az_Y} {V : az_V} {post : Option Value → az_M → Prop} (C : az_C Y V cX12_marks 6 RX12 (some .int) 9) (G : Nat)  (M : az_M) (r : (Int32 × az_M)) (h : f_X12_marks_57 G M = some r) (hp : post (some (.int r.1)) r.2) : AW Y V (az_end Y V post) 6 M 57 [] [] := by
  unfold f_X12_marks_57 at h
  refine az_iconst (v := (-1)) C dX12_marks_57 (by decide) ?_
  obtain rfl := Option.some.inj h
  exact az_iret C dX12_marks_58 hp
set_option maxHeartbeats 4000000 in
set_option maxRecDepth 100000 in
theorem s_X12_marks_101 {Y : az_Y} {V : az_V} {post : Option Value → az_M → Prop} (C : az_C Y V cX12_marks 6 RX12 (some .int) 9) (G : Nat) (s0 : Int32) (M : az_M) (r : (Int32 × az_M)) (h : f_X12_marks_101 G s0 M = some r) (hp : post (some (.int r.1)) r.2) : AW Y V (az_end Y V post) 6 M 101 [] [.int s0] := by
  unfold f_X12_marks_101 at h
  obtain rfl := Option.some.inj h
  exact az_iret C dX12_marks_101 hp
set_option maxHeartbeats 4000000 in
set_option maxRecDepth 100000 in
theorem s_X12_marks_e {Y : az_Y} {V : az_V} {post : Option Value → az_M → Prop} (C : az_C Y V cX12_marks 6 RX12 (some .int) 9) (G : Nat) (p0 : Int32) (p1 : Int32) (p2 : Int32) (p3 : Int32) (M : az_M) (r : (Int32 × az_M)) (h : f_X12_marks G p0 p1 p2 p3 M = some r) (hp : post (some (.int r.1)) r.2) : AW Y V (az_end Y V post) 6 M 0 [(0, .ref (az_ad V 40)), (1, .int p0), (2, .int p1), (3, .int p2), (4, .int p3)] [] := by
  have o40 := C.hL.at 40 (ci := 12) rfl
  have a66 := C.hL.ar 66 (t := 0) (len := 3) rfl
  unfold f_X12_marks at h
  refine az_aload_n C 0 dX12_marks_0 rfl ?_
  refine az_iconst (v := 0) C dX12_marks_1 (by decide) ?_
  refine az_puti C o40 fl_X12_149 rfl rfl rfl rfl dX12_marks_2 ?_
  refine az_iload_n C 1 dX12_marks_5 rfl ?_
  refine az_i2l C dX12_marks_6 ?_
  refine az_lconst (v := 1) C dX12_marks_7 (by decide) ?_
  refine az_ldc2 C ck_X12_198 dX12_marks_8 ?_
  obtain ⟨q1, e2, h⟩ := az_b h
  refine az_cS (rest := []) (st2 := [.int q1]) C [.long p0.toInt64, .long 1, .long 3] (c_X12_in C.hL p0.toInt64 1 3 (az_i M 40 0 0) e2) (by decide) li_X12_169 rfl rfl (Nat.le_of_ble_eq_true rfl) dX12_marks_11 rfl ?_
  refine az_if_eq C 57 dX12_marks_14 (by decide) (fun c3 => ?_) (fun c3 => ?_)
  · have h := az_t c3 h
    refine az_sub [] rfl ?_
    exact s_X12_marks_57 C G (az_i M 40 0 0) r h hp
  · have h := az_f c3 h
    refine az_iload_n C 2 dX12_marks_17 rfl ?_
    refine az_i2l C dX12_marks_18 ?_
    refine az_lconst (v := 0) C dX12_marks_19 (by decide) ?_
    refine az_ldc2 C ck_X12_178 dX12_marks_20 ?_
    obtain ⟨q4, e5, h⟩ := az_b h
    refine az_cS (rest := []) (st2 := [.int q4]) C [.long p1.toInt64, .long 0, .long 999] (c_X12_in C.hL p1.toInt64 0 999 (az_i M 40 0 0) e5) (by decide) li_X12_169 rfl rfl (Nat.le_of_ble_eq_true rfl) dX12_marks_23 rfl ?_
    refine az_if_eq C 57 dX12_marks_26 (by decide) (fun c6 => ?_) (fun c6 => ?_)
    · have h := az_t c6 h
      refine az_sub [] rfl ?_
      exact s_X12_marks_57 C G (az_i M 40 0 0) r h hp
    · have h := az_f c6 h
      refine az_iload_n C 3 dX12_marks_29 rfl ?_
      refine az_i2l C dX12_marks_30 ?_
      refine az_lconst (v := 0) C dX12_marks_31 (by decide) ?_
      refine az_ldc2 C ck_X12_180 dX12_marks_32 ?_
      obtain ⟨q7, e8, h⟩ := az_b h
      refine az_cS (rest := []) (st2 := [.int q7]) C [.long p2.toInt64, .long 0, .long 99] (c_X12_in C.hL p2.toInt64 0 99 (az_i M 40 0 0) e8) (by decide) li_X12_169 rfl rfl (Nat.le_of_ble_eq_true rfl) dX12_marks_35 rfl ?_
      refine az_if_eq C 57 dX12_marks_38 (by decide) (fun c9 => ?_) (fun c9 => ?_)
      · have h := az_t c9 h
        refine az_sub [] rfl ?_
        exact s_X12_marks_57 C G (az_i M 40 0 0) r h hp
      · have h := az_f c9 h
        refine az_iload C 4 dX12_marks_41 rfl ?_
        refine az_i2l C dX12_marks_43 ?_
        refine az_ldc2 C ck_X12_297 dX12_marks_44 ?_
        refine az_iload_n C 1 dX12_marks_47 rfl ?_
        refine az_i2l C dX12_marks_48 ?_
        refine az_lconst (v := 1) C dX12_marks_49 (by decide) ?_
        refine az_lsub C dX12_marks_50 ?_
        obtain ⟨q10, e11, h⟩ := az_b h
        refine az_cS (rest := []) (st2 := [.int q10]) C [.long p3.toInt64, .long (-1), .long (p0.toInt64 - 1)] (c_X12_in C.hL p3.toInt64 (-1) (p0.toInt64 - 1) (az_i M 40 0 0) e11) (by decide) li_X12_169 rfl rfl (Nat.le_of_ble_eq_true rfl) dX12_marks_51 rfl ?_
        refine az_if_ne C 59 dX12_marks_54 (by decide) (fun c12 => ?_) (fun c12 => ?_)
        · have h := az_f c12 h
          refine az_aload_n C 0 dX12_marks_59 rfl ?_
          refine az_bipush (v := 16) C dX12_marks_60 (by decide) ?_
          obtain ⟨q13, e14, h⟩ := az_b h
          refine az_cV (rest := []) (st2 := []) C [.int 16] (c_X12_keepAll C.hL G 16 (az_i M 40 0 0) e14) (by decide) li_X12_162 o40 (by decide) rfl rfl (Nat.le_of_ble_eq_true rfl) dX12_marks_62 rfl ?_
          refine az_aload_n C 0 dX12_marks_65 rfl ?_
          refine az_iload_n C 1 dX12_marks_66 rfl ?_
          refine az_iload_n C 2 dX12_marks_67 rfl ?_
          refine az_iload_n C 3 dX12_marks_68 rfl ?_
          obtain ⟨q15, e16, h⟩ := az_b h
          refine az_cV (rest := []) (st2 := [.int q15.1]) C [.int p0, .int p1, .int p2] (c_X12_findMarks C.hL G p0 p1 p2 q13 e16) (by decide) li_X12_524 o40 (by decide) rfl rfl (Nat.le_of_ble_eq_true rfl) dX12_marks_69 rfl ?_
          refine az_istore C dX12_marks_72 (by decide) rfl ?_
          refine az_iload C 5 dX12_marks_74 rfl ?_
          refine az_iconst (v := (-1)) C dX12_marks_76 (by decide) ?_
          refine az_icmp_ne C 85 dX12_marks_77 (by decide) (fun c17 => ?_) (fun c17 => ?_)
          · have h := az_f c17 h
            refine az_iload C 0 dX12_marks_85 rfl ?_
            refine az_if_ne C 94 dX12_marks_87 (by decide) (fun c18 => ?_) (fun c18 => ?_)
            · have h := az_f c18 h
              refine az_aload_n C 1 dX12_marks_94 rfl ?_
              refine az_getr (r := 66) C o40 fl_X12_131 rfl rfl dX12_marks_95 ?_
              refine az_iload C 5 dX12_marks_98 rfl ?_
              obtain ⟨g19, h⟩ := az_g h
              refine az_ild (k := p3.toNatClampNeg) C a66 g19 rfl dX12_marks_100 ?_
              refine az_sub [] rfl ?_
              exact s_X12_marks_101 C G (q15.2.1 66 p3.toNatClampNeg) q15.2 r h hp
            · have h := az_t c18 h
              refine az_iconst (v := (-1)) C dX12_marks_90 (by decide) ?_
              refine az_goto C 101 dX12_marks_91 (by decide) ?_
              refine az_sub [] rfl ?_
              exact s_X12_marks_101 C G (-1) q15.2 r h hp
          · have h := az_t c17 h
            refine az_iload C 0 dX12_marks_80 rfl ?_
            refine az_goto C 101 dX12_marks_82 (by decide) ?_
            refine az_sub [] rfl ?_
            exact s_X12_marks_101 C G q15.1 q15.2 r h hp
        · have h := az_t c12 h
          refine az_sub [] rfl ?_
          exact s_X12_marks_57 C G (az_i M 40 0 0) r h hp
theorem c_X12_marks {l : Launch} {V : az_V} (hL : az_L V) (G : Nat) (p0 : Int32) (p1 : Int32) (p2 : Int32) (p3 : Int32) (M : az_M) {r : (Int32 × az_M)} (h : f_X12_marks G p0 p1 p2 p3 M = some r) : az_Ct l V yX12_marks cX12_marks 6 (some .int) 9 [.ref (az_ad V 40), .int p0, .int p1, .int p2, .int p3] M (fun v M' => v = some (.int r.1) ∧ M' = r.2) :=
  az_Ct.of (by decide) (Nat.le_of_ble_eq_true rfl) (fun Y _ _ C => s_X12_marks_e C G p0 p1 p2 p3 M r h ⟨rfl, rfl⟩)
set_option maxHeartbeats 4000000 in
set_option maxRecDepth 100000 in
theorem s_X12_isWon_50 {Y : az_Y} {V : az_V} {post : Option Value → az_M → Prop} (C : az_C Y V cX12_isWon 4 RX12 (some .boolean) 7) (G : Nat) (s0 : Int32) (M : az_M) (r : (Int32 × az_M)) (h : f_X12_isWon_50 G s0 M = some r) (hp : post (some (.int r.1)) r.2) : AW Y V (az_end Y V post) 4 M 50 [] [.int s0] := by
  unfold f_X12_isWon_50 at h
  obtain ⟨g12, h⟩ := az_g2 h
  obtain rfl := Option.some.inj h
  exact az_zret C dX12_isWon_50 (az_nz g12) hp
set_option maxHeartbeats 4000000 in
set_option maxRecDepth 100000 in
theorem s_X12_isWon_49 {Y : az_Y} {V : az_V} {post : Option Value → az_M → Prop} (C : az_C Y V cX12_isWon 4 RX12 (some .boolean) 7) (G : Nat)  (M : az_M) (r : (Int32 × az_M)) (h : f_X12_isWon_49 G M = some r) (hp : post (some (.int r.1)) r.2) : AW Y V (az_end Y V post) 4 M 49 [] [] := by
  unfold f_X12_isWon_49 at h
  refine az_iconst (v := 0) C dX12_isWon_49 (by decide) ?_
  exact s_X12_isWon_50 C G 0 M r h hp
set_option maxHeartbeats 4000000 in
set_option maxRecDepth 100000 in
theorem s_X12_isWon_e {Y : az_Y} {V : az_V} {post : Option Value → az_M → Prop} (C : az_C Y V cX12_isWon 4 RX12 (some .boolean) 7) (G : Nat) (p0 : Int32) (p1 : Int32) (M : az_M) (r : (Int32 × az_M)) (h : f_X12_isWon G p0 p1 M = some r) (hp : post (some (.int r.1)) r.2) : AW Y V (az_end Y V post) 4 M 0 [(0, .ref (az_ad V 40)), (1, .int p0), (2, .int p1)] [] := by
  have o40 := C.hL.at 40 (ci := 12) rfl
  have a68 := C.hL.ar 68 (t := 2) (len := 1000) rfl
  unfold f_X12_isWon at h
  refine az_aload_n C 0 dX12_isWon_0 rfl ?_
  refine az_iload_n C 2 dX12_isWon_1 rfl ?_
  refine az_iconst (v := 0) C dX12_isWon_2 (by decide) ?_
  obtain ⟨q1, e2, h⟩ := az_b h
  refine az_cV (rest := []) (st2 := [.int q1]) C [.int p1, .int 0] (c_X12_ofPlace C.hL p1 0 M e2) (by decide) li_X12_221 o40 (by decide) rfl rfl (Nat.le_of_ble_eq_true rfl) dX12_isWon_3 rfl ?_
  refine az_iconst (v := 2) C dX12_isWon_6 (by decide) ?_
  refine az_icmp_ne C 12 dX12_isWon_7 (by decide) (fun c3 => ?_) (fun c3 => ?_)
  · have h := az_f c3 h
    refine az_aload_n C 0 dX12_isWon_12 rfl ?_
    refine az_iload_n C 2 dX12_isWon_13 rfl ?_
    refine az_iload_n C 1 dX12_isWon_14 rfl ?_
    obtain ⟨q4, e5, h⟩ := az_b h
    refine az_cV (rest := []) (st2 := [.int q4.1]) C [.int p1, .int p0] (c_X12_wearsOf C.hL G p1 p0 M e5) (by decide) li_X12_212 o40 (by decide) rfl rfl (Nat.le_of_ble_eq_true rfl) dX12_isWon_15 rfl ?_
    refine az_istore_n C dX12_isWon_18 rfl (by decide) rfl ?_
    refine az_iload_n C 0 dX12_isWon_19 rfl ?_
    refine az_if_le C 49 dX12_isWon_20 (by decide) (fun c6 => ?_) (fun c6 => ?_)
    · have h := az_t c6 h
      refine az_sub [] rfl ?_
      exact s_X12_isWon_49 C G q4.2 r h hp
    · have h := az_f c6 h
      refine az_iload_n C 2 dX12_isWon_23 rfl ?_
      refine az_iload_n C 0 dX12_isWon_24 rfl ?_
      refine az_isub C dX12_isWon_25 ?_
      refine az_aload_n C 1 dX12_isWon_26 rfl ?_
      refine az_iconst (v := 2) C dX12_isWon_27 (by decide) ?_
      obtain ⟨q7, e8, h⟩ := az_b h
      refine az_cV (rest := [.int (p0 - q4.1)]) (st2 := [.int q7, .int (p0 - q4.1)]) C [.int 2] (c_X12_term C.hL 2 q4.2 e8) (by decide) li_X12_189 o40 (by decide) rfl rfl (Nat.le_of_ble_eq_true rfl) dX12_isWon_28 rfl ?_
      refine az_icmp_lt C 49 dX12_isWon_31 (by decide) (fun c9 => ?_) (fun c9 => ?_)
      · have h := az_t c9 h
        refine az_sub [] rfl ?_
        exact s_X12_isWon_49 C G q4.2 r h hp
      · have h := az_f c9 h
        refine az_aload_n C 1 dX12_isWon_34 rfl ?_
        refine az_getr (r := 68) C o40 fl_X12_137 rfl rfl dX12_isWon_35 ?_
        refine az_iload_n C 2 dX12_isWon_38 rfl ?_
        refine az_iload_n C 0 dX12_isWon_39 rfl ?_
        refine az_isub C dX12_isWon_40 ?_
        obtain ⟨g10, h⟩ := az_g h
        refine az_zld (k := (p0 - q4.1).toNatClampNeg) C a68 g10 rfl dX12_isWon_41 ?_
        refine az_if_ne C 49 dX12_isWon_42 (by decide) (fun c11 => ?_) (fun c11 => ?_)
        · have h := az_f c11 h
          refine az_sub [] rfl ?_
          exact s_X12_isWon_49 C G q4.2 r h hp
        · have h := az_t c11 h
          refine az_iconst (v := 1) C dX12_isWon_45 (by decide) ?_
          refine az_goto C 50 dX12_isWon_46 (by decide) ?_
          refine az_sub [] rfl ?_
          exact s_X12_isWon_50 C G 1 q4.2 r h hp
  · have h := az_t c3 h
    refine az_iconst (v := 0) C dX12_isWon_10 (by decide) ?_
    obtain rfl := Option.some.inj h
    exact az_zret C dX12_isWon_11 rfl hp
theorem c_X12_isWon {l : Launch} {V : az_V} (hL : az_L V) (G : Nat) (p0 : Int32) (p1 : Int32) (M : az_M) {r : (Int32 × az_M)} (h : f_X12_isWon G p0 p1 M = some r) : az_Ct l V yX12_isWon cX12_isWon 4 (some .boolean) 7 [.ref (az_ad V 40), .int p0, .int p1] M (fun v M' => v = some (.int r.1) ∧ M' = r.2) :=
  az_Ct.of (by decide) (Nat.le_of_ble_eq_true rfl) (fun Y _ _ C => s_X12_isWon_e C G p0 p1 M r h ⟨rfl, rfl⟩)
set_option maxHeartbeats 4000000 in
set_option maxRecDepth 100000 in
theorem s_X12_game_24 {Y : az_Y} {V : az_V} {post : Option Value → az_M → Prop} (C : az_C Y V cX12_game 6 RX12 (some .int) 8) (G : Nat)  (M : az_M) (r : (Int32 × az_M)) (h : f_X12_game_24 G M = some r) (hp : post (some (.int r.1)) r.2) : AW Y V (az_end Y V post) 6 M 24 [] [] := by
  unfold f_X12_game_24 at h
  refine az_iconst (v := (-1)) C dX12_game_24 (by decide) ?_
  obtain rfl := Option.some.inj h
  exact az_iret C dX12_game_25 hp
set_option maxHeartbeats 4000000 in
set_option maxRecDepth 100000 in
theorem s_X12_game_80 {Y : az_Y} {V : az_V} {post : Option Value → az_M → Prop} (C : az_C Y V cX12_game 6 RX12 (some .int) 8) (G : Nat) (K38 : (Int32 → Int32 → Int32 → az_M → Option (Int32 × az_M))) (hK38 : ∀ (x1 : Int32) (x2 : Int32) (x3 : Int32) (M : az_M) (r : (Int32 × az_M)), K38 x1 x2 x3 M = some r → post (some (.int r.1)) r.2 → AW Y V (az_end Y V post) 6 M 38 [(0, .ref (az_ad V 40)), (1, .int x1), (2, .int x2), (3, .int x3)] []) (x1 : Int32) (x2 : Int32) (x3 : Int32) (x4 : Int32) (M : az_M) (r : (Int32 × az_M)) (h : f_X12_game_80 G K38 x1 x2 x3 x4 M = some r) (hp : post (some (.int r.1)) r.2) : AW Y V (az_end Y V post) 6 M 80 [(0, .ref (az_ad V 40)), (1, .int x1), (2, .int x2), (3, .int x3), (4, .int x4)] [] := by
  have o40 := C.hL.at 40 (ci := 12) rfl
  have a68 := C.hL.ar 68 (t := 2) (len := 1000) rfl
  unfold f_X12_game_80 at h
  refine az_aload_n C 0 dX12_game_80 rfl ?_
  refine az_getr (r := 68) C o40 fl_X12_137 rfl rfl dX12_game_81 ?_
  refine az_iload_n C 3 dX12_game_84 rfl ?_
  refine az_iload C 4 dX12_game_85 rfl ?_
  obtain ⟨g16, h⟩ := az_g h
  obtain ⟨g17, h⟩ := az_g2 h
  refine az_zst (k := x3.toNatClampNeg) C a68 g16 rfl (az_vz g17) dX12_game_87 ?_
  refine az_iinc (v := (x3 + 1)) C 3 dX12_game_88 rfl rfl (by decide) rfl ?_
  refine az_goto C 38 dX12_game_91 (by decide) ?_
  refine az_sub [1, 2, 3, 0] rfl ?_
  exact hK38 x1 x2 (x3 + 1) (az_i M 68 x3.toNatClampNeg x4) r h hp
set_option maxHeartbeats 4000000 in
set_option maxRecDepth 100000 in
theorem s_X12_game_49 {Y : az_Y} {V : az_V} {post : Option Value → az_M → Prop} (C : az_C Y V cX12_game 6 RX12 (some .int) 8) (G : Nat) (K38 : (Int32 → Int32 → Int32 → az_M → Option (Int32 × az_M))) (hK38 : ∀ (x1 : Int32) (x2 : Int32) (x3 : Int32) (M : az_M) (r : (Int32 × az_M)), K38 x1 x2 x3 M = some r → post (some (.int r.1)) r.2 → AW Y V (az_end Y V post) 6 M 38 [(0, .ref (az_ad V 40)), (1, .int x1), (2, .int x2), (3, .int x3)] []) : ∀ (F : Nat) (x1 : Int32) (x2 : Int32) (x3 : Int32) (x4 : Int32) (x5 : Int32) (M : az_M) (r : (Int32 × az_M)), f_X12_game_49 G K38 F x1 x2 x3 x4 x5 M = some r → post (some (.int r.1)) r.2 → AW Y V (az_end Y V post) 6 M 49 [(0, .ref (az_ad V 40)), (1, .int x1), (2, .int x2), (3, .int x3), (4, .int x4), (5, .int x5)] [] := by
  have o40 := C.hL.at 40 (ci := 12) rfl
  have a42 := C.hL.ar 42 (t := 0) (len := 5550) rfl
  intro F
  induction F with
  | zero =>
    intro x1 x2 x3 x4 x5 M r h
    exact absurd (show (none : Option (Int32 × az_M)) = some r from h) (fun q => by cases q)
  | succ F ih =>
    intro x1 x2 x3 x4 x5 M r h hp
    rw [f_X12_game_49] at h
    refine az_iload C 5 dX12_game_49 rfl ?_
    refine az_aload_n C 0 dX12_game_51 rfl ?_
    refine az_getr (r := 42) C o40 fl_X12_13 rfl rfl dX12_game_52 ?_
    refine az_iconst (v := 0) C dX12_game_55 (by decide) ?_
    refine az_ild (k := 0) C a42 (az_vin (by decide)) (by decide) dX12_game_56 ?_
    refine az_icmp_ge C 80 dX12_game_57 (by decide) (fun c12 => ?_) (fun c12 => ?_)
    · have h := az_t c12 h
      refine az_sub [0, 1, 2, 3, 4] rfl ?_
      exact s_X12_game_80 C G K38 hK38 x1 x2 x3 x4 M r h hp
    · have h := az_f c12 h
      refine az_iload C 4 dX12_game_60 rfl ?_
      refine az_if_ne C 80 dX12_game_62 (by decide) (fun c13 => ?_) (fun c13 => ?_)
      · have h := az_f c13 h
        refine az_sub [0, 1, 2, 3, 4] rfl ?_
        exact s_X12_game_80 C G K38 hK38 x1 x2 x3 x4 M r h hp
      · have h := az_t c13 h
        refine az_aload_n C 0 dX12_game_65 rfl ?_
        refine az_iload_n C 3 dX12_game_66 rfl ?_
        refine az_iload C 5 dX12_game_67 rfl ?_
        obtain ⟨q14, e15, h⟩ := az_b h
        refine az_cV (rest := []) (st2 := [.int q14.1]) C [.int x3, .int x5] (c_X12_isWon C.hL G x3 x5 M e15) (by decide) li_X12_527 o40 (by decide) rfl rfl (Nat.le_of_ble_eq_true rfl) dX12_game_69 rfl ?_
        refine az_istore C dX12_game_72 (by decide) rfl ?_
        refine az_iinc (v := (x5 + 1)) C 5 dX12_game_74 rfl rfl (by decide) rfl ?_
        refine az_goto C 49 dX12_game_77 (by decide) ?_
        refine az_sub [2, 3, 4, 5, 1, 0] rfl ?_
        exact ih x1 x2 x3 q14.1 (x5 + 1) q14.2 r h hp
set_option maxHeartbeats 4000000 in
set_option maxRecDepth 100000 in
theorem s_X12_game_131 {Y : az_Y} {V : az_V} {post : Option Value → az_M → Prop} (C : az_C Y V cX12_game 6 RX12 (some .int) 8) (G : Nat) (K109 : (Int32 → Int32 → Int32 → Int32 → Int32 → az_M → Option (Int32 × az_M))) (hK109 : ∀ (x1 : Int32) (x2 : Int32) (x3 : Int32) (x4 : Int32) (x5 : Int32) (M : az_M) (r : (Int32 × az_M)), K109 x1 x2 x3 x4 x5 M = some r → post (some (.int r.1)) r.2 → AW Y V (az_end Y V post) 6 M 109 [(0, .ref (az_ad V 40)), (1, .int x1), (2, .int x2), (3, .int x3), (4, .int x4), (5, .int x5)] []) (x1 : Int32) (x2 : Int32) (x3 : Int32) (x4 : Int32) (x5 : Int32) (M : az_M) (r : (Int32 × az_M)) (h : f_X12_game_131 G K109 x1 x2 x3 x4 x5 M = some r) (hp : post (some (.int r.1)) r.2) : AW Y V (az_end Y V post) 6 M 131 [(0, .ref (az_ad V 40)), (1, .int x1), (2, .int x2), (3, .int x3), (4, .int x4), (5, .int x5)] [] := by
  unfold f_X12_game_131 at h
  refine az_iinc (v := (x5 + (-1))) C 5 dX12_game_131 rfl rfl (by decide) rfl ?_
  refine az_goto C 109 dX12_game_134 (by decide) ?_
  refine az_sub [1, 2, 3, 4, 5, 0] rfl ?_
  exact hK109 x1 x2 x3 x4 (x5 + (-1)) M r h hp
set_option maxHeartbeats 4000000 in
set_option maxRecDepth 100000 in
theorem s_X12_game_164 {Y : az_Y} {V : az_V} {post : Option Value → az_M → Prop} (C : az_C Y V cX12_game 6 RX12 (some .int) 8) (G : Nat) (s0 : Int32) (M : az_M) (r : (Int32 × az_M)) (h : f_X12_game_164 G s0 M = some r) (hp : post (some (.int r.1)) r.2) : AW Y V (az_end Y V post) 6 M 164 [] [.int s0] := by
  unfold f_X12_game_164 at h
  obtain rfl := Option.some.inj h
  exact az_iret C dX12_game_164 hp
set_option maxHeartbeats 4000000 in
set_option maxRecDepth 100000 in
theorem s_X12_game_109 {Y : az_Y} {V : az_V} {post : Option Value → az_M → Prop} (C : az_C Y V cX12_game 6 RX12 (some .int) 8) (G : Nat) : ∀ (F : Nat) (x1 : Int32) (x2 : Int32) (x3 : Int32) (x4 : Int32) (x5 : Int32) (M : az_M) (r : (Int32 × az_M)), f_X12_game_109 G F x1 x2 x3 x4 x5 M = some r → post (some (.int r.1)) r.2 → AW Y V (az_end Y V post) 6 M 109 [(0, .ref (az_ad V 40)), (1, .int x1), (2, .int x2), (3, .int x3), (4, .int x4), (5, .int x5)] [] := by
  have o40 := C.hL.at 40 (ci := 12) rfl
  intro F
  induction F with
  | zero =>
    intro x1 x2 x3 x4 x5 M r h
    exact absurd (show (none : Option (Int32 × az_M)) = some r from h) (fun q => by cases q)
  | succ F ih =>
    intro x1 x2 x3 x4 x5 M r h hp
    rw [f_X12_game_109] at h
    refine az_iload C 5 dX12_game_109 rfl ?_
    refine az_if_lt C 137 dX12_game_111 (by decide) (fun c18 => ?_) (fun c18 => ?_)
    · have h := az_t c18 h
      refine az_iload_n C 1 dX12_game_137 rfl ?_
      refine az_if_ne C 153 dX12_game_138 (by decide) (fun c19 => ?_) (fun c19 => ?_)
      · have h := az_f c19 h
        refine az_iload_n C 1 dX12_game_153 rfl ?_
        refine az_iconst (v := 1) C dX12_game_154 (by decide) ?_
        refine az_icmp_ne C 162 dX12_game_155 (by decide) (fun c20 => ?_) (fun c20 => ?_)
        · have h := az_f c20 h
          refine az_iload C 4 dX12_game_162 rfl ?_
          refine az_sub [] rfl ?_
          exact s_X12_game_164 C G x4 M r h hp
        · have h := az_t c20 h
          refine az_iload_n C 3 dX12_game_158 rfl ?_
          refine az_goto C 164 dX12_game_159 (by decide) ?_
          refine az_sub [] rfl ?_
          exact s_X12_game_164 C G x3 M r h hp
      · have h := az_t c19 h
        refine az_iload_n C 3 dX12_game_141 rfl ?_
        refine az_if_le C 149 dX12_game_142 (by decide) (fun c21 => ?_) (fun c21 => ?_)
        · have h := az_t c21 h
          refine az_iconst (v := 0) C dX12_game_149 (by decide) ?_
          refine az_goto C 164 dX12_game_150 (by decide) ?_
          refine az_sub [] rfl ?_
          exact s_X12_game_164 C G 0 M r h hp
        · have h := az_f c21 h
          refine az_iconst (v := 1) C dX12_game_145 (by decide) ?_
          refine az_goto C 164 dX12_game_146 (by decide) ?_
          refine az_sub [] rfl ?_
          exact s_X12_game_164 C G 1 M r h hp
    · have h := az_f c18 h
      refine az_aload_n C 0 dX12_game_114 rfl ?_
      refine az_iload_n C 2 dX12_game_115 rfl ?_
      refine az_iload C 5 dX12_game_116 rfl ?_
      obtain ⟨q22, e23, h⟩ := az_b h
      refine az_cV (rest := []) (st2 := [.int q22.1]) C [.int x2, .int x5] (c_X12_isWon C.hL G x2 x5 M e23) (by decide) li_X12_527 o40 (by decide) rfl rfl (Nat.le_of_ble_eq_true rfl) dX12_game_118 rfl ?_
      refine az_if_eq C 131 dX12_game_121 (by decide) (fun c24 => ?_) (fun c24 => ?_)
      · have h := az_t c24 h
        exact s_X12_game_131 C G (f_X12_game_109 G F) ih x1 x2 x3 x4 x5 q22.2 r h hp
      · have h := az_f c24 h
        refine az_iinc (v := (x3 + 1)) C 3 dX12_game_124 rfl rfl (by decide) rfl ?_
        refine az_iload C 5 dX12_game_127 rfl ?_
        refine az_istore C dX12_game_129 (by decide) rfl ?_
        refine az_sub [2, 3, 4, 1, 0, 5] rfl ?_
        exact s_X12_game_131 C G (f_X12_game_109 G F) ih x1 x2 (x3 + 1) x5 x5 q22.2 r h hp
set_option maxHeartbeats 4000000 in
set_option maxRecDepth 100000 in
theorem s_X12_game_38 {Y : az_Y} {V : az_V} {post : Option Value → az_M → Prop} (C : az_C Y V cX12_game 6 RX12 (some .int) 8) (G : Nat) : ∀ (F : Nat) (x1 : Int32) (x2 : Int32) (x3 : Int32) (M : az_M) (r : (Int32 × az_M)), f_X12_game_38 G F x1 x2 x3 M = some r → post (some (.int r.1)) r.2 → AW Y V (az_end Y V post) 6 M 38 [(0, .ref (az_ad V 40)), (1, .int x1), (2, .int x2), (3, .int x3)] [] := by
  have o40 := C.hL.at 40 (ci := 12) rfl
  have a42 := C.hL.ar 42 (t := 0) (len := 5550) rfl
  intro F
  induction F with
  | zero =>
    intro x1 x2 x3 M r h
    exact absurd (show (none : Option (Int32 × az_M)) = some r from h) (fun q => by cases q)
  | succ F ih =>
    intro x1 x2 x3 M r h hp
    rw [f_X12_game_38] at h
    refine az_iload_n C 3 dX12_game_38 rfl ?_
    refine az_iload_n C 2 dX12_game_39 rfl ?_
    refine az_icmp_gt C 94 dX12_game_40 (by decide) (fun c11 => ?_) (fun c11 => ?_)
    · have h := az_t c11 h
      refine az_iconst (v := 0) C dX12_game_94 (by decide) ?_
      refine az_istore_n C dX12_game_95 rfl (by decide) rfl ?_
      refine az_iconst (v := (-1)) C dX12_game_96 (by decide) ?_
      refine az_istore C dX12_game_97 (by decide) rfl ?_
      refine az_aload_n C 2 dX12_game_99 rfl ?_
      refine az_getr (r := 42) C o40 fl_X12_13 rfl rfl dX12_game_100 ?_
      refine az_iconst (v := 0) C dX12_game_103 (by decide) ?_
      refine az_ild (k := 0) C a42 (az_vin (by decide)) (by decide) dX12_game_104 ?_
      refine az_iconst (v := 1) C dX12_game_105 (by decide) ?_
      refine az_isub C dX12_game_106 ?_
      refine az_istore C dX12_game_107 (by decide) rfl ?_
      refine az_sub [3, 4, 5, 2, 1, 0] rfl ?_
      exact s_X12_game_109 C G G x1 x2 0 (-1) ((M.1 42 0) - 1) M r h hp
    · have h := az_f c11 h
      refine az_iconst (v := 0) C dX12_game_43 (by decide) ?_
      refine az_istore C dX12_game_44 (by decide) rfl ?_
      refine az_iconst (v := 0) C dX12_game_46 (by decide) ?_
      refine az_istore C dX12_game_47 (by decide) rfl ?_
      refine az_sub [2, 3, 4, 5, 1, 0] rfl ?_
      exact s_X12_game_49 C G (f_X12_game_38 G F) ih G x1 x2 x3 0 0 M r h hp
set_option maxHeartbeats 4000000 in
set_option maxRecDepth 100000 in
theorem s_X12_game_e {Y : az_Y} {V : az_V} {post : Option Value → az_M → Prop} (C : az_C Y V cX12_game 6 RX12 (some .int) 8) (G : Nat) (p0 : Int32) (M : az_M) (r : (Int32 × az_M)) (h : f_X12_game G p0 M = some r) (hp : post (some (.int r.1)) r.2) : AW Y V (az_end Y V post) 6 M 0 [(0, .ref (az_ad V 40)), (1, .int p0)] [] := by
  have o40 := C.hL.at 40 (ci := 12) rfl
  unfold f_X12_game at h
  refine az_aload_n C 0 dX12_game_0 rfl ?_
  refine az_iconst (v := 0) C dX12_game_1 (by decide) ?_
  refine az_puti C o40 fl_X12_149 rfl rfl rfl rfl dX12_game_2 ?_
  refine az_iload_n C 1 dX12_game_5 rfl ?_
  refine az_i2l C dX12_game_6 ?_
  refine az_lconst (v := 0) C dX12_game_7 (by decide) ?_
  refine az_ldc2 C ck_X12_176 dX12_game_8 ?_
  obtain ⟨q1, e2, h⟩ := az_b h
  refine az_cS (rest := []) (st2 := [.int q1]) C [.long p0.toInt64, .long 0, .long 2] (c_X12_in C.hL p0.toInt64 0 2 (az_i M 40 0 0) e2) (by decide) li_X12_169 rfl rfl (Nat.le_of_ble_eq_true rfl) dX12_game_11 rfl ?_
  refine az_if_eq C 24 dX12_game_14 (by decide) (fun c3 => ?_) (fun c3 => ?_)
  · have h := az_t c3 h
    refine az_sub [] rfl ?_
    exact s_X12_game_24 C G (az_i M 40 0 0) r h hp
  · have h := az_f c3 h
    refine az_aload_n C 0 dX12_game_17 rfl ?_
    obtain ⟨q4, e5, h⟩ := az_b h
    refine az_cV (rest := []) (st2 := [.int q4]) C [] (c_X12_canFire C.hL (az_i M 40 0 0) e5) (by decide) li_X12_194 o40 (by decide) rfl rfl (Nat.le_of_ble_eq_true rfl) dX12_game_18 rfl ?_
    refine az_if_ne C 26 dX12_game_21 (by decide) (fun c6 => ?_) (fun c6 => ?_)
    · have h := az_f c6 h
      refine az_aload_n C 0 dX12_game_26 rfl ?_
      refine az_iconst (v := 0) C dX12_game_27 (by decide) ?_
      obtain ⟨q7, e8, h⟩ := az_b h
      refine az_cV (rest := []) (st2 := [.int q7]) C [.int 0] (c_X12_bulletOf C.hL 0 (az_i M 40 0 0) e8) (by decide) li_X12_186 o40 (by decide) rfl rfl (Nat.le_of_ble_eq_true rfl) dX12_game_28 rfl ?_
      refine az_istore_n C dX12_game_31 rfl (by decide) rfl ?_
      refine az_aload_n C 1 dX12_game_32 rfl ?_
      refine az_iconst (v := 2) C dX12_game_33 (by decide) ?_
      obtain ⟨q9, e10, h⟩ := az_b h
      refine az_cV (rest := []) (st2 := [.int q9]) C [.int 2] (c_X12_term C.hL 2 (az_i M 40 0 0) e10) (by decide) li_X12_189 o40 (by decide) rfl rfl (Nat.le_of_ble_eq_true rfl) dX12_game_34 rfl ?_
      refine az_istore_n C dX12_game_37 rfl (by decide) rfl ?_
      refine az_sub [2, 3, 1, 0] rfl ?_
      exact s_X12_game_38 C G G p0 q7 q9 (az_i M 40 0 0) r h hp
    · have h := az_t c6 h
      refine az_sub [] rfl ?_
      exact s_X12_game_24 C G (az_i M 40 0 0) r h hp
theorem c_X12_game {l : Launch} {V : az_V} (hL : az_L V) (G : Nat) (p0 : Int32) (M : az_M) {r : (Int32 × az_M)} (h : f_X12_game G p0 M = some r) : az_Ct l V yX12_game cX12_game 6 (some .int) 8 [.ref (az_ad V 40), .int p0] M (fun v M' => v = some (.int r.1) ∧ M' = r.2) :=
  az_Ct.of (by decide) (Nat.le_of_ble_eq_true rfl) (fun Y _ _ C => s_X12_game_e C G p0 M r h ⟨rfl, rfl⟩)
set_option maxHeartbeats 4000000 in
set_option maxRecDepth 100000 in
theorem s_X12_share_45 {Y : az_Y} {V : az_V} {post : Option Value → az_M → Prop} (C : az_C Y V cX12_share 7 RX12 (some .int) 2) (G : Nat)  (M : az_M) (r : (Int32 × az_M)) (h : f_X12_share_45 G M = some r) (hp : post (some (.int r.1)) r.2) : AW Y V (az_end Y V post) 7 M 45 [] [] := by
  unfold f_X12_share_45 at h
  refine az_iconst (v := (-1)) C dX12_share_45 (by decide) ?_
  obtain rfl := Option.some.inj h
  exact az_iret C dX12_share_46 hp
set_option maxHeartbeats 4000000 in
set_option maxRecDepth 100000 in
theorem s_X12_share_107 {Y : az_Y} {V : az_V} {post : Option Value → az_M → Prop} (C : az_C Y V cX12_share 7 RX12 (some .int) 2) (G : Nat) (s0 : Int32) (M : az_M) (r : (Int32 × az_M)) (h : f_X12_share_107 G s0 M = some r) (hp : post (some (.int r.1)) r.2) : AW Y V (az_end Y V post) 7 M 107 [] [.int s0] := by
  unfold f_X12_share_107 at h
  obtain rfl := Option.some.inj h
  exact az_iret C dX12_share_107 hp
set_option maxHeartbeats 4000000 in
set_option maxRecDepth 100000 in
theorem s_X12_share_61 {Y : az_Y} {V : az_V} {post : Option Value → az_M → Prop} (C : az_C Y V cX12_share 7 RX12 (some .int) 2) (G : Nat) : ∀ (F : Nat) (x1 : Int32) (x2 : Int32) (x3 : Int32) (x4 : Int32) (x5 : Int32) (M : az_M) (r : (Int32 × az_M)), f_X12_share_61 G F x1 x2 x3 x4 x5 M = some r → post (some (.int r.1)) r.2 → AW Y V (az_end Y V post) 7 M 61 [(0, .ref (az_ad V 40)), (1, .int x1), (2, .int x2), (3, .int x3), (4, .int x4), (5, .int x5)] [] := by
  have o40 := C.hL.at 40 (ci := 12) rfl
  have a42 := C.hL.ar 42 (t := 0) (len := 5550) rfl
  intro F
  induction F with
  | zero =>
    intro x1 x2 x3 x4 x5 M r h
    exact absurd (show (none : Option (Int32 × az_M)) = some r from h) (fun q => by cases q)
  | succ F ih =>
    intro x1 x2 x3 x4 x5 M r h hp
    rw [f_X12_share_61] at h
    refine az_iload C 5 dX12_share_61 rfl ?_
    refine az_if_eq C 84 dX12_share_63 (by decide) (fun c9 => ?_) (fun c9 => ?_)
    · have h := az_t c9 h
      refine az_iload_n C 2 dX12_share_84 rfl ?_
      refine az_if_ne C 103 dX12_share_85 (by decide) (fun c10 => ?_) (fun c10 => ?_)
      · have h := az_f c10 h
        refine az_iload_n C 3 dX12_share_103 rfl ?_
        refine az_iload C 4 dX12_share_104 rfl ?_
        obtain ⟨g11, h⟩ := az_g h
        refine az_idiv C dX12_share_106 g11 ?_
        refine az_sub [] rfl ?_
        exact s_X12_share_107 C G (x3 / x4) M r h hp
      · have h := az_t c10 h
        refine az_aload_n C 0 dX12_share_88 rfl ?_
        refine az_getr (r := 42) C o40 fl_X12_13 rfl rfl dX12_share_89 ?_
        refine az_bipush (v := 15) C dX12_share_92 (by decide) ?_
        refine az_iload_n C 1 dX12_share_94 rfl ?_
        refine az_iadd C dX12_share_95 ?_
        obtain ⟨g12, h⟩ := az_g h
        refine az_ild (k := (15 + x1).toNatClampNeg) C a42 g12 rfl dX12_share_96 ?_
        refine az_iload C 4 dX12_share_97 rfl ?_
        obtain ⟨g13, h⟩ := az_g h
        refine az_idiv C dX12_share_99 g13 ?_
        refine az_goto C 107 dX12_share_100 (by decide) ?_
        refine az_sub [] rfl ?_
        exact s_X12_share_107 C G ((M.1 42 ((15 + x1).toNatClampNeg)) / x4) M r h hp
    · have h := az_f c9 h
      refine az_iload C 4 dX12_share_66 rfl ?_
      refine az_iload C 5 dX12_share_68 rfl ?_
      obtain ⟨g14, h⟩ := az_g h
      refine az_irem2 C dX12_share_70 g14 ?_
      refine az_istore C dX12_share_71 (by decide) rfl ?_
      refine az_iload C 6 dX12_share_73 rfl ?_
      refine az_istore C dX12_share_75 (by decide) rfl ?_
      refine az_iload C 1 dX12_share_77 rfl ?_
      refine az_istore C dX12_share_79 (by decide) rfl ?_
      refine az_goto C 61 dX12_share_81 (by decide) ?_
      refine az_sub [3, 4, 5, 6, 1, 0] rfl ?_
      exact ih x1 x2 x3 x5 (az_rem x4 x5) M r h hp
set_option maxHeartbeats 4000000 in
set_option maxRecDepth 100000 in
theorem s_X12_share_e {Y : az_Y} {V : az_V} {post : Option Value → az_M → Prop} (C : az_C Y V cX12_share 7 RX12 (some .int) 2) (G : Nat) (p0 : Int32) (p1 : Int32) (M : az_M) (r : (Int32 × az_M)) (h : f_X12_share G p0 p1 M = some r) (hp : post (some (.int r.1)) r.2) : AW Y V (az_end Y V post) 7 M 0 [(0, .ref (az_ad V 40)), (1, .int p0), (2, .int p1)] [] := by
  have o40 := C.hL.at 40 (ci := 12) rfl
  have a42 := C.hL.ar 42 (t := 0) (len := 5550) rfl
  unfold f_X12_share at h
  refine az_aload_n C 0 dX12_share_0 rfl ?_
  refine az_iconst (v := 0) C dX12_share_1 (by decide) ?_
  refine az_puti C o40 fl_X12_149 rfl rfl rfl rfl dX12_share_2 ?_
  refine az_aload_n C 0 dX12_share_5 rfl ?_
  refine az_getr (r := 42) C o40 fl_X12_13 rfl rfl dX12_share_6 ?_
  refine az_bipush (v := 15) C dX12_share_9 (by decide) ?_
  refine az_ild (k := 15) C a42 (az_vin (by decide)) (by decide) dX12_share_11 ?_
  refine az_aload_n C 0 dX12_share_12 rfl ?_
  refine az_getr (r := 42) C o40 fl_X12_13 rfl rfl dX12_share_13 ?_
  refine az_bipush (v := 16) C dX12_share_16 (by decide) ?_
  refine az_ild (k := 16) C a42 (az_vin (by decide)) (by decide) dX12_share_18 ?_
  refine az_iadd C dX12_share_19 ?_
  refine az_istore_n C dX12_share_20 rfl (by decide) rfl ?_
  refine az_iload_n C 2 dX12_share_21 rfl ?_
  refine az_i2l C dX12_share_22 ?_
  refine az_lconst (v := 0) C dX12_share_23 (by decide) ?_
  refine az_lconst (v := 1) C dX12_share_24 (by decide) ?_
  obtain ⟨q1, e2, h⟩ := az_b h
  refine az_cS (rest := []) (st2 := [.int q1]) C [.long p0.toInt64, .long 0, .long 1] (c_X12_in C.hL p0.toInt64 0 1 (az_i M 40 0 0) e2) (by decide) li_X12_169 rfl rfl (Nat.le_of_ble_eq_true rfl) dX12_share_25 rfl ?_
  refine az_if_eq C 45 dX12_share_28 (by decide) (fun c3 => ?_) (fun c3 => ?_)
  · have h := az_t c3 h
    refine az_sub [] rfl ?_
    exact s_X12_share_45 C G (az_i M 40 0 0) r h hp
  · have h := az_f c3 h
    refine az_iload_n C 3 dX12_share_31 rfl ?_
    refine az_i2l C dX12_share_32 ?_
    refine az_lconst (v := 0) C dX12_share_33 (by decide) ?_
    refine az_lconst (v := 1) C dX12_share_34 (by decide) ?_
    obtain ⟨q4, e5, h⟩ := az_b h
    refine az_cS (rest := []) (st2 := [.int q4]) C [.long p1.toInt64, .long 0, .long 1] (c_X12_in C.hL p1.toInt64 0 1 (az_i M 40 0 0) e5) (by decide) li_X12_169 rfl rfl (Nat.le_of_ble_eq_true rfl) dX12_share_35 rfl ?_
    refine az_if_eq C 45 dX12_share_38 (by decide) (fun c6 => ?_) (fun c6 => ?_)
    · have h := az_t c6 h
      refine az_sub [] rfl ?_
      exact s_X12_share_45 C G (az_i M 40 0 0) r h hp
    · have h := az_f c6 h
      refine az_iload_n C 0 dX12_share_41 rfl ?_
      refine az_if_ne C 47 dX12_share_42 (by decide) (fun c7 => ?_) (fun c7 => ?_)
      · have h := az_f c7 h
        refine az_aload_n C 1 dX12_share_47 rfl ?_
        refine az_getr (r := 42) C o40 fl_X12_13 rfl rfl dX12_share_48 ?_
        refine az_bipush (v := 15) C dX12_share_51 (by decide) ?_
        refine az_iload_n C 2 dX12_share_53 rfl ?_
        refine az_iadd C dX12_share_54 ?_
        obtain ⟨g8, h⟩ := az_g h
        refine az_ild (k := (15 + p0).toNatClampNeg) C a42 g8 rfl dX12_share_55 ?_
        refine az_istore C dX12_share_56 (by decide) rfl ?_
        refine az_iload_n C 1 dX12_share_58 rfl ?_
        refine az_istore C dX12_share_59 (by decide) rfl ?_
        refine az_sub [3, 4, 5, 2, 1, 0] rfl ?_
        exact s_X12_share_61 C G G p0 p1 (((az_i M 40 0 0).1 42 15) + ((az_i M 40 0 0).1 42 16)) ((az_i M 40 0 0).1 42 ((15 + p0).toNatClampNeg)) (((az_i M 40 0 0).1 42 15) + ((az_i M 40 0 0).1 42 16)) (az_i M 40 0 0) r h hp
      · have h := az_t c7 h
        refine az_sub [] rfl ?_
        exact s_X12_share_45 C G (az_i M 40 0 0) r h hp
theorem c_X12_share {l : Launch} {V : az_V} (hL : az_L V) (G : Nat) (p0 : Int32) (p1 : Int32) (M : az_M) {r : (Int32 × az_M)} (h : f_X12_share G p0 p1 M = some r) : az_Ct l V yX12_share cX12_share 7 (some .int) 2 [.ref (az_ad V 40), .int p0, .int p1] M (fun v M' => v = some (.int r.1) ∧ M' = r.2) :=
  az_Ct.of (by decide) (Nat.le_of_ble_eq_true rfl) (fun Y _ _ C => s_X12_share_e C G p0 p1 M r h ⟨rfl, rfl⟩)
set_option maxHeartbeats 4000000 in
set_option maxRecDepth 100000 in
theorem s_X12_readSum_22 {Y : az_Y} {V : az_V} {post : Option Value → az_M → Prop} (C : az_C Y V cX12_readSum 2 RX12 none 8) (G : Nat) (x1 : Int32) (M : az_M) (r : az_M) (h : f_X12_readSum_22 G x1 M = some r) (hp : post none r) : AW Y V (az_end Y V post) 2 M 22 [(0, .ref (az_ad V 40)), (1, .int x1)] [] := by
  have o40 := C.hL.at 40 (ci := 12) rfl
  have a69 := C.hL.ar 69 (t := 0) (len := 96) rfl
  unfold f_X12_readSum_22 at h
  refine az_aload_n C 0 dX12_readSum_22 rfl ?_
  refine az_getr (r := 69) C o40 fl_X12_140 rfl rfl dX12_readSum_23 ?_
  refine az_iload_n C 1 dX12_readSum_26 rfl ?_
  refine az_iconst (v := 1) C dX12_readSum_27 (by decide) ?_
  refine az_iadd C dX12_readSum_28 ?_
  refine az_aload_n C 0 dX12_readSum_29 rfl ?_
  refine az_geti C o40 fl_X12_307 rfl dX12_readSum_30 ?_
  obtain ⟨g5, h⟩ := az_g h
  refine az_ist (k := (x1 + 1).toNatClampNeg) C a69 g5 rfl dX12_readSum_33 ?_
  obtain rfl := Option.some.inj h
  exact az_vret C rfl dX12_readSum_34 hp
set_option maxHeartbeats 4000000 in
set_option maxRecDepth 100000 in
theorem s_X12_readSum_e {Y : az_Y} {V : az_V} {post : Option Value → az_M → Prop} (C : az_C Y V cX12_readSum 2 RX12 none 8) (G : Nat) (p0 : Int32) (M : az_M) (r : az_M) (h : f_X12_readSum G p0 M = some r) (hp : post none r) : AW Y V (az_end Y V post) 2 M 0 [(0, .ref (az_ad V 40)), (1, .int p0)] [] := by
  have o40 := C.hL.at 40 (ci := 12) rfl
  have a69 := C.hL.ar 69 (t := 0) (len := 96) rfl
  unfold f_X12_readSum at h
  refine az_aload_n C 0 dX12_readSum_0 rfl ?_
  refine az_getr (r := 69) C o40 fl_X12_140 rfl rfl dX12_readSum_1 ?_
  refine az_iload_n C 1 dX12_readSum_4 rfl ?_
  refine az_aload_n C 0 dX12_readSum_5 rfl ?_
  refine az_geti C o40 fl_X12_307 rfl dX12_readSum_6 ?_
  obtain ⟨g1, h⟩ := az_g h
  refine az_ist (k := p0.toNatClampNeg) C a69 g1 rfl dX12_readSum_9 ?_
  refine az_aload_n C 0 dX12_readSum_10 rfl ?_
  refine az_geti C o40 fl_X12_270 rfl dX12_readSum_11 ?_
  refine az_if_ne C 22 dX12_readSum_14 (by decide) (fun c2 => ?_) (fun c2 => ?_)
  · have h := az_f c2 h
    exact s_X12_readSum_22 C G p0 (az_i M 69 p0.toNatClampNeg (M.1 40 23)) r h hp
  · have h := az_t c2 h
    refine az_aload_n C 0 dX12_readSum_17 rfl ?_
    refine az_iconst (v := 0) C dX12_readSum_18 (by decide) ?_
    obtain ⟨q3, e4, h⟩ := az_b h
    refine az_cV (rest := []) (st2 := []) C [.int 0] (c_X12_readExpression C.hL G 0 (az_i M 69 p0.toNatClampNeg (M.1 40 23)) e4) (by decide) li_X12_401 o40 (by decide) rfl rfl (Nat.le_of_ble_eq_true rfl) dX12_readSum_19 rfl ?_
    exact s_X12_readSum_22 C G p0 q3 r h hp
theorem c_X12_readSum {l : Launch} {V : az_V} (hL : az_L V) (G : Nat) (p0 : Int32) (M : az_M) {r : az_M} (h : f_X12_readSum G p0 M = some r) : az_Ct l V yX12_readSum cX12_readSum 2 none 8 [.ref (az_ad V 40), .int p0] M (fun v M' => v = none ∧ M' = r) :=
  az_Ct.of (by decide) (Nat.le_of_ble_eq_true rfl) (fun Y _ _ C => s_X12_readSum_e C G p0 M r h ⟨rfl, rfl⟩)
set_option maxHeartbeats 4000000 in
set_option maxRecDepth 100000 in
theorem s_X12_readOrder_257 {Y : az_Y} {V : az_V} {post : Option Value → az_M → Prop} (C : az_C Y V cX12_readOrder 3 RX12 none 9) (G : Nat) (x2 : Int32) (M : az_M) (r : az_M) (h : f_X12_readOrder_257 G x2 M = some r) (hp : post none r) : AW Y V (az_end Y V post) 3 M 257 [(0, .ref (az_ad V 40)), (2, .int x2)] [] := by
  have o40 := C.hL.at 40 (ci := 12) rfl
  have a69 := C.hL.ar 69 (t := 0) (len := 96) rfl
  unfold f_X12_readOrder_257 at h
  refine az_aload_n C 0 dX12_readOrder_257 rfl ?_
  refine az_getr (r := 69) C o40 fl_X12_140 rfl rfl dX12_readOrder_258 ?_
  refine az_iload_n C 1 dX12_readOrder_261 rfl ?_
  refine az_bipush (v := 6) C dX12_readOrder_262 (by decide) ?_
  refine az_iadd C dX12_readOrder_264 ?_
  refine az_aload_n C 0 dX12_readOrder_265 rfl ?_
  refine az_geti C o40 fl_X12_307 rfl dX12_readOrder_266 ?_
  obtain ⟨g48, h⟩ := az_g h
  refine az_ist (k := (x2 + 6).toNatClampNeg) C a69 g48 rfl dX12_readOrder_269 ?_
  obtain rfl := Option.some.inj h
  exact az_vret C rfl dX12_readOrder_270 hp
set_option maxHeartbeats 4000000 in
set_option maxRecDepth 100000 in
theorem s_X12_readOrder_219 {Y : az_Y} {V : az_V} {post : Option Value → az_M → Prop} (C : az_C Y V cX12_readOrder 3 RX12 none 9) (G : Nat) (x2 : Int32) (M : az_M) (r : az_M) (h : f_X12_readOrder_219 G x2 M = some r) (hp : post none r) : AW Y V (az_end Y V post) 3 M 219 [(0, .ref (az_ad V 40)), (2, .int x2)] [] := by
  have o40 := C.hL.at 40 (ci := 12) rfl
  have a69 := C.hL.ar 69 (t := 0) (len := 96) rfl
  unfold f_X12_readOrder_219 at h
  refine az_aload_n C 0 dX12_readOrder_219 rfl ?_
  refine az_getr (r := 69) C o40 fl_X12_140 rfl rfl dX12_readOrder_220 ?_
  refine az_iload_n C 1 dX12_readOrder_223 rfl ?_
  refine az_iconst (v := 5) C dX12_readOrder_224 (by decide) ?_
  refine az_iadd C dX12_readOrder_225 ?_
  refine az_aload_n C 0 dX12_readOrder_226 rfl ?_
  refine az_geti C o40 fl_X12_307 rfl dX12_readOrder_227 ?_
  obtain ⟨g39, h⟩ := az_g h
  refine az_ist (k := (x2 + 5).toNatClampNeg) C a69 g39 rfl dX12_readOrder_230 ?_
  refine az_aload_n C 0 dX12_readOrder_231 rfl ?_
  refine az_geti C o40 fl_X12_270 rfl dX12_readOrder_232 ?_
  refine az_if_ne C 257 dX12_readOrder_235 (by decide) (fun c40 => ?_) (fun c40 => ?_)
  · have h := az_f c40 h
    exact s_X12_readOrder_257 C G x2 (az_i M 69 ((x2 + 5).toNatClampNeg) (M.1 40 23)) r h hp
  · have h := az_t c40 h
    refine az_aload_n C 0 dX12_readOrder_238 rfl ?_
    refine az_ldc2 C ck_X12_404 dX12_readOrder_239 ?_
    obtain ⟨q41, e42, h⟩ := az_b h
    refine az_cV (rest := []) (st2 := [.int q41]) C [.long 294] (c_X12_isWord C.hL 294 (az_i M 69 ((x2 + 5).toNatClampNeg) (M.1 40 23)) e42) (by decide) li_X12_326 o40 (by decide) rfl rfl (Nat.le_of_ble_eq_true rfl) dX12_readOrder_242 rfl ?_
    refine az_if_eq C 257 dX12_readOrder_245 (by decide) (fun c43 => ?_) (fun c43 => ?_)
    · have h := az_t c43 h
      exact s_X12_readOrder_257 C G x2 (az_i M 69 ((x2 + 5).toNatClampNeg) (M.1 40 23)) r h hp
    · have h := az_f c43 h
      refine az_aload_n C 0 dX12_readOrder_248 rfl ?_
      obtain ⟨q44, e45, h⟩ := az_b h
      refine az_cV (rest := []) (st2 := []) C [] (c_X12_next C.hL G (az_i M 69 ((x2 + 5).toNatClampNeg) (M.1 40 23)) e45) (by decide) li_X12_274 o40 (by decide) rfl rfl (Nat.le_of_ble_eq_true rfl) dX12_readOrder_249 rfl ?_
      refine az_aload_n C 0 dX12_readOrder_252 rfl ?_
      refine az_iconst (v := 1) C dX12_readOrder_253 (by decide) ?_
      obtain ⟨q46, e47, h⟩ := az_b h
      refine az_cV (rest := []) (st2 := []) C [.int 1] (c_X12_readExpression C.hL G 1 q44 e47) (by decide) li_X12_401 o40 (by decide) rfl rfl (Nat.le_of_ble_eq_true rfl) dX12_readOrder_254 rfl ?_
      exact s_X12_readOrder_257 C G x2 q46 r h hp
set_option maxHeartbeats 4000000 in
set_option maxRecDepth 100000 in
theorem s_X12_readOrder_171 {Y : az_Y} {V : az_V} {post : Option Value → az_M → Prop} (C : az_C Y V cX12_readOrder 3 RX12 none 9) (G : Nat) (x2 : Int32) (M : az_M) (r : az_M) (h : f_X12_readOrder_171 G x2 M = some r) (hp : post none r) : AW Y V (az_end Y V post) 3 M 171 [(0, .ref (az_ad V 40)), (2, .int x2)] [] := by
  have o40 := C.hL.at 40 (ci := 12) rfl
  have a69 := C.hL.ar 69 (t := 0) (len := 96) rfl
  unfold f_X12_readOrder_171 at h
  refine az_aload_n C 0 dX12_readOrder_171 rfl ?_
  refine az_getr (r := 69) C o40 fl_X12_140 rfl rfl dX12_readOrder_172 ?_
  refine az_iload_n C 1 dX12_readOrder_175 rfl ?_
  refine az_bipush (v := 7) C dX12_readOrder_176 (by decide) ?_
  refine az_iadd C dX12_readOrder_178 ?_
  refine az_iconst (v := 1) C dX12_readOrder_179 (by decide) ?_
  obtain ⟨g29, h⟩ := az_g h
  refine az_ist (k := (x2 + 7).toNatClampNeg) C a69 g29 rfl dX12_readOrder_180 ?_
  refine az_aload_n C 0 dX12_readOrder_181 rfl ?_
  refine az_geti C o40 fl_X12_270 rfl dX12_readOrder_182 ?_
  refine az_if_ne C 219 dX12_readOrder_185 (by decide) (fun c30 => ?_) (fun c30 => ?_)
  · have h := az_f c30 h
    exact s_X12_readOrder_219 C G x2 (az_i M 69 ((x2 + 7).toNatClampNeg) 1) r h hp
  · have h := az_t c30 h
    refine az_aload_n C 0 dX12_readOrder_188 rfl ?_
    refine az_ldc2 C ck_X12_543 dX12_readOrder_189 ?_
    obtain ⟨q31, e32, h⟩ := az_b h
    refine az_cV (rest := []) (st2 := [.int q31]) C [.long 21279923] (c_X12_isWord C.hL 21279923 (az_i M 69 ((x2 + 7).toNatClampNeg) 1) e32) (by decide) li_X12_326 o40 (by decide) rfl rfl (Nat.le_of_ble_eq_true rfl) dX12_readOrder_192 rfl ?_
    refine az_if_eq C 219 dX12_readOrder_195 (by decide) (fun c33 => ?_) (fun c33 => ?_)
    · have h := az_t c33 h
      exact s_X12_readOrder_219 C G x2 (az_i M 69 ((x2 + 7).toNatClampNeg) 1) r h hp
    · have h := az_f c33 h
      refine az_aload_n C 0 dX12_readOrder_198 rfl ?_
      obtain ⟨q34, e35, h⟩ := az_b h
      refine az_cV (rest := []) (st2 := []) C [] (c_X12_next C.hL G (az_i M 69 ((x2 + 7).toNatClampNeg) 1) e35) (by decide) li_X12_274 o40 (by decide) rfl rfl (Nat.le_of_ble_eq_true rfl) dX12_readOrder_199 rfl ?_
      refine az_aload_n C 0 dX12_readOrder_202 rfl ?_
      refine az_getr (r := 69) C o40 fl_X12_140 rfl rfl dX12_readOrder_203 ?_
      refine az_iload_n C 1 dX12_readOrder_206 rfl ?_
      refine az_bipush (v := 7) C dX12_readOrder_207 (by decide) ?_
      refine az_iadd C dX12_readOrder_209 ?_
      refine az_aload_n C 0 dX12_readOrder_210 rfl ?_
      refine az_lconst (v := 1) C dX12_readOrder_211 (by decide) ?_
      refine az_ldc2 C ck_X12_200 dX12_readOrder_212 ?_
      obtain ⟨q36, e37, h⟩ := az_b h
      refine az_cV (rest := [.int (x2 + 7), .ref (az_ad V 69)]) (st2 := [.int q36.1, .int (x2 + 7), .ref (az_ad V 69)]) C [.long 1, .long 20] (c_X12_number C.hL G 1 20 q34 e37) (by decide) li_X12_363 o40 (by decide) rfl rfl (Nat.le_of_ble_eq_true rfl) dX12_readOrder_215 rfl ?_
      obtain ⟨g38, h⟩ := az_g h
      refine az_ist (k := (x2 + 7).toNatClampNeg) C a69 g38 rfl dX12_readOrder_218 ?_
      exact s_X12_readOrder_219 C G x2 (az_i q36.2 69 ((x2 + 7).toNatClampNeg) q36.1) r h hp
set_option maxHeartbeats 4000000 in
set_option maxRecDepth 100000 in
theorem s_X12_readOrder_164 {Y : az_Y} {V : az_V} {post : Option Value → az_M → Prop} (C : az_C Y V cX12_readOrder 3 RX12 none 9) (G : Nat) (x2 : Int32) (M : az_M) (r : az_M) (h : f_X12_readOrder_164 G x2 M = some r) (hp : post none r) : AW Y V (az_end Y V post) 3 M 164 [(0, .ref (az_ad V 40)), (2, .int x2)] [] := by
  have o40 := C.hL.at 40 (ci := 12) rfl
  unfold f_X12_readOrder_164 at h
  refine az_aload_n C 0 dX12_readOrder_164 rfl ?_
  refine az_iload_n C 1 dX12_readOrder_165 rfl ?_
  refine az_iconst (v := 3) C dX12_readOrder_166 (by decide) ?_
  refine az_iadd C dX12_readOrder_167 ?_
  obtain ⟨q27, e28, h⟩ := az_b h
  refine az_cV (rest := []) (st2 := []) C [.int (x2 + 3)] (c_X12_readSum C.hL G (x2 + 3) M e28) (by decide) li_X12_536 o40 (by decide) rfl rfl (Nat.le_of_ble_eq_true rfl) dX12_readOrder_168 rfl ?_
  exact s_X12_readOrder_171 C G x2 q27 r h hp
set_option maxHeartbeats 4000000 in
set_option maxRecDepth 100000 in
theorem s_X12_readOrder_158 {Y : az_Y} {V : az_V} {post : Option Value → az_M → Prop} (C : az_C Y V cX12_readOrder 3 RX12 none 9) (G : Nat) (x2 : Int32) (s0 : Int64) (M : az_M) (r : az_M) (h : f_X12_readOrder_158 G x2 s0 M = some r) (hp : post none r) : AW Y V (az_end Y V post) 3 M 158 [(0, .ref (az_ad V 40)), (2, .int x2)] [.long s0, .ref (az_ad V 40), .ref (az_ad V 40)] := by
  have o40 := C.hL.at 40 (ci := 12) rfl
  unfold f_X12_readOrder_158 at h
  obtain ⟨q23, e24, h⟩ := az_b h
  refine az_cV (rest := [.ref (az_ad V 40)]) (st2 := [.int q23, .ref (az_ad V 40)]) C [.long s0] (c_X12_isWord C.hL s0 M e24) (by decide) li_X12_326 o40 (by decide) rfl rfl (Nat.le_of_ble_eq_true rfl) dX12_readOrder_158 rfl ?_
  obtain ⟨q25, e26, h⟩ := az_b h
  refine az_cV (rest := []) (st2 := []) C [.int q23] (c_X12_must C.hL G q23 M e26) (by decide) li_X12_303 o40 (by decide) rfl rfl (Nat.le_of_ble_eq_true rfl) dX12_readOrder_161 rfl ?_
  exact s_X12_readOrder_164 C G x2 q25 r h hp
set_option maxHeartbeats 4000000 in
set_option maxRecDepth 100000 in
theorem s_X12_readOrder_64 {Y : az_Y} {V : az_V} {post : Option Value → az_M → Prop} (C : az_C Y V cX12_readOrder 3 RX12 none 9) (G : Nat) (x1 : Int32) (s0 : Int32) (M : az_M) (r : az_M) (h : f_X12_readOrder_64 G x1 s0 M = some r) (hp : post none r) : AW Y V (az_end Y V post) 3 M 64 [(0, .ref (az_ad V 40)), (1, .int x1)] [.int s0, .ref (az_ad V 40)] := by
  have o40 := C.hL.at 40 (ci := 12) rfl
  have a69 := C.hL.ar 69 (t := 0) (len := 96) rfl
  unfold f_X12_readOrder_64 at h
  obtain ⟨q12, e13, h⟩ := az_b h
  refine az_cV (rest := []) (st2 := []) C [.int s0] (c_X12_must C.hL G s0 M e13) (by decide) li_X12_303 o40 (by decide) rfl rfl (Nat.le_of_ble_eq_true rfl) dX12_readOrder_64 rfl ?_
  refine az_aload_n C 0 dX12_readOrder_67 rfl ?_
  refine az_geti C o40 fl_X12_270 rfl dX12_readOrder_68 ?_
  refine az_if_eq C 75 dX12_readOrder_71 (by decide) (fun c14 => ?_) (fun c14 => ?_)
  · have h := az_t c14 h
    refine az_bipush (v := 8) C dX12_readOrder_75 (by decide) ?_
    refine az_aload_n C 0 dX12_readOrder_77 rfl ?_
    refine az_geti C o40 fl_X12_398 rfl dX12_readOrder_78 ?_
    refine az_imul C dX12_readOrder_81 ?_
    refine az_istore_n C dX12_readOrder_82 rfl (by decide) rfl ?_
    refine az_aload_n C 1 dX12_readOrder_83 rfl ?_
    refine az_dup C dX12_readOrder_84 rfl ?_
    refine az_geti C o40 fl_X12_398 rfl dX12_readOrder_85 ?_
    refine az_iconst (v := 1) C dX12_readOrder_88 (by decide) ?_
    refine az_iadd C dX12_readOrder_89 ?_
    refine az_puti C o40 fl_X12_398 rfl rfl rfl rfl dX12_readOrder_90 ?_
    refine az_aload_n C 1 dX12_readOrder_93 rfl ?_
    refine az_getr (r := 69) C o40 fl_X12_140 rfl rfl dX12_readOrder_94 ?_
    refine az_iload_n C 0 dX12_readOrder_97 rfl ?_
    refine az_iload_n C 2 dX12_readOrder_98 rfl ?_
    obtain ⟨g15, h⟩ := az_g h
    refine az_ist (k := (8 * (q12.1 40 21)).toNatClampNeg) C a69 g15 rfl dX12_readOrder_99 ?_
    refine az_aload_n C 1 dX12_readOrder_100 rfl ?_
    refine az_iload_n C 0 dX12_readOrder_101 rfl ?_
    refine az_iconst (v := 1) C dX12_readOrder_102 (by decide) ?_
    refine az_iadd C dX12_readOrder_103 ?_
    obtain ⟨q16, e17, h⟩ := az_b h
    refine az_cV (rest := []) (st2 := []) C [.int ((8 * (q12.1 40 21)) + 1)] (c_X12_readSum C.hL G ((8 * (q12.1 40 21)) + 1) (az_i (az_i q12 40 21 ((q12.1 40 21) + 1)) 69 ((8 * (q12.1 40 21)).toNatClampNeg) x1) e17) (by decide) li_X12_536 o40 (by decide) rfl rfl (Nat.le_of_ble_eq_true rfl) dX12_readOrder_104 rfl ?_
    refine az_aload_n C 1 dX12_readOrder_107 rfl ?_
    refine az_getr (r := 69) C o40 fl_X12_140 rfl rfl dX12_readOrder_108 ?_
    refine az_iload_n C 0 dX12_readOrder_111 rfl ?_
    refine az_iconst (v := 3) C dX12_readOrder_112 (by decide) ?_
    refine az_iadd C dX12_readOrder_113 ?_
    refine az_aload_n C 1 dX12_readOrder_114 rfl ?_
    refine az_geti C o40 fl_X12_307 rfl dX12_readOrder_115 ?_
    obtain ⟨g18, h⟩ := az_g h
    refine az_ist (k := ((8 * (q12.1 40 21)) + 3).toNatClampNeg) C a69 g18 rfl dX12_readOrder_118 ?_
    refine az_aload_n C 1 dX12_readOrder_119 rfl ?_
    refine az_getr (r := 69) C o40 fl_X12_140 rfl rfl dX12_readOrder_120 ?_
    refine az_iload_n C 0 dX12_readOrder_123 rfl ?_
    refine az_iconst (v := 4) C dX12_readOrder_124 (by decide) ?_
    refine az_iadd C dX12_readOrder_125 ?_
    refine az_aload_n C 1 dX12_readOrder_126 rfl ?_
    refine az_geti C o40 fl_X12_307 rfl dX12_readOrder_127 ?_
    obtain ⟨g19, h⟩ := az_g h
    refine az_ist (k := ((8 * (q12.1 40 21)) + 4).toNatClampNeg) C a69 g19 rfl dX12_readOrder_130 ?_
    refine az_iload_n C 2 dX12_readOrder_131 rfl ?_
    refine az_iconst (v := 2) C dX12_readOrder_132 (by decide) ?_
    refine az_icmp_eq C 171 dX12_readOrder_133 (by decide) (fun c20 => ?_) (fun c20 => ?_)
    · have h := az_t c20 h
      refine az_sub [1, 0] rfl ?_
      exact s_X12_readOrder_171 C G (8 * (q12.1 40 21)) (az_i (az_i q16 69 (((8 * (q12.1 40 21)) + 3).toNatClampNeg) (q16.1 40 23)) 69 (((8 * (q12.1 40 21)) + 4).toNatClampNeg) ((az_i q16 69 (((8 * (q12.1 40 21)) + 3).toNatClampNeg) (q16.1 40 23)).1 40 23)) r h hp
    · have h := az_f c20 h
      refine az_aload_n C 1 dX12_readOrder_136 rfl ?_
      refine az_geti C o40 fl_X12_270 rfl dX12_readOrder_137 ?_
      refine az_if_ne C 164 dX12_readOrder_140 (by decide) (fun c21 => ?_) (fun c21 => ?_)
      · have h := az_f c21 h
        refine az_sub [1, 0] rfl ?_
        exact s_X12_readOrder_164 C G (8 * (q12.1 40 21)) (az_i (az_i q16 69 (((8 * (q12.1 40 21)) + 3).toNatClampNeg) (q16.1 40 23)) 69 (((8 * (q12.1 40 21)) + 4).toNatClampNeg) ((az_i q16 69 (((8 * (q12.1 40 21)) + 3).toNatClampNeg) (q16.1 40 23)).1 40 23)) r h hp
      · have h := az_t c21 h
        refine az_aload_n C 1 dX12_readOrder_143 rfl ?_
        refine az_aload_n C 1 dX12_readOrder_144 rfl ?_
        refine az_iload_n C 2 dX12_readOrder_145 rfl ?_
        refine az_if_ne C 155 dX12_readOrder_146 (by decide) (fun c22 => ?_) (fun c22 => ?_)
        · have h := az_f c22 h
          refine az_ldc2 C ck_X12_541 dX12_readOrder_155 ?_
          refine az_sub [1, 0] rfl ?_
          exact s_X12_readOrder_158 C G (8 * (q12.1 40 21)) 89 (az_i (az_i q16 69 (((8 * (q12.1 40 21)) + 3).toNatClampNeg) (q16.1 40 23)) 69 (((8 * (q12.1 40 21)) + 4).toNatClampNeg) ((az_i q16 69 (((8 * (q12.1 40 21)) + 3).toNatClampNeg) (q16.1 40 23)).1 40 23)) r h hp
        · have h := az_t c22 h
          refine az_ldc2 C ck_X12_539 dX12_readOrder_149 ?_
          refine az_goto C 158 dX12_readOrder_152 (by decide) ?_
          refine az_sub [1, 0] rfl ?_
          exact s_X12_readOrder_158 C G (8 * (q12.1 40 21)) 52 (az_i (az_i q16 69 (((8 * (q12.1 40 21)) + 3).toNatClampNeg) (q16.1 40 23)) 69 (((8 * (q12.1 40 21)) + 4).toNatClampNeg) ((az_i q16 69 (((8 * (q12.1 40 21)) + 3).toNatClampNeg) (q16.1 40 23)).1 40 23)) r h hp
  · have h := az_f c14 h
    obtain rfl := Option.some.inj h
    exact az_vret C rfl dX12_readOrder_74 hp
set_option maxHeartbeats 4000000 in
set_option maxRecDepth 100000 in
theorem s_X12_readOrder_63 {Y : az_Y} {V : az_V} {post : Option Value → az_M → Prop} (C : az_C Y V cX12_readOrder 3 RX12 none 9) (G : Nat) (x1 : Int32) (M : az_M) (r : az_M) (h : f_X12_readOrder_63 G x1 M = some r) (hp : post none r) : AW Y V (az_end Y V post) 3 M 63 [(0, .ref (az_ad V 40)), (1, .int x1)] [.ref (az_ad V 40)] := by
  unfold f_X12_readOrder_63 at h
  refine az_iconst (v := 0) C dX12_readOrder_63 (by decide) ?_
  exact s_X12_readOrder_64 C G x1 0 M r h hp
set_option maxHeartbeats 4000000 in
set_option maxRecDepth 100000 in
theorem s_X12_readOrder_43 {Y : az_Y} {V : az_V} {post : Option Value → az_M → Prop} (C : az_C Y V cX12_readOrder 3 RX12 none 9) (G : Nat) (s0 : Int32) (M : az_M) (r : az_M) (h : f_X12_readOrder_43 G s0 M = some r) (hp : post none r) : AW Y V (az_end Y V post) 3 M 43 [(0, .ref (az_ad V 40))] [.int s0] := by
  have o40 := C.hL.at 40 (ci := 12) rfl
  unfold f_X12_readOrder_43 at h
  refine az_istore_n C dX12_readOrder_43 rfl (by decide) rfl ?_
  refine az_aload_n C 1 dX12_readOrder_44 rfl ?_
  refine az_iload_n C 0 dX12_readOrder_45 rfl ?_
  refine az_iconst (v := (-1)) C dX12_readOrder_46 (by decide) ?_
  refine az_icmp_eq C 63 dX12_readOrder_47 (by decide) (fun c10 => ?_) (fun c10 => ?_)
  · have h := az_t c10 h
    refine az_sub [1, 0] rfl ?_
    exact s_X12_readOrder_63 C G s0 M r h hp
  · have h := az_f c10 h
    refine az_aload_n C 1 dX12_readOrder_50 rfl ?_
    refine az_geti C o40 fl_X12_398 rfl dX12_readOrder_51 ?_
    refine az_bipush (v := 12) C dX12_readOrder_54 (by decide) ?_
    refine az_icmp_ge C 63 dX12_readOrder_56 (by decide) (fun c11 => ?_) (fun c11 => ?_)
    · have h := az_t c11 h
      refine az_sub [1, 0] rfl ?_
      exact s_X12_readOrder_63 C G s0 M r h hp
    · have h := az_f c11 h
      refine az_iconst (v := 1) C dX12_readOrder_59 (by decide) ?_
      refine az_goto C 64 dX12_readOrder_60 (by decide) ?_
      refine az_sub [1, 0] rfl ?_
      exact s_X12_readOrder_64 C G s0 1 M r h hp
set_option maxHeartbeats 4000000 in
set_option maxRecDepth 100000 in
theorem s_X12_readOrder_e {Y : az_Y} {V : az_V} {post : Option Value → az_M → Prop} (C : az_C Y V cX12_readOrder 3 RX12 none 9) (G : Nat)  (M : az_M) (r : az_M) (h : f_X12_readOrder G M = some r) (hp : post none r) : AW Y V (az_end Y V post) 3 M 0 [(0, .ref (az_ad V 40))] [] := by
  have o40 := C.hL.at 40 (ci := 12) rfl
  unfold f_X12_readOrder at h
  refine az_aload_n C 0 dX12_readOrder_0 rfl ?_
  refine az_ldc2 C ck_X12_530 dX12_readOrder_1 ?_
  obtain ⟨q1, e2, h⟩ := az_b h
  refine az_cV (rest := []) (st2 := [.int q1]) C [.long 206405] (c_X12_isWord C.hL 206405 M e2) (by decide) li_X12_326 o40 (by decide) rfl rfl (Nat.le_of_ble_eq_true rfl) dX12_readOrder_4 rfl ?_
  refine az_if_eq C 14 dX12_readOrder_7 (by decide) (fun c3 => ?_) (fun c3 => ?_)
  · have h := az_t c3 h
    refine az_aload_n C 0 dX12_readOrder_14 rfl ?_
    refine az_ldc2 C ck_X12_532 dX12_readOrder_15 ?_
    obtain ⟨q4, e5, h⟩ := az_b h
    refine az_cV (rest := []) (st2 := [.int q4]) C [.long 152748] (c_X12_isWord C.hL 152748 M e5) (by decide) li_X12_326 o40 (by decide) rfl rfl (Nat.le_of_ble_eq_true rfl) dX12_readOrder_18 rfl ?_
    refine az_if_eq C 28 dX12_readOrder_21 (by decide) (fun c6 => ?_) (fun c6 => ?_)
    · have h := az_t c6 h
      refine az_aload_n C 0 dX12_readOrder_28 rfl ?_
      refine az_ldc2 C ck_X12_534 dX12_readOrder_29 ?_
      obtain ⟨q7, e8, h⟩ := az_b h
      refine az_cV (rest := []) (st2 := [.int q7]) C [.long 595572] (c_X12_isWord C.hL 595572 M e8) (by decide) li_X12_326 o40 (by decide) rfl rfl (Nat.le_of_ble_eq_true rfl) dX12_readOrder_32 rfl ?_
      refine az_if_eq C 42 dX12_readOrder_35 (by decide) (fun c9 => ?_) (fun c9 => ?_)
      · have h := az_t c9 h
        refine az_iconst (v := (-1)) C dX12_readOrder_42 (by decide) ?_
        exact s_X12_readOrder_43 C G (-1) M r h hp
      · have h := az_f c9 h
        refine az_iconst (v := 2) C dX12_readOrder_38 (by decide) ?_
        refine az_goto C 43 dX12_readOrder_39 (by decide) ?_
        exact s_X12_readOrder_43 C G 2 M r h hp
    · have h := az_f c6 h
      refine az_iconst (v := 1) C dX12_readOrder_24 (by decide) ?_
      refine az_goto C 43 dX12_readOrder_25 (by decide) ?_
      exact s_X12_readOrder_43 C G 1 M r h hp
  · have h := az_f c3 h
    refine az_iconst (v := 0) C dX12_readOrder_10 (by decide) ?_
    refine az_goto C 43 dX12_readOrder_11 (by decide) ?_
    exact s_X12_readOrder_43 C G 0 M r h hp
theorem c_X12_readOrder {l : Launch} {V : az_V} (hL : az_L V) (G : Nat)  (M : az_M) {r : az_M} (h : f_X12_readOrder G M = some r) : az_Ct l V yX12_readOrder cX12_readOrder 3 none 9 [.ref (az_ad V 40)] M (fun v M' => v = none ∧ M' = r) :=
  az_Ct.of (by decide) (Nat.le_of_ble_eq_true rfl) (fun Y _ _ C => s_X12_readOrder_e C G M r h ⟨rfl, rfl⟩)
