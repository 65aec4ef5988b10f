set_option maxHeartbeats 4000000 in
set_option maxRecDepth 100000 in
theorem s_X12_game_24 {Y : az_Y} {V : az_V} {post : Option Value → az_M → Prop} (C : az_C Y V cX12_game 6 RX12 (some .int) 8) (G : Nat)  (M : az_M) (r : (Int32 × az_M)) (h : f_X12_game_24 G M = some r) (hp : post (some (.int r.1)) r.2) : AW Y V (az_end Y V post) 6 M 24 [] [] := by
  unfold f_X12_game_24 at h
  refine az_iconst (v := (-1)) C dX12_game_24 (by decide) ?_
  obtain rfl := Option.some.inj h
  exact az_iret C dX12_game_25 hp
set_option maxHeartbeats 4000000 in
set_option maxRecDepth 100000 in
theorem s_X12_game_80 {Y : az_Y} {V : az_V} {post : Option Value → az_M → Prop} (C : az_C Y V cX12_game 6 RX12 (some .int) 8) (G : Nat) (K38 : (Int32 → Int32 → Int32 → az_M → Option (Int32 × az_M))) (hK38 : ∀ (x1 : Int32) (x2 : Int32) (x3 : Int32) (M : az_M) (r : (Int32 × az_M)), K38 x1 x2 x3 M = some r → post (some (.int r.1)) r.2 → AW Y V (az_end Y V post) 6 M 38 [(0, .ref (az_ad V 40)), (1, .int x1), (2, .int x2), (3, .int x3)] []) (x1 : Int32) (x2 : Int32) (x3 : Int32) (x4 : Int32) (M : az_M) (r : (Int32 × az_M)) (h : f_X12_game_80 G K38 x1 x2 x3 x4 M = some r) (hp : post (some (.int r.1)) r.2) : AW Y V (az_end Y V post) 6 M 80 [(0, .ref (az_ad V 40)), (1, .int x1), (2, .int x2), (3, .int x3), (4, .int x4)] [] := by
  have o40 := C.hL.at 40 (ci := 12) rfl
  have a68 := C.hL.ar 68 (t := 2) (len := 1000) rfl
  unfold f_X12_game_80 at h
  refine az_aload_n C 0 dX12_game_80 rfl ?_
  refine az_getr (r := 68) C o40 fl_X12_137 rfl rfl dX12_game_81 ?_
  refine az_iload_n C 3 dX12_game_84 rfl ?_
  refine az_iload C 4 dX12_game_85 rfl ?_
  obtain ⟨g16, h⟩ := az_g h
  obtain ⟨g17, h⟩ := az_g2 h
  refine az_zst (k := x3.toNatClampNeg) C a68 g16 rfl (az_vz g17) dX12_game_87 ?_
  refine az_iinc (v := (x3 + 1)) C 3 dX12_game_88 rfl rfl (by decide) rfl ?_
  refine az_goto C 38 dX12_game_91 (by decide) ?_
  refine az_sub [1, 2, 3, 0] rfl ?_
  exact hK38 x1 x2 (x3 + 1) (az_i M 68 x3.toNatClampNeg x4) r h hp
set_option maxHeartbeats 4000000 in
set_option maxRecDepth 100000 in
theorem s_X12_game_49 {Y : az_Y} {V : az_V} {post : Option Value → az_M → Prop} (C : az_C Y V cX12_game 6 RX12 (some .int) 8) (G : Nat) (K38 : (Int32 → Int32 → Int32 → az_M → Option (Int32 × az_M))) (hK38 : ∀ (x1 : Int32) (x2 : Int32) (x3 : Int32) (M : az_M) (r : (Int32 × az_M)), K38 x1 x2 x3 M = some r → post (some (.int r.1)) r.2 → AW Y V (az_end Y V post) 6 M 38 [(0, .ref (az_ad V 40)), (1, .int x1), (2, .int x2), (3, .int x3)] []) : ∀ (F : Nat) (x1 : Int32) (x2 : Int32) (x3 : Int32) (x4 : Int32) (x5 : Int32) (M : az_M) (r : (Int32 × az_M)), f_X12_game_49 G K38 F x1 x2 x3 x4 x5 M = some r → post (some (.int r.1)) r.2 → AW Y V (az_end Y V post) 6 M 49 [(0, .ref (az_ad V 40)), (1, .int x1), (2, .int x2), (3, .int x3), (4, .int x4), (5, .int x5)] [] := by
  have o40 := C.hL.at 40 (ci := 12) rfl
  have a42 := C.hL.ar 42 (t := 0) (len := 5550) rfl
  intro F
  induction F with
  | zero =>
    intro x1 x2 x3 x4 x5 M r h
    exact absurd (show (none : Option (Int32 × az_M)) = some r from h) (fun q => by cases q)
  | succ F ih =>
    intro x1 x2 x3 x4 x5 M r h hp
    rw [f_X12_game_49] at h
    refine az_iload C 5 dX12_game_49 rfl ?_
    refine az_aload_n C 0 dX12_game_51 rfl ?_
    refine az_getr (r := 42) C o40 fl_X12_13 rfl rfl dX12_game_52 ?_
    refine az_iconst (v := 0) C dX12_game_55 (by decide) ?_
    refine az_ild (k := 0) C a42 (by decide) (by decide) dX12_game_56 ?_
    refine az_icmp_ge C 80 dX12_game_57 (by decide) (fun c12 => ?_) (fun c12 => ?_)
    · have h := az_t c12 h
      refine az_sub [0, 1, 2, 3, 4] rfl ?_
      exact s_X12_game_80 C G K38 hK38 x1 x2 x3 x4 M r h hp
    · have h := az_f c12 h
      refine az_iload C 4 dX12_game_60 rfl ?_
      refine az_if_ne C 80 dX12_game_62 (by decide) (fun c13 => ?_) (fun c13 => ?_)
      · have h := az_f c13 h
        refine az_sub [0, 1, 2, 3, 4] rfl ?_
        exact s_X12_game_80 C G K38 hK38 x1 x2 x3 x4 M r h hp
      · have h := az_t c13 h
        refine az_aload_n C 0 dX12_game_65 rfl ?_
        refine az_iload_n C 3 dX12_game_66 rfl ?_
        refine az_iload C 5 dX12_game_67 rfl ?_
        obtain ⟨q14, e15, h⟩ := az_b h
        refine az_callV C [.int x3, .int x5] (c_X12_isWon C.hL G x3 x5 M e15) (by decide) li_X12_527 o40 (by decide) rfl rfl (Nat.le_of_ble_eq_true rfl) dX12_game_69 (fun v M1 hv => ?_)
        obtain ⟨rfl, rfl⟩ := hv
        refine az_eqst (st' := [.int q14.1]) rfl ?_
        refine az_istore C dX12_game_72 (by decide) rfl ?_
        refine az_iinc (v := (x5 + 1)) C 5 dX12_game_74 rfl rfl (by decide) rfl ?_
        refine az_goto C 49 dX12_game_77 (by decide) ?_
        refine az_sub [2, 3, 4, 5, 1, 0] rfl ?_
        exact ih x1 x2 x3 q14.1 (x5 + 1) q14.2 r h hp
set_option maxHeartbeats 4000000 in
set_option maxRecDepth 100000 in
theorem s_X12_game_131 {Y : az_Y} {V : az_V} {post : Option Value → az_M → Prop} (C : az_C Y V cX12_game 6 RX12 (some .int) 8) (G : Nat) (K109 : (Int32 → Int32 → Int32 → Int32 → Int32 → az_M → Option (Int32 × az_M))) (hK109 : ∀ (x1 : Int32) (x2 : Int32) (x3 : Int32) (x4 : Int32) (x5 : Int32) (M : az_M) (r : (Int32 × az_M)), K109 x1 x2 x3 x4 x5 M = some r → post (some (.int r.1)) r.2 → AW Y V (az_end Y V post) 6 M 109 [(0, .ref (az_ad V 40)), (1, .int x1), (2, .int x2), (3, .int x3), (4, .int x4), (5, .int x5)] []) (x1 : Int32) (x2 : Int32) (x3 : Int32) (x4 : Int32) (x5 : Int32) (M : az_M) (r : (Int32 × az_M)) (h : f_X12_game_131 G K109 x1 x2 x3 x4 x5 M = some r) (hp : post (some (.int r.1)) r.2) : AW Y V (az_end Y V post) 6 M 131 [(0, .ref (az_ad V 40)), (1, .int x1), (2, .int x2), (3, .int x3), (4, .int x4), (5, .int x5)] [] := by
  unfold f_X12_game_131 at h
  refine az_iinc (v := (x5 + (-1))) C 5 dX12_game_131 rfl rfl (by decide) rfl ?_
  refine az_goto C 109 dX12_game_134 (by decide) ?_
  refine az_sub [1, 2, 3, 4, 5, 0] rfl ?_
  exact hK109 x1 x2 x3 x4 (x5 + (-1)) M r h hp
set_option maxHeartbeats 4000000 in
set_option maxRecDepth 100000 in
theorem s_X12_game_164 {Y : az_Y} {V : az_V} {post : Option Value → az_M → Prop} (C : az_C Y V cX12_game 6 RX12 (some .int) 8) (G : Nat) (s0 : Int32) (M : az_M) (r : (Int32 × az_M)) (h : f_X12_game_164 G s0 M = some r) (hp : post (some (.int r.1)) r.2) : AW Y V (az_end Y V post) 6 M 164 [] [.int s0] := by
  unfold f_X12_game_164 at h
  obtain rfl := Option.some.inj h
  exact az_iret C dX12_game_164 hp
set_option maxHeartbeats 4000000 in
set_option maxRecDepth 100000 in
theorem s_X12_game_109 {Y : az_Y} {V : az_V} {post : Option Value → az_M → Prop} (C : az_C Y V cX12_game 6 RX12 (some .int) 8) (G : Nat) : ∀ (F : Nat) (x1 : Int32) (x2 : Int32) (x3 : Int32) (x4 : Int32) (x5 : Int32) (M : az_M) (r : (Int32 × az_M)), f_X12_game_109 G F x1 x2 x3 x4 x5 M = some r → post (some (.int r.1)) r.2 → AW Y V (az_end Y V post) 6 M 109 [(0, .ref (az_ad V 40)), (1, .int x1), (2, .int x2), (3, .int x3), (4, .int x4), (5, .int x5)] [] := by
  have o40 := C.hL.at 40 (ci := 12) rfl
  intro F
  induction F with
  | zero =>
    intro x1 x2 x3 x4 x5 M r h
    exact absurd (show (none : Option (Int32 × az_M)) = some r from h) (fun q => by cases q)
  | succ F ih =>
    intro x1 x2 x3 x4 x5 M r h hp
    rw [f_X12_game_109] at h
    refine az_iload C 5 dX12_game_109 rfl ?_
    refine az_if_lt C 137 dX12_game_111 (by decide) (fun c18 => ?_) (fun c18 => ?_)
    · have h := az_t c18 h
      refine az_iload_n C 1 dX12_game_137 rfl ?_
      refine az_if_ne C 153 dX12_game_138 (by decide) (fun c19 => ?_) (fun c19 => ?_)
      · have h := az_f c19 h
        refine az_iload_n C 1 dX12_game_153 rfl ?_
        refine az_iconst (v := 1) C dX12_game_154 (by decide) ?_
        refine az_icmp_ne C 162 dX12_game_155 (by decide) (fun c20 => ?_) (fun c20 => ?_)
        · have h := az_f c20 h
          refine az_iload C 4 dX12_game_162 rfl ?_
          refine az_sub [] rfl ?_
          exact s_X12_game_164 C G x4 M r h hp
        · have h := az_t c20 h
          refine az_iload_n C 3 dX12_game_158 rfl ?_
          refine az_goto C 164 dX12_game_159 (by decide) ?_
          refine az_sub [] rfl ?_
          exact s_X12_game_164 C G x3 M r h hp
      · have h := az_t c19 h
        refine az_iload_n C 3 dX12_game_141 rfl ?_
        refine az_if_le C 149 dX12_game_142 (by decide) (fun c21 => ?_) (fun c21 => ?_)
        · have h := az_t c21 h
          refine az_iconst (v := 0) C dX12_game_149 (by decide) ?_
          refine az_goto C 164 dX12_game_150 (by decide) ?_
          refine az_sub [] rfl ?_
          exact s_X12_game_164 C G 0 M r h hp
        · have h := az_f c21 h
          refine az_iconst (v := 1) C dX12_game_145 (by decide) ?_
          refine az_goto C 164 dX12_game_146 (by decide) ?_
          refine az_sub [] rfl ?_
          exact s_X12_game_164 C G 1 M r h hp
    · have h := az_f c18 h
      refine az_aload_n C 0 dX12_game_114 rfl ?_
      refine az_iload_n C 2 dX12_game_115 rfl ?_
      refine az_iload C 5 dX12_game_116 rfl ?_
      obtain ⟨q22, e23, h⟩ := az_b h
      refine az_callV C [.int x2, .int x5] (c_X12_isWon C.hL G x2 x5 M e23) (by decide) li_X12_527 o40 (by decide) rfl rfl (Nat.le_of_ble_eq_true rfl) dX12_game_118 (fun v M1 hv => ?_)
      obtain ⟨rfl, rfl⟩ := hv
      refine az_eqst (st' := [.int q22.1]) rfl ?_
      refine az_if_eq C 131 dX12_game_121 (by decide) (fun c24 => ?_) (fun c24 => ?_)
      · have h := az_t c24 h
        exact s_X12_game_131 C G (f_X12_game_109 G F) ih x1 x2 x3 x4 x5 q22.2 r h hp
      · have h := az_f c24 h
        refine az_iinc (v := (x3 + 1)) C 3 dX12_game_124 rfl rfl (by decide) rfl ?_
        refine az_iload C 5 dX12_game_127 rfl ?_
        refine az_istore C dX12_game_129 (by decide) rfl ?_
        refine az_sub [2, 3, 4, 1, 0, 5] rfl ?_
        exact s_X12_game_131 C G (f_X12_game_109 G F) ih x1 x2 (x3 + 1) x5 x5 q22.2 r h hp
set_option maxHeartbeats 4000000 in
set_option maxRecDepth 100000 in
theorem s_X12_game_38 {Y : az_Y} {V : az_V} {post : Option Value → az_M → Prop} (C : az_C Y V cX12_game 6 RX12 (some .int) 8) (G : Nat) : ∀ (F : Nat) (x1 : Int32) (x2 : Int32) (x3 : Int32) (M : az_M) (r : (Int32 × az_M)), f_X12_game_38 G F x1 x2 x3 M = some r → post (some (.int r.1)) r.2 → AW Y V (az_end Y V post) 6 M 38 [(0, .ref (az_ad V 40)), (1, .int x1), (2, .int x2), (3, .int x3)] [] := by
  have o40 := C.hL.at 40 (ci := 12) rfl
  have a42 := C.hL.ar 42 (t := 0) (len := 5550) rfl
  intro F
  induction F with
  | zero =>
    intro x1 x2 x3 M r h
    exact absurd (show (none : Option (Int32 × az_M)) = some r from h) (fun q => by cases q)
  | succ F ih =>
    intro x1 x2 x3 M r h hp
    rw [f_X12_game_38] at h
    refine az_iload_n C 3 dX12_game_38 rfl ?_
    refine az_iload_n C 2 dX12_game_39 rfl ?_
    refine az_icmp_gt C 94 dX12_game_40 (by decide) (fun c11 => ?_) (fun c11 => ?_)
    · have h := az_t c11 h
      refine az_iconst (v := 0) C dX12_game_94 (by decide) ?_
      refine az_istore_n C dX12_game_95 rfl (by decide) rfl ?_
      refine az_iconst (v := (-1)) C dX12_game_96 (by decide) ?_
      refine az_istore C dX12_game_97 (by decide) rfl ?_
      refine az_aload_n C 2 dX12_game_99 rfl ?_
      refine az_getr (r := 42) C o40 fl_X12_13 rfl rfl dX12_game_100 ?_
      refine az_iconst (v := 0) C dX12_game_103 (by decide) ?_
      refine az_ild (k := 0) C a42 (by decide) (by decide) dX12_game_104 ?_
      refine az_iconst (v := 1) C dX12_game_105 (by decide) ?_
      refine az_isub C dX12_game_106 ?_
      refine az_istore C dX12_game_107 (by decide) rfl ?_
      refine az_sub [3, 4, 5, 2, 1, 0] rfl ?_
      exact s_X12_game_109 C G G x1 x2 0 (-1) ((M.1 42 0) - 1) M r h hp
    · have h := az_f c11 h
      refine az_iconst (v := 0) C dX12_game_43 (by decide) ?_
      refine az_istore C dX12_game_44 (by decide) rfl ?_
      refine az_iconst (v := 0) C dX12_game_46 (by decide) ?_
      refine az_istore C dX12_game_47 (by decide) rfl ?_
      refine az_sub [2, 3, 4, 5, 1, 0] rfl ?_
      exact s_X12_game_49 C G (f_X12_game_38 G F) ih G x1 x2 x3 0 0 M r h hp
set_option maxHeartbeats 4000000 in
set_option maxRecDepth 100000 in
theorem s_X12_game_e {Y : az_Y} {V : az_V} {post : Option Value → az_M → Prop} (C : az_C Y V cX12_game 6 RX12 (some .int) 8) (G : Nat) (p0 : Int32) (M : az_M) (r : (Int32 × az_M)) (h : f_X12_game G p0 M = some r) (hp : post (some (.int r.1)) r.2) : AW Y V (az_end Y V post) 6 M 0 [(0, .ref (az_ad V 40)), (1, .int p0)] [] := by
  have o40 := C.hL.at 40 (ci := 12) rfl
  unfold f_X12_game at h
  refine az_aload_n C 0 dX12_game_0 rfl ?_
  refine az_iconst (v := 0) C dX12_game_1 (by decide) ?_
  refine az_puti C o40 fl_X12_149 rfl rfl rfl rfl dX12_game_2 ?_
  refine az_iload_n C 1 dX12_game_5 rfl ?_
  refine az_i2l C dX12_game_6 ?_
  refine az_lconst (v := 0) C dX12_game_7 (by decide) ?_
  refine az_ldc2 C ck_X12_176 dX12_game_8 ?_
  obtain ⟨q1, e2, h⟩ := az_b h
  refine az_callS C [.long p0.toInt64, .long 0, .long 2] (c_X12_in C.hL p0.toInt64 0 2 (az_i M 40 0 0) e2) (by decide) li_X12_169 rfl rfl (Nat.le_of_ble_eq_true rfl) dX12_game_11 (fun v M1 hv => ?_)
  obtain ⟨rfl, rfl⟩ := hv
  refine az_eqst (st' := [.int q1]) rfl ?_
  refine az_if_eq C 24 dX12_game_14 (by decide) (fun c3 => ?_) (fun c3 => ?_)
  · have h := az_t c3 h
    refine az_sub [] rfl ?_
    exact s_X12_game_24 C G (az_i M 40 0 0) r h hp
  · have h := az_f c3 h
    refine az_aload_n C 0 dX12_game_17 rfl ?_
    obtain ⟨q4, e5, h⟩ := az_b h
    refine az_callV C [] (c_X12_canFire C.hL (az_i M 40 0 0) e5) (by decide) li_X12_194 o40 (by decide) rfl rfl (Nat.le_of_ble_eq_true rfl) dX12_game_18 (fun v M1 hv => ?_)
    obtain ⟨rfl, rfl⟩ := hv
    refine az_eqst (st' := [.int q4]) rfl ?_
    refine az_if_ne C 26 dX12_game_21 (by decide) (fun c6 => ?_) (fun c6 => ?_)
    · have h := az_f c6 h
      refine az_aload_n C 0 dX12_game_26 rfl ?_
      refine az_iconst (v := 0) C dX12_game_27 (by decide) ?_
      obtain ⟨q7, e8, h⟩ := az_b h
      refine az_callV C [.int 0] (c_X12_bulletOf C.hL 0 (az_i M 40 0 0) e8) (by decide) li_X12_186 o40 (by decide) rfl rfl (Nat.le_of_ble_eq_true rfl) dX12_game_28 (fun v M1 hv => ?_)
      obtain ⟨rfl, rfl⟩ := hv
      refine az_eqst (st' := [.int q7]) rfl ?_
      refine az_istore_n C dX12_game_31 rfl (by decide) rfl ?_
      refine az_aload_n C 1 dX12_game_32 rfl ?_
      refine az_iconst (v := 2) C dX12_game_33 (by decide) ?_
      obtain ⟨q9, e10, h⟩ := az_b h
      refine az_callV C [.int 2] (c_X12_term C.hL 2 (az_i M 40 0 0) e10) (by decide) li_X12_189 o40 (by decide) rfl rfl (Nat.le_of_ble_eq_true rfl) dX12_game_34 (fun v M1 hv => ?_)
      obtain ⟨rfl, rfl⟩ := hv
      refine az_eqst (st' := [.int q9]) rfl ?_
      refine az_istore_n C dX12_game_37 rfl (by decide) rfl ?_
      refine az_sub [2, 3, 1, 0] rfl ?_
      exact s_X12_game_38 C G G p0 q7 q9 (az_i M 40 0 0) r h hp
    · have h := az_t c6 h
      refine az_sub [] rfl ?_
      exact s_X12_game_24 C G (az_i M 40 0 0) r h hp
theorem c_X12_game {l : Launch} {V : az_V} (hL : az_L V) (G : Nat) (p0 : Int32) (M : az_M) {r : (Int32 × az_M)} (h : f_X12_game G p0 M = some r) : az_Ct l V yX12_game cX12_game 6 (some .int) 8 [.ref (az_ad V 40), .int p0] M (fun v M' => v = some (.int r.1) ∧ M' = r.2) :=
  az_Ct.of (by decide) (Nat.le_of_ble_eq_true rfl) (fun Y _ _ C => s_X12_game_e C G p0 M r h ⟨rfl, rfl⟩)
set_option maxHeartbeats 4000000 in
set_option maxRecDepth 100000 in
theorem s_X12_share_45 {Y : az_Y} {V : az_V} {post : Option Value → az_M → Prop} (C : az_C Y V cX12_share 7 RX12 (some .int) 2) (G : Nat)  (M : az_M) (r : (Int32 × az_M)) (h : f_X12_share_45 G M = some r) (hp : post (some (.int r.1)) r.2) : AW Y V (az_end Y V post) 7 M 45 [] [] := by
  unfold f_X12_share_45 at h
  refine az_iconst (v := (-1)) C dX12_share_45 (by decide) ?_
  obtain rfl := Option.some.inj h
  exact az_iret C dX12_share_46 hp
set_option maxHeartbeats 4000000 in
set_option maxRecDepth 100000 in
theorem s_X12_share_107 {Y : az_Y} {V : az_V} {post : Option Value → az_M → Prop} (C : az_C Y V cX12_share 7 RX12 (some .int) 2) (G : Nat) (s0 : Int32) (M : az_M) (r : (Int32 × az_M)) (h : f_X12_share_107 G s0 M = some r) (hp : post (some (.int r.1)) r.2) : AW Y V (az_end Y V post) 7 M 107 [] [.int s0] := by
  unfold f_X12_share_107 at h
  obtain rfl := Option.some.inj h
  exact az_iret C dX12_share_107 hp
set_option maxHeartbeats 4000000 in
set_option maxRecDepth 100000 in
theorem s_X12_share_61 {Y : az_Y} {V : az_V} {post : Option Value → az_M → Prop} (C : az_C Y V cX12_share 7 RX12 (some .int) 2) (G : Nat) : ∀ (F : Nat) (x1 : Int32) (x2 : Int32) (x3 : Int32) (x4 : Int32) (x5 : Int32) (M : az_M) (r : (Int32 × az_M)), f_X12_share_61 G F x1 x2 x3 x4 x5 M = some r → post (some (.int r.1)) r.2 → AW Y V (az_end Y V post) 7 M 61 [(0, .ref (az_ad V 40)), (1, .int x1), (2, .int x2), (3, .int x3), (4, .int x4), (5, .int x5)] [] := by
  have o40 := C.hL.at 40 (ci := 12) rfl
  have a42 := C.hL.ar 42 (t := 0) (len := 5550) rfl
  intro F
  induction F with
  | zero =>
    intro x1 x2 x3 x4 x5 M r h
    exact absurd (show (none : Option (Int32 × az_M)) = some r from h) (fun q => by cases q)
  | succ F ih =>
    intro x1 x2 x3 x4 x5 M r h hp
    rw [f_X12_share_61] at h
    refine az_iload C 5 dX12_share_61 rfl ?_
    refine az_if_eq C 84 dX12_share_63 (by decide) (fun c9 => ?_) (fun c9 => ?_)
    · have h := az_t c9 h
      refine az_iload_n C 2 dX12_share_84 rfl ?_
      refine az_if_ne C 103 dX12_share_85 (by decide) (fun c10 => ?_) (fun c10 => ?_)
      · have h := az_f c10 h
        refine az_iload_n C 3 dX12_share_103 rfl ?_
        refine az_iload C 4 dX12_share_104 rfl ?_
        obtain ⟨g11, h⟩ := az_g h
        refine az_idiv C dX12_share_106 g11 ?_
        refine az_sub [] rfl ?_
        exact s_X12_share_107 C G (x3 / x4) M r h hp
      · have h := az_t c10 h
        refine az_aload_n C 0 dX12_share_88 rfl ?_
        refine az_getr (r := 42) C o40 fl_X12_13 rfl rfl dX12_share_89 ?_
        refine az_bipush (v := 15) C dX12_share_92 (by decide) ?_
        refine az_iload_n C 1 dX12_share_94 rfl ?_
        refine az_iadd C dX12_share_95 ?_
        obtain ⟨g12, h⟩ := az_g h
        refine az_ild (k := (15 + x1).toNatClampNeg) C a42 g12 rfl dX12_share_96 ?_
        refine az_iload C 4 dX12_share_97 rfl ?_
        obtain ⟨g13, h⟩ := az_g h
        refine az_idiv C dX12_share_99 g13 ?_
        refine az_goto C 107 dX12_share_100 (by decide) ?_
        refine az_sub [] rfl ?_
        exact s_X12_share_107 C G ((M.1 42 ((15 + x1).toNatClampNeg)) / x4) M r h hp
    · have h := az_f c9 h
      refine az_iload C 4 dX12_share_66 rfl ?_
      refine az_iload C 5 dX12_share_68 rfl ?_
      obtain ⟨g14, h⟩ := az_g h
      refine az_irem2 C dX12_share_70 g14 ?_
      refine az_istore C dX12_share_71 (by decide) rfl ?_
      refine az_iload C 6 dX12_share_73 rfl ?_
      refine az_istore C dX12_share_75 (by decide) rfl ?_
      refine az_iload C 1 dX12_share_77 rfl ?_
      refine az_istore C dX12_share_79 (by decide) rfl ?_
      refine az_goto C 61 dX12_share_81 (by decide) ?_
      refine az_sub [3, 4, 5, 6, 1, 0] rfl ?_
      exact ih x1 x2 x3 x5 (az_rem x4 x5) M r h hp
set_option maxHeartbeats 4000000 in
set_option maxRecDepth 100000 in
theorem s_X12_share_e {Y : az_Y} {V : az_V} {post : Option Value → az_M → Prop} (C : az_C Y V cX12_share 7 RX12 (some .int) 2) (G : Nat) (p0 : Int32) (p1 : Int32) (M : az_M) (r : (Int32 × az_M)) (h : f_X12_share G p0 p1 M = some r) (hp : post (some (.int r.1)) r.2) : AW Y V (az_end Y V post) 7 M 0 [(0, .ref (az_ad V 40)), (1, .int p0), (2, .int p1)] [] := by
  have o40 := C.hL.at 40 (ci := 12) rfl
  have a42 := C.hL.ar 42 (t := 0) (len := 5550) rfl
  unfold f_X12_share at h
  refine az_aload_n C 0 dX12_share_0 rfl ?_
  refine az_iconst (v := 0) C dX12_share_1 (by decide) ?_
  refine az_puti C o40 fl_X12_149 rfl rfl rfl rfl dX12_share_2 ?_
  refine az_aload_n C 0 dX12_share_5 rfl ?_
  refine az_getr (r := 42) C o40 fl_X12_13 rfl rfl dX12_share_6 ?_
  refine az_bipush (v := 15) C dX12_share_9 (by decide) ?_
  refine az_ild (k := 15) C a42 (by decide) (by decide) dX12_share_11 ?_
  refine az_aload_n C 0 dX12_share_12 rfl ?_
  refine az_getr (r := 42) C o40 fl_X12_13 rfl rfl dX12_share_13 ?_
  refine az_bipush (v := 16) C dX12_share_16 (by decide) ?_
  refine az_ild (k := 16) C a42 (by decide) (by decide) dX12_share_18 ?_
  refine az_iadd C dX12_share_19 ?_
  refine az_istore_n C dX12_share_20 rfl (by decide) rfl ?_
  refine az_iload_n C 2 dX12_share_21 rfl ?_
  refine az_i2l C dX12_share_22 ?_
  refine az_lconst (v := 0) C dX12_share_23 (by decide) ?_
  refine az_lconst (v := 1) C dX12_share_24 (by decide) ?_
  obtain ⟨q1, e2, h⟩ := az_b h
  refine az_callS C [.long p0.toInt64, .long 0, .long 1] (c_X12_in C.hL p0.toInt64 0 1 (az_i M 40 0 0) e2) (by decide) li_X12_169 rfl rfl (Nat.le_of_ble_eq_true rfl) dX12_share_25 (fun v M1 hv => ?_)
  obtain ⟨rfl, rfl⟩ := hv
  refine az_eqst (st' := [.int q1]) rfl ?_
  refine az_if_eq C 45 dX12_share_28 (by decide) (fun c3 => ?_) (fun c3 => ?_)
  · have h := az_t c3 h
    refine az_sub [] rfl ?_
    exact s_X12_share_45 C G (az_i M 40 0 0) r h hp
  · have h := az_f c3 h
    refine az_iload_n C 3 dX12_share_31 rfl ?_
    refine az_i2l C dX12_share_32 ?_
    refine az_lconst (v := 0) C dX12_share_33 (by decide) ?_
    refine az_lconst (v := 1) C dX12_share_34 (by decide) ?_
    obtain ⟨q4, e5, h⟩ := az_b h
    refine az_callS C [.long p1.toInt64, .long 0, .long 1] (c_X12_in C.hL p1.toInt64 0 1 (az_i M 40 0 0) e5) (by decide) li_X12_169 rfl rfl (Nat.le_of_ble_eq_true rfl) dX12_share_35 (fun v M1 hv => ?_)
    obtain ⟨rfl, rfl⟩ := hv
    refine az_eqst (st' := [.int q4]) rfl ?_
    refine az_if_eq C 45 dX12_share_38 (by decide) (fun c6 => ?_) (fun c6 => ?_)
    · have h := az_t c6 h
      refine az_sub [] rfl ?_
      exact s_X12_share_45 C G (az_i M 40 0 0) r h hp
    · have h := az_f c6 h
      refine az_iload_n C 0 dX12_share_41 rfl ?_
      refine az_if_ne C 47 dX12_share_42 (by decide) (fun c7 => ?_) (fun c7 => ?_)
      · have h := az_f c7 h
        refine az_aload_n C 1 dX12_share_47 rfl ?_
        refine az_getr (r := 42) C o40 fl_X12_13 rfl rfl dX12_share_48 ?_
        refine az_bipush (v := 15) C dX12_share_51 (by decide) ?_
        refine az_iload_n C 2 dX12_share_53 rfl ?_
        refine az_iadd C dX12_share_54 ?_
        obtain ⟨g8, h⟩ := az_g h
        refine az_ild (k := (15 + p0).toNatClampNeg) C a42 g8 rfl dX12_share_55 ?_
        refine az_istore C dX12_share_56 (by decide) rfl ?_
        refine az_iload_n C 1 dX12_share_58 rfl ?_
        refine az_istore C dX12_share_59 (by decide) rfl ?_
        refine az_sub [3, 4, 5, 2, 1, 0] rfl ?_
        exact s_X12_share_61 C G G p0 p1 (((az_i M 40 0 0).1 42 15) + ((az_i M 40 0 0).1 42 16)) ((az_i M 40 0 0).1 42 ((15 + p0).toNatClampNeg)) (((az_i M 40 0 0).1 42 15) + ((az_i M 40 0 0).1 42 16)) (az_i M 40 0 0) r h hp
      · have h := az_t c7 h
        refine az_sub [] rfl ?_
        exact s_X12_share_45 C G (az_i M 40 0 0) r h hp
theorem c_X12_share {l : Launch} {V : az_V} (hL : az_L V) (G : Nat) (p0 : Int32) (p1 : Int32) (M : az_M) {r : (Int32 × az_M)} (h : f_X12_share G p0 p1 M = some r) : az_Ct l V yX12_share cX12_share 7 (some .int) 2 [.ref (az_ad V 40), .int p0, .int p1] M (fun v M' => v = some (.int r.1) ∧ M' = r.2) :=
  az_Ct.of (by decide) (Nat.le_of_ble_eq_true rfl) (fun Y _ _ C => s_X12_share_e C G p0 p1 M r h ⟨rfl, rfl⟩)
set_option maxHeartbeats 4000000 in
set_option maxRecDepth 100000 in
theorem s_X12_readSum_22 {Y : az_Y} {V : az_V} {post : Option Value → az_M → Prop} (C : az_C Y V cX12_readSum 2 RX12 none 8) (G : Nat) (x1 : Int32) (M : az_M) (r : az_M) (h : f_X12_readSum_22 G x1 M = some r) (hp : post none r) : AW Y V (az_end Y V post) 2 M 22 [(0, .ref (az_ad V 40)), (1, .int x1)] [] := by
  have o40 := C.hL.at 40 (ci := 12) rfl
  have a69 := C.hL.ar 69 (t := 0) (len := 96) rfl
  unfold f_X12_readSum_22 at h
  refine az_aload_n C 0 dX12_readSum_22 rfl ?_
  refine az_getr (r := 69) C o40 fl_X12_140 rfl rfl dX12_readSum_23 ?_
  refine az_iload_n C 1 dX12_readSum_26 rfl ?_
  refine az_iconst (v := 1) C dX12_readSum_27 (by decide) ?_
  refine az_iadd C dX12_readSum_28 ?_
  refine az_aload_n C 0 dX12_readSum_29 rfl ?_
  refine az_geti C o40 fl_X12_307 rfl dX12_readSum_30 ?_
  obtain ⟨g5, h⟩ := az_g h
  refine az_ist (k := (x1 + 1).toNatClampNeg) C a69 g5 rfl dX12_readSum_33 ?_
  obtain rfl := Option.some.inj h
  exact az_vret C rfl dX12_readSum_34 hp
set_option maxHeartbeats 4000000 in
set_option maxRecDepth 100000 in
theorem s_X12_readSum_e {Y : az_Y} {V : az_V} {post : Option Value → az_M → Prop} (C : az_C Y V cX12_readSum 2 RX12 none 8) (G : Nat) (p0 : Int32) (M : az_M) (r : az_M) (h : f_X12_readSum G p0 M = some r) (hp : post none r) : AW Y V (az_end Y V post) 2 M 0 [(0, .ref (az_ad V 40)), (1, .int p0)] [] := by
  have o40 := C.hL.at 40 (ci := 12) rfl
  have a69 := C.hL.ar 69 (t := 0) (len := 96) rfl
  unfold f_X12_readSum at h
  refine az_aload_n C 0 dX12_readSum_0 rfl ?_
  refine az_getr (r := 69) C o40 fl_X12_140 rfl rfl dX12_readSum_1 ?_
  refine az_iload_n C 1 dX12_readSum_4 rfl ?_
  refine az_aload_n C 0 dX12_readSum_5 rfl ?_
  refine az_geti C o40 fl_X12_307 rfl dX12_readSum_6 ?_
  obtain ⟨g1, h⟩ := az_g h
  refine az_ist (k := p0.toNatClampNeg) C a69 g1 rfl dX12_readSum_9 ?_
  refine az_aload_n C 0 dX12_readSum_10 rfl ?_
  refine az_geti C o40 fl_X12_270 rfl dX12_readSum_11 ?_
  refine az_if_ne C 22 dX12_readSum_14 (by decide) (fun c2 => ?_) (fun c2 => ?_)
  · have h := az_f c2 h
    exact s_X12_readSum_22 C G p0 (az_i M 69 p0.toNatClampNeg (M.1 40 23)) r h hp
  · have h := az_t c2 h
    refine az_aload_n C 0 dX12_readSum_17 rfl ?_
    refine az_iconst (v := 0) C dX12_readSum_18 (by decide) ?_
    obtain ⟨q3, e4, h⟩ := az_b h
    refine az_callV C [.int 0] (c_X12_readExpression C.hL G 0 (az_i M 69 p0.toNatClampNeg (M.1 40 23)) e4) (by decide) li_X12_401 o40 (by decide) rfl rfl (Nat.le_of_ble_eq_true rfl) dX12_readSum_19 (fun v M1 hv => ?_)
    obtain ⟨rfl, rfl⟩ := hv
    refine az_eqst (st' := []) rfl ?_
    exact s_X12_readSum_22 C G p0 q3 r h hp
theorem c_X12_readSum {l : Launch} {V : az_V} (hL : az_L V) (G : Nat) (p0 : Int32) (M : az_M) {r : az_M} (h : f_X12_readSum G p0 M = some r) : az_Ct l V yX12_readSum cX12_readSum 2 none 8 [.ref (az_ad V 40), .int p0] M (fun v M' => v = none ∧ M' = r) :=
  az_Ct.of (by decide) (Nat.le_of_ble_eq_true rfl) (fun Y _ _ C => s_X12_readSum_e C G p0 M r h ⟨rfl, rfl⟩)
set_option maxHeartbeats 4000000 in
set_option maxRecDepth 100000 in
theorem s_X12_readOrder_257 {Y : az_Y} {V : az_V} {post : Option Value → az_M → Prop} (C : az_C Y V cX12_readOrder 3 RX12 none 9) (G : Nat) (x2 : Int32) (M : az_M) (r : az_M) (h : f_X12_readOrder_257 G x2 M = some r) (hp : post none r) : AW Y V (az_end Y V post) 3 M 257 [(0, .ref (az_ad V 40)), (2, .int x2)] [] := by
  have o40 := C.hL.at 40 (ci := 12) rfl
  have a69 := C.hL.ar 69 (t := 0) (len := 96) rfl
  unfold f_X12_readOrder_257 at h
  refine az_aload_n C 0 dX12_readOrder_257 rfl ?_
  refine az_getr (r := 69) C o40 fl_X12_140 rfl rfl dX12_readOrder_258 ?_
  refine az_iload_n C 1 dX12_readOrder_261 rfl ?_
  refine az_bipush (v := 6) C dX12_readOrder_262 (by decide) ?_
  refine az_iadd C dX12_readOrder_264 ?_
  refine az_aload_n C 0 dX12_readOrder_265 rfl ?_
  refine az_geti C o40 fl_X12_307 rfl dX12_readOrder_266 ?_
  obtain ⟨g48, h⟩ := az_g h
  refine az_ist (k := (x2 + 6).toNatClampNeg) C a69 g48 rfl dX12_readOrder_269 ?_
  obtain rfl := Option.some.inj h
  exact az_vret C rfl dX12_readOrder_270 hp
set_option maxHeartbeats 4000000 in
set_option maxRecDepth 100000 in
theorem s_X12_readOrder_219 {Y : az_Y} {V : az_V} {post : Option Value → az_M → Prop} (C : az_C Y V cX12_readOrder 3 RX12 none 9) (G : Nat) (x2 : Int32) (M : az_M) (r : az_M) (h : f_X12_readOrder_219 G x2 M = some r) (hp : post none r) : AW Y V (az_end Y V post) 3 M 219 [(0, .ref (az_ad V 40)), (2, .int x2)] [] := by
  have o40 := C.hL.at 40 (ci := 12) rfl
  have a69 := C.hL.ar 69 (t := 0) (len := 96) rfl
  unfold f_X12_readOrder_219 at h
  refine az_aload_n C 0 dX12_readOrder_219 rfl ?_
  refine az_getr (r := 69) C o40 fl_X12_140 rfl rfl dX12_readOrder_220 ?_
  refine az_iload_n C 1 dX12_readOrder_223 rfl ?_
  refine az_iconst (v := 5) C dX12_readOrder_224 (by decide) ?_
  refine az_iadd C dX12_readOrder_225 ?_
  refine az_aload_n C 0 dX12_readOrder_226 rfl ?_
  refine az_geti C o40 fl_X12_307 rfl dX12_readOrder_227 ?_
  obtain ⟨g39, h⟩ := az_g h
  refine az_ist (k := (x2 + 5).toNatClampNeg) C a69 g39 rfl dX12_readOrder_230 ?_
  refine az_aload_n C 0 dX12_readOrder_231 rfl ?_
  refine az_geti C o40 fl_X12_270 rfl dX12_readOrder_232 ?_
  refine az_if_ne C 257 dX12_readOrder_235 (by decide) (fun c40 => ?_) (fun c40 => ?_)
  · have h := az_f c40 h
    exact s_X12_readOrder_257 C G x2 (az_i M 69 ((x2 + 5).toNatClampNeg) (M.1 40 23)) r h hp
  · have h := az_t c40 h
    refine az_aload_n C 0 dX12_readOrder_238 rfl ?_
    refine az_ldc2 C ck_X12_404 dX12_readOrder_239 ?_
    obtain ⟨q41, e42, h⟩ := az_b h
    refine az_callV C [.long 294] (c_X12_isWord C.hL 294 (az_i M 69 ((x2 + 5).toNatClampNeg) (M.1 40 23)) e42) (by decide) li_X12_326 o40 (by decide) rfl rfl (Nat.le_of_ble_eq_true rfl) dX12_readOrder_242 (fun v M1 hv => ?_)
    obtain ⟨rfl, rfl⟩ := hv
    refine az_eqst (st' := [.int q41]) rfl ?_
    refine az_if_eq C 257 dX12_readOrder_245 (by decide) (fun c43 => ?_) (fun c43 => ?_)
    · have h := az_t c43 h
      exact s_X12_readOrder_257 C G x2 (az_i M 69 ((x2 + 5).toNatClampNeg) (M.1 40 23)) r h hp
    · have h := az_f c43 h
      refine az_aload_n C 0 dX12_readOrder_248 rfl ?_
      obtain ⟨q44, e45, h⟩ := az_b h
      refine az_callV C [] (c_X12_next C.hL G (az_i M 69 ((x2 + 5).toNatClampNeg) (M.1 40 23)) e45) (by decide) li_X12_274 o40 (by decide) rfl rfl (Nat.le_of_ble_eq_true rfl) dX12_readOrder_249 (fun v M1 hv => ?_)
      obtain ⟨rfl, rfl⟩ := hv
      refine az_eqst (st' := []) rfl ?_
      refine az_aload_n C 0 dX12_readOrder_252 rfl ?_
      refine az_iconst (v := 1) C dX12_readOrder_253 (by decide) ?_
      obtain ⟨q46, e47, h⟩ := az_b h
      refine az_callV C [.int 1] (c_X12_readExpression C.hL G 1 q44 e47) (by decide) li_X12_401 o40 (by decide) rfl rfl (Nat.le_of_ble_eq_true rfl) dX12_readOrder_254 (fun v M1 hv => ?_)
      obtain ⟨rfl, rfl⟩ := hv
      refine az_eqst (st' := []) rfl ?_
      exact s_X12_readOrder_257 C G x2 q46 r h hp
set_option maxHeartbeats 4000000 in
set_option maxRecDepth 100000 in
theorem s_X12_readOrder_171 {Y : az_Y} {V : az_V} {post : Option Value → az_M → Prop} (C : az_C Y V cX12_readOrder 3 RX12 none 9) (G : Nat) (x2 : Int32) (M : az_M) (r : az_M) (h : f_X12_readOrder_171 G x2 M = some r) (hp : post none r) : AW Y V (az_end Y V post) 3 M 171 [(0, .ref (az_ad V 40)), (2, .int x2)] [] := by
  have o40 := C.hL.at 40 (ci := 12) rfl
  have a69 := C.hL.ar 69 (t := 0) (len := 96) rfl
  unfold f_X12_readOrder_171 at h
  refine az_aload_n C 0 dX12_readOrder_171 rfl ?_
  refine az_getr (r := 69) C o40 fl_X12_140 rfl rfl dX12_readOrder_172 ?_
  refine az_iload_n C 1 dX12_readOrder_175 rfl ?_
  refine az_bipush (v := 7) C dX12_readOrder_176 (by decide) ?_
  refine az_iadd C dX12_readOrder_178 ?_
  refine az_iconst (v := 1) C dX12_readOrder_179 (by decide) ?_
  obtain ⟨g29, h⟩ := az_g h
  refine az_ist (k := (x2 + 7).toNatClampNeg) C a69 g29 rfl dX12_readOrder_180 ?_
  refine az_aload_n C 0 dX12_readOrder_181 rfl ?_
  refine az_geti C o40 fl_X12_270 rfl dX12_readOrder_182 ?_
  refine az_if_ne C 219 dX12_readOrder_185 (by decide) (fun c30 => ?_) (fun c30 => ?_)
  · have h := az_f c30 h
    exact s_X12_readOrder_219 C G x2 (az_i M 69 ((x2 + 7).toNatClampNeg) 1) r h hp
  · have h := az_t c30 h
    refine az_aload_n C 0 dX12_readOrder_188 rfl ?_
    refine az_ldc2 C ck_X12_543 dX12_readOrder_189 ?_
    obtain ⟨q31, e32, h⟩ := az_b h
    refine az_callV C [.long 21279923] (c_X12_isWord C.hL 21279923 (az_i M 69 ((x2 + 7).toNatClampNeg) 1) e32) (by decide) li_X12_326 o40 (by decide) rfl rfl (Nat.le_of_ble_eq_true rfl) dX12_readOrder_192 (fun v M1 hv => ?_)
    obtain ⟨rfl, rfl⟩ := hv
    refine az_eqst (st' := [.int q31]) rfl ?_
    refine az_if_eq C 219 dX12_readOrder_195 (by decide) (fun c33 => ?_) (fun c33 => ?_)
    · have h := az_t c33 h
      exact s_X12_readOrder_219 C G x2 (az_i M 69 ((x2 + 7).toNatClampNeg) 1) r h hp
    · have h := az_f c33 h
      refine az_aload_n C 0 dX12_readOrder_198 rfl ?_
      obtain ⟨q34, e35, h⟩ := az_b h
      refine az_callV C [] (c_X12_next C.hL G (az_i M 69 ((x2 + 7).toNatClampNeg) 1) e35) (by decide) li_X12_274 o40 (by decide) rfl rfl (Nat.le_of_ble_eq_true rfl) dX12_readOrder_199 (fun v M1 hv => ?_)
      obtain ⟨rfl, rfl⟩ := hv
      refine az_eqst (st' := []) rfl ?_
      refine az_aload_n C 0 dX12_readOrder_202 rfl ?_
      refine az_getr (r := 69) C o40 fl_X12_140 rfl rfl dX12_readOrder_203 ?_
      refine az_iload_n C 1 dX12_readOrder_206 rfl ?_
      refine az_bipush (v := 7) C dX12_readOrder_207 (by decide) ?_
      refine az_iadd C dX12_readOrder_209 ?_
      refine az_aload_n C 0 dX12_readOrder_210 rfl ?_
      refine az_lconst (v := 1) C dX12_readOrder_211 (by decide) ?_
      refine az_ldc2 C ck_X12_200 dX12_readOrder_212 ?_
      obtain ⟨q36, e37, h⟩ := az_b h
      refine az_callV C [.long 1, .long 20] (c_X12_number C.hL G 1 20 q34 e37) (by decide) li_X12_363 o40 (by decide) rfl rfl (Nat.le_of_ble_eq_true rfl) dX12_readOrder_215 (fun v M1 hv => ?_)
      obtain ⟨rfl, rfl⟩ := hv
      refine az_eqst (st' := [.int q36.1, .int (x2 + 7), .ref (az_ad V 69)]) rfl ?_
      obtain ⟨g38, h⟩ := az_g h
      refine az_ist (k := (x2 + 7).toNatClampNeg) C a69 g38 rfl dX12_readOrder_218 ?_
      exact s_X12_readOrder_219 C G x2 (az_i q36.2 69 ((x2 + 7).toNatClampNeg) q36.1) r h hp
set_option maxHeartbeats 4000000 in
set_option maxRecDepth 100000 in
theorem s_X12_readOrder_164 {Y : az_Y} {V : az_V} {post : Option Value → az_M → Prop} (C : az_C Y V cX12_readOrder 3 RX12 none 9) (G : Nat) (x2 : Int32) (M : az_M) (r : az_M) (h : f_X12_readOrder_164 G x2 M = some r) (hp : post none r) : AW Y V (az_end Y V post) 3 M 164 [(0, .ref (az_ad V 40)), (2, .int x2)] [] := by
  have o40 := C.hL.at 40 (ci := 12) rfl
  unfold f_X12_readOrder_164 at h
  refine az_aload_n C 0 dX12_readOrder_164 rfl ?_
  refine az_iload_n C 1 dX12_readOrder_165 rfl ?_
  refine az_iconst (v := 3) C dX12_readOrder_166 (by decide) ?_
  refine az_iadd C dX12_readOrder_167 ?_
  obtain ⟨q27, e28, h⟩ := az_b h
  refine az_callV C [.int (x2 + 3)] (c_X12_readSum C.hL G (x2 + 3) M e28) (by decide) li_X12_536 o40 (by decide) rfl rfl (Nat.le_of_ble_eq_true rfl) dX12_readOrder_168 (fun v M1 hv => ?_)
  obtain ⟨rfl, rfl⟩ := hv
  refine az_eqst (st' := []) rfl ?_
  exact s_X12_readOrder_171 C G x2 q27 r h hp
set_option maxHeartbeats 4000000 in
set_option maxRecDepth 100000 in
theorem s_X12_readOrder_158 {Y : az_Y} {V : az_V} {post : Option Value → az_M → Prop} (C : az_C Y V cX12_readOrder 3 RX12 none 9) (G : Nat) (x2 : Int32) (s0 : Int64) (M : az_M) (r : az_M) (h : f_X12_readOrder_158 G x2 s0 M = some r) (hp : post none r) : AW Y V (az_end Y V post) 3 M 158 [(0, .ref (az_ad V 40)), (2, .int x2)] [.long s0, .ref (az_ad V 40), .ref (az_ad V 40)] := by
  have o40 := C.hL.at 40 (ci := 12) rfl
  unfold f_X12_readOrder_158 at h
  obtain ⟨q23, e24, h⟩ := az_b h
  refine az_callV C [.long s0] (c_X12_isWord C.hL s0 M e24) (by decide) li_X12_326 o40 (by decide) rfl rfl (Nat.le_of_ble_eq_true rfl) dX12_readOrder_158 (fun v M1 hv => ?_)
  obtain ⟨rfl, rfl⟩ := hv
  refine az_eqst (st' := [.int q23, .ref (az_ad V 40)]) rfl ?_
  obtain ⟨q25, e26, h⟩ := az_b h
  refine az_callV C [.int q23] (c_X12_must C.hL G q23 M e26) (by decide) li_X12_303 o40 (by decide) rfl rfl (Nat.le_of_ble_eq_true rfl) dX12_readOrder_161 (fun v M1 hv => ?_)
  obtain ⟨rfl, rfl⟩ := hv
  refine az_eqst (st' := []) rfl ?_
  exact s_X12_readOrder_164 C G x2 q25 r h hp
set_option maxHeartbeats 4000000 in
set_option maxRecDepth 100000 in
theorem s_X12_readOrder_64 {Y : az_Y} {V : az_V} {post : Option Value → az_M → Prop} (C : az_C Y V cX12_readOrder 3 RX12 none 9) (G : Nat) (x1 : Int32) (s0 : Int32) (M : az_M) (r : az_M) (h : f_X12_readOrder_64 G x1 s0 M = some r) (hp : post none r) : AW Y V (az_end Y V post) 3 M 64 [(0, .ref (az_ad V 40)), (1, .int x1)] [.int s0, .ref (az_ad V 40)] := by
  have o40 := C.hL.at 40 (ci := 12) rfl
  have a69 := C.hL.ar 69 (t := 0) (len := 96) rfl
  unfold f_X12_readOrder_64 at h
  obtain ⟨q12, e13, h⟩ := az_b h
  refine az_callV C [.int s0] (c_X12_must C.hL G s0 M e13) (by decide) li_X12_303 o40 (by decide) rfl rfl (Nat.le_of_ble_eq_true rfl) dX12_readOrder_64 (fun v M1 hv => ?_)
  obtain ⟨rfl, rfl⟩ := hv
  refine az_eqst (st' := []) rfl ?_
  refine az_aload_n C 0 dX12_readOrder_67 rfl ?_
  refine az_geti C o40 fl_X12_270 rfl dX12_readOrder_68 ?_
  refine az_if_eq C 75 dX12_readOrder_71 (by decide) (fun c14 => ?_) (fun c14 => ?_)
  · have h := az_t c14 h
    refine az_bipush (v := 8) C dX12_readOrder_75 (by decide) ?_
    refine az_aload_n C 0 dX12_readOrder_77 rfl ?_
    refine az_geti C o40 fl_X12_398 rfl dX12_readOrder_78 ?_
    refine az_imul C dX12_readOrder_81 ?_
    refine az_istore_n C dX12_readOrder_82 rfl (by decide) rfl ?_
    refine az_aload_n C 1 dX12_readOrder_83 rfl ?_
    refine az_dup C dX12_readOrder_84 rfl ?_
    refine az_geti C o40 fl_X12_398 rfl dX12_readOrder_85 ?_
    refine az_iconst (v := 1) C dX12_readOrder_88 (by decide) ?_
    refine az_iadd C dX12_readOrder_89 ?_
    refine az_puti C o40 fl_X12_398 rfl rfl rfl rfl dX12_readOrder_90 ?_
    refine az_aload_n C 1 dX12_readOrder_93 rfl ?_
    refine az_getr (r := 69) C o40 fl_X12_140 rfl rfl dX12_readOrder_94 ?_
    refine az_iload_n C 0 dX12_readOrder_97 rfl ?_
    refine az_iload_n C 2 dX12_readOrder_98 rfl ?_
    obtain ⟨g15, h⟩ := az_g h
    refine az_ist (k := (8 * (q12.1 40 21)).toNatClampNeg) C a69 g15 rfl dX12_readOrder_99 ?_
    refine az_aload_n C 1 dX12_readOrder_100 rfl ?_
    refine az_iload_n C 0 dX12_readOrder_101 rfl ?_
    refine az_iconst (v := 1) C dX12_readOrder_102 (by decide) ?_
    refine az_iadd C dX12_readOrder_103 ?_
    obtain ⟨q16, e17, h⟩ := az_b h
    refine az_callV C [.int ((8 * (q12.1 40 21)) + 1)] (c_X12_readSum C.hL G ((8 * (q12.1 40 21)) + 1) (az_i (az_i q12 40 21 ((q12.1 40 21) + 1)) 69 ((8 * (q12.1 40 21)).toNatClampNeg) x1) e17) (by decide) li_X12_536 o40 (by decide) rfl rfl (Nat.le_of_ble_eq_true rfl) dX12_readOrder_104 (fun v M1 hv => ?_)
    obtain ⟨rfl, rfl⟩ := hv
    refine az_eqst (st' := []) rfl ?_
    refine az_aload_n C 1 dX12_readOrder_107 rfl ?_
    refine az_getr (r := 69) C o40 fl_X12_140 rfl rfl dX12_readOrder_108 ?_
    refine az_iload_n C 0 dX12_readOrder_111 rfl ?_
    refine az_iconst (v := 3) C dX12_readOrder_112 (by decide) ?_
    refine az_iadd C dX12_readOrder_113 ?_
    refine az_aload_n C 1 dX12_readOrder_114 rfl ?_
    refine az_geti C o40 fl_X12_307 rfl dX12_readOrder_115 ?_
    obtain ⟨g18, h⟩ := az_g h
    refine az_ist (k := ((8 * (q12.1 40 21)) + 3).toNatClampNeg) C a69 g18 rfl dX12_readOrder_118 ?_
    refine az_aload_n C 1 dX12_readOrder_119 rfl ?_
    refine az_getr (r := 69) C o40 fl_X12_140 rfl rfl dX12_readOrder_120 ?_
    refine az_iload_n C 0 dX12_readOrder_123 rfl ?_
    refine az_iconst (v := 4) C dX12_readOrder_124 (by decide) ?_
    refine az_iadd C dX12_readOrder_125 ?_
    refine az_aload_n C 1 dX12_readOrder_126 rfl ?_
    refine az_geti C o40 fl_X12_307 rfl dX12_readOrder_127 ?_
    obtain ⟨g19, h⟩ := az_g h
    refine az_ist (k := ((8 * (q12.1 40 21)) + 4).toNatClampNeg) C a69 g19 rfl dX12_readOrder_130 ?_
    refine az_iload_n C 2 dX12_readOrder_131 rfl ?_
    refine az_iconst (v := 2) C dX12_readOrder_132 (by decide) ?_
    refine az_icmp_eq C 171 dX12_readOrder_133 (by decide) (fun c20 => ?_) (fun c20 => ?_)
    · have h := az_t c20 h
      refine az_sub [1, 0] rfl ?_
      exact s_X12_readOrder_171 C G (8 * (q12.1 40 21)) (az_i (az_i q16 69 (((8 * (q12.1 40 21)) + 3).toNatClampNeg) (q16.1 40 23)) 69 (((8 * (q12.1 40 21)) + 4).toNatClampNeg) ((az_i q16 69 (((8 * (q12.1 40 21)) + 3).toNatClampNeg) (q16.1 40 23)).1 40 23)) r h hp
    · have h := az_f c20 h
      refine az_aload_n C 1 dX12_readOrder_136 rfl ?_
      refine az_geti C o40 fl_X12_270 rfl dX12_readOrder_137 ?_
      refine az_if_ne C 164 dX12_readOrder_140 (by decide) (fun c21 => ?_) (fun c21 => ?_)
      · have h := az_f c21 h
        refine az_sub [1, 0] rfl ?_
        exact s_X12_readOrder_164 C G (8 * (q12.1 40 21)) (az_i (az_i q16 69 (((8 * (q12.1 40 21)) + 3).toNatClampNeg) (q16.1 40 23)) 69 (((8 * (q12.1 40 21)) + 4).toNatClampNeg) ((az_i q16 69 (((8 * (q12.1 40 21)) + 3).toNatClampNeg) (q16.1 40 23)).1 40 23)) r h hp
      · have h := az_t c21 h
        refine az_aload_n C 1 dX12_readOrder_143 rfl ?_
        refine az_aload_n C 1 dX12_readOrder_144 rfl ?_
        refine az_iload_n C 2 dX12_readOrder_145 rfl ?_
        refine az_if_ne C 155 dX12_readOrder_146 (by decide) (fun c22 => ?_) (fun c22 => ?_)
        · have h := az_f c22 h
          refine az_ldc2 C ck_X12_541 dX12_readOrder_155 ?_
          refine az_sub [1, 0] rfl ?_
          exact s_X12_readOrder_158 C G (8 * (q12.1 40 21)) 89 (az_i (az_i q16 69 (((8 * (q12.1 40 21)) + 3).toNatClampNeg) (q16.1 40 23)) 69 (((8 * (q12.1 40 21)) + 4).toNatClampNeg) ((az_i q16 69 (((8 * (q12.1 40 21)) + 3).toNatClampNeg) (q16.1 40 23)).1 40 23)) r h hp
        · have h := az_t c22 h
          refine az_ldc2 C ck_X12_539 dX12_readOrder_149 ?_
          refine az_goto C 158 dX12_readOrder_152 (by decide) ?_
          refine az_sub [1, 0] rfl ?_
          exact s_X12_readOrder_158 C G (8 * (q12.1 40 21)) 52 (az_i (az_i q16 69 (((8 * (q12.1 40 21)) + 3).toNatClampNeg) (q16.1 40 23)) 69 (((8 * (q12.1 40 21)) + 4).toNatClampNeg) ((az_i q16 69 (((8 * (q12.1 40 21)) + 3).toNatClampNeg) (q16.1 40 23)).1 40 23)) r h hp
  · have h := az_f c14 h
    obtain rfl := Option.some.inj h
    exact az_vret C rfl dX12_readOrder_74 hp
set_option maxHeartbeats 4000000 in
set_option maxRecDepth 100000 in
theorem s_X12_readOrder_63 {Y : az_Y} {V : az_V} {post : Option Value → az_M → Prop} (C : az_C Y V cX12_readOrder 3 RX12 none 9) (G : Nat) (x1 : Int32) (M : az_M) (r : az_M) (h : f_X12_readOrder_63 G x1 M = some r) (hp : post none r) : AW Y V (az_end Y V post) 3 M 63 [(0, .ref (az_ad V 40)), (1, .int x1)] [.ref (az_ad V 40)] := by
  unfold f_X12_readOrder_63 at h
  refine az_iconst (v := 0) C dX12_readOrder_63 (by decide) ?_
  exact s_X12_readOrder_64 C G x1 0 M r h hp
set_option maxHeartbeats 4000000 in
set_option maxRecDepth 100000 in
theorem s_X12_readOrder_43 {Y : az_Y} {V : az_V} {post : Option Value → az_M → Prop} (C : az_C Y V cX12_readOrder 3 RX12 none 9) (G : Nat) (s0 : Int32) (M : az_M) (r : az_M) (h : f_X12_readOrder_43 G s0 M = some r) (hp : post none r) : AW Y V (az_end Y V post) 3 M 43 [(0, .ref (az_ad V 40))] [.int s0] := by
  have o40 := C.hL.at 40 (ci := 12) rfl
  unfold f_X12_readOrder_43 at h
  refine az_istore_n C dX12_readOrder_43 rfl (by decide) rfl ?_
  refine az_aload_n C 1 dX12_readOrder_44 rfl ?_
  refine az_iload_n C 0 dX12_readOrder_45 rfl ?_
  refine az_iconst (v := (-1)) C dX12_readOrder_46 (by decide) ?_
  refine az_icmp_eq C 63 dX12_readOrder_47 (by decide) (fun c10 => ?_) (fun c10 => ?_)
  · have h := az_t c10 h
    refine az_sub [1, 0] rfl ?_
    exact s_X12_readOrder_63 C G s0 M r h hp
  · have h := az_f c10 h
    refine az_aload_n C 1 dX12_readOrder_50 rfl ?_
    refine az_geti C o40 fl_X12_398 rfl dX12_readOrder_51 ?_
    refine az_bipush (v := 12) C dX12_readOrder_54 (by decide) ?_
    refine az_icmp_ge C 63 dX12_readOrder_56 (by decide) (fun c11 => ?_) (fun c11 => ?_)
    · have h := az_t c11 h
      refine az_sub [1, 0] rfl ?_
      exact s_X12_readOrder_63 C G s0 M r h hp
    · have h := az_f c11 h
      refine az_iconst (v := 1) C dX12_readOrder_59 (by decide) ?_
      refine az_goto C 64 dX12_readOrder_60 (by decide) ?_
      refine az_sub [1, 0] rfl ?_
      exact s_X12_readOrder_64 C G s0 1 M r h hp
set_option maxHeartbeats 4000000 in
set_option maxRecDepth 100000 in
theorem s_X12_readOrder_e {Y : az_Y} {V : az_V} {post : Option Value → az_M → Prop} (C : az_C Y V cX12_readOrder 3 RX12 none 9) (G : Nat)  (M : az_M) (r : az_M) (h : f_X12_readOrder G M = some r) (hp : post none r) : AW Y V (az_end Y V post) 3 M 0 [(0, .ref (az_ad V 40))] [] := by
  have o40 := C.hL.at 40 (ci := 12) rfl
  unfold f_X12_readOrder at h
  refine az_aload_n C 0 dX12_readOrder_0 rfl ?_
  refine az_ldc2 C ck_X12_530 dX12_readOrder_1 ?_
  obtain ⟨q1, e2, h⟩ := az_b h
  refine az_callV C [.long 206405] (c_X12_isWord C.hL 206405 M e2) (by decide) li_X12_326 o40 (by decide) rfl rfl (Nat.le_of_ble_eq_true rfl) dX12_readOrder_4 (fun v M1 hv => ?_)
  obtain ⟨rfl, rfl⟩ := hv
  refine az_eqst (st' := [.int q1]) rfl ?_
  refine az_if_eq C 14 dX12_readOrder_7 (by decide) (fun c3 => ?_) (fun c3 => ?_)
  · have h := az_t c3 h
    refine az_aload_n C 0 dX12_readOrder_14 rfl ?_
    refine az_ldc2 C ck_X12_532 dX12_readOrder_15 ?_
    obtain ⟨q4, e5, h⟩ := az_b h
    refine az_callV C [.long 152748] (c_X12_isWord C.hL 152748 M e5) (by decide) li_X12_326 o40 (by decide) rfl rfl (Nat.le_of_ble_eq_true rfl) dX12_readOrder_18 (fun v M1 hv => ?_)
    obtain ⟨rfl, rfl⟩ := hv
    refine az_eqst (st' := [.int q4]) rfl ?_
    refine az_if_eq C 28 dX12_readOrder_21 (by decide) (fun c6 => ?_) (fun c6 => ?_)
    · have h := az_t c6 h
      refine az_aload_n C 0 dX12_readOrder_28 rfl ?_
      refine az_ldc2 C ck_X12_534 dX12_readOrder_29 ?_
      obtain ⟨q7, e8, h⟩ := az_b h
      refine az_callV C [.long 595572] (c_X12_isWord C.hL 595572 M e8) (by decide) li_X12_326 o40 (by decide) rfl rfl (Nat.le_of_ble_eq_true rfl) dX12_readOrder_32 (fun v M1 hv => ?_)
      obtain ⟨rfl, rfl⟩ := hv
      refine az_eqst (st' := [.int q7]) rfl ?_
      refine az_if_eq C 42 dX12_readOrder_35 (by decide) (fun c9 => ?_) (fun c9 => ?_)
      · have h := az_t c9 h
        refine az_iconst (v := (-1)) C dX12_readOrder_42 (by decide) ?_
        exact s_X12_readOrder_43 C G (-1) M r h hp
      · have h := az_f c9 h
        refine az_iconst (v := 2) C dX12_readOrder_38 (by decide) ?_
        refine az_goto C 43 dX12_readOrder_39 (by decide) ?_
        exact s_X12_readOrder_43 C G 2 M r h hp
    · have h := az_f c6 h
      refine az_iconst (v := 1) C dX12_readOrder_24 (by decide) ?_
      refine az_goto C 43 dX12_readOrder_25 (by decide) ?_
      exact s_X12_readOrder_43 C G 1 M r h hp
  · have h := az_f c3 h
    refine az_iconst (v := 0) C dX12_readOrder_10 (by decide) ?_
    refine az_goto C 43 dX12_readOrder_11 (by decide) ?_
    exact s_X12_readOrder_43 C G 0 M r h hp
theorem c_X12_readOrder {l : Launch} {V : az_V} (hL : az_L V) (G : Nat)  (M : az_M) {r : az_M} (h : f_X12_readOrder G M = some r) : az_Ct l V yX12_readOrder cX12_readOrder 3 none 9 [.ref (az_ad V 40)] M (fun v M' => v = none ∧ M' = r) :=
  az_Ct.of (by decide) (Nat.le_of_ble_eq_true rfl) (fun Y _ _ C => s_X12_readOrder_e C G M r h ⟨rfl, rfl⟩)
set_option maxHeartbeats 4000000 in
set_option maxRecDepth 100000 in
theorem s_X12_sumOf_24 {Y : az_Y} {V : az_V} {post : Option Value → az_M → Prop} (C : az_C Y V cX12_sumOf 2 RX12 (some .long) 4) (G : Nat)  (M : az_M) (r : (Int64 × az_M)) (h : f_X12_sumOf_24 G M = some r) (hp : post (some (.long r.1)) r.2) : AW Y V (az_end Y V post) 2 M 24 [] [] := by
  unfold f_X12_sumOf_24 at h
  refine az_lconst (v := 0) C dX12_sumOf_24 (by decide) ?_
  obtain rfl := Option.some.inj h
  exact az_lret C dX12_sumOf_25 hp
set_option maxHeartbeats 4000000 in
set_option maxRecDepth 100000 in
theorem s_X12_sumOf_e {Y : az_Y} {V : az_V} {post : Option Value → az_M → Prop} (C : az_C Y V cX12_sumOf 2 RX12 (some .long) 4) (G : Nat) (p0 : Int32) (M : az_M) (r : (Int64 × az_M)) (h : f_X12_sumOf G p0 M = some r) (hp : post (some (.long r.1)) r.2) : AW Y V (az_end Y V post) 2 M 0 [(0, .ref (az_ad V 40)), (1, .int p0)] [] := by
  have o40 := C.hL.at 40 (ci := 12) rfl
  have a69 := C.hL.ar 69 (t := 0) (len := 96) rfl
  unfold f_X12_sumOf at h
  refine az_aload_n C 0 dX12_sumOf_0 rfl ?_
  refine az_geti C o40 fl_X12_545 rfl dX12_sumOf_1 ?_
  refine az_if_ne C 24 dX12_sumOf_4 (by decide) (fun c1 => ?_) (fun c1 => ?_)
  · have h := az_f c1 h
    refine az_sub [] rfl ?_
    exact s_X12_sumOf_24 C G M r h hp
  · have h := az_t c1 h
    refine az_aload_n C 0 dX12_sumOf_7 rfl ?_
    refine az_getr (r := 69) C o40 fl_X12_140 rfl rfl dX12_sumOf_8 ?_
    refine az_iload_n C 1 dX12_sumOf_11 rfl ?_
    obtain ⟨g2, h⟩ := az_g h
    refine az_ild (k := p0.toNatClampNeg) C a69 g2 rfl dX12_sumOf_12 ?_
    refine az_aload_n C 0 dX12_sumOf_13 rfl ?_
    refine az_getr (r := 69) C o40 fl_X12_140 rfl rfl dX12_sumOf_14 ?_
    refine az_iload_n C 1 dX12_sumOf_17 rfl ?_
    refine az_iconst (v := 1) C dX12_sumOf_18 (by decide) ?_
    refine az_iadd C dX12_sumOf_19 ?_
    obtain ⟨g3, h⟩ := az_g h
    refine az_ild (k := (p0 + 1).toNatClampNeg) C a69 g3 rfl dX12_sumOf_20 ?_
    refine az_icmp_ne C 26 dX12_sumOf_21 (by decide) (fun c4 => ?_) (fun c4 => ?_)
    · have h := az_f c4 h
      refine az_aload_n C 0 dX12_sumOf_26 rfl ?_
      refine az_iconst (v := 1) C dX12_sumOf_27 (by decide) ?_
      refine az_puti C o40 fl_X12_345 rfl rfl rfl rfl dX12_sumOf_28 ?_
      refine az_aload_n C 0 dX12_sumOf_31 rfl ?_
      refine az_aload_n C 0 dX12_sumOf_32 rfl ?_
      refine az_getr (r := 69) C o40 fl_X12_140 rfl rfl dX12_sumOf_33 ?_
      refine az_iload_n C 1 dX12_sumOf_36 rfl ?_
      obtain ⟨g5, h⟩ := az_g h
      refine az_ild (k := p0.toNatClampNeg) C a69 g5 rfl dX12_sumOf_37 ?_
      refine az_aload_n C 0 dX12_sumOf_38 rfl ?_
      refine az_getr (r := 69) C o40 fl_X12_140 rfl rfl dX12_sumOf_39 ?_
      refine az_iload_n C 1 dX12_sumOf_42 rfl ?_
      refine az_iconst (v := 1) C dX12_sumOf_43 (by decide) ?_
      refine az_iadd C dX12_sumOf_44 ?_
      obtain ⟨g6, h⟩ := az_g h
      refine az_ild (k := (p0 + 1).toNatClampNeg) C a69 g6 rfl dX12_sumOf_45 ?_
      obtain ⟨q7, e8, h⟩ := az_b h
      refine az_callV C [.int ((az_i M 40 20 1).1 69 p0.toNatClampNeg), .int ((az_i M 40 20 1).1 69 ((p0 + 1).toNatClampNeg))] (c_X12_reckonAll C.hL G ((az_i M 40 20 1).1 69 p0.toNatClampNeg) ((az_i M 40 20 1).1 69 ((p0 + 1).toNatClampNeg)) (az_i M 40 20 1) e8) (by decide) li_X12_432 o40 (by decide) rfl rfl (Nat.le_of_ble_eq_true rfl) dX12_sumOf_46 (fun v M1 hv => ?_)
      obtain ⟨rfl, rfl⟩ := hv
      refine az_eqst (st' := []) rfl ?_
      refine az_aload_n C 0 dX12_sumOf_49 rfl ?_
      refine az_iconst (v := 0) C dX12_sumOf_50 (by decide) ?_
      refine az_puti C o40 fl_X12_345 rfl rfl rfl rfl dX12_sumOf_51 ?_
      refine az_aload_n C 0 dX12_sumOf_54 rfl ?_
      refine az_aload_n C 0 dX12_sumOf_55 rfl ?_
      refine az_geti C o40 fl_X12_415 rfl dX12_sumOf_56 ?_
      obtain ⟨g9, h⟩ := az_g2 h
      refine az_puti C o40 fl_X12_545 rfl rfl (az_nz g9) (az_fz g9) dX12_sumOf_59 ?_
      refine az_aload_n C 0 dX12_sumOf_62 rfl ?_
      refine az_getl C o40 fl_X12_429 rfl dX12_sumOf_63 ?_
      obtain rfl := Option.some.inj h
      exact az_lret C dX12_sumOf_66 hp
    · have h := az_t c4 h
      refine az_sub [] rfl ?_
      exact s_X12_sumOf_24 C G M r h hp
theorem c_X12_sumOf {l : Launch} {V : az_V} (hL : az_L V) (G : Nat) (p0 : Int32) (M : az_M) {r : (Int64 × az_M)} (h : f_X12_sumOf G p0 M = some r) : az_Ct l V yX12_sumOf cX12_sumOf 2 (some .long) 4 [.ref (az_ad V 40), .int p0] M (fun v M' => v = some (.long r.1) ∧ M' = r.2) :=
  az_Ct.of (by decide) (Nat.le_of_ble_eq_true rfl) (fun Y _ _ C => s_X12_sumOf_e C G p0 M r h ⟨rfl, rfl⟩)
set_option maxHeartbeats 4000000 in
set_option maxRecDepth 100000 in
theorem s_X12_run_117 {Y : az_Y} {V : az_V} {post : Option Value → az_M → Prop} (C : az_C Y V cX12_run 5 RX12 (some .int) 10) (G : Nat)  (M : az_M) (r : (Int32 × az_M)) (h : f_X12_run_117 G M = some r) (hp : post (some (.int r.1)) r.2) : AW Y V (az_end Y V post) 5 M 117 [] [] := by
  unfold f_X12_run_117 at h
  refine az_iconst (v := 0) C dX12_run_117 (by decide) ?_
  obtain rfl := Option.some.inj h
  exact az_iret C dX12_run_118 hp
set_option maxHeartbeats 4000000 in
set_option maxRecDepth 100000 in
theorem s_X12_run_219 {Y : az_Y} {V : az_V} {post : Option Value → az_M → Prop} (C : az_C Y V cX12_run 5 RX12 (some .int) 10) (G : Nat) (s0 : Int32) (M : az_M) (r : (Int32 × az_M)) (h : f_X12_run_219 G s0 M = some r) (hp : post (some (.int r.1)) r.2) : AW Y V (az_end Y V post) 5 M 219 [(0, .ref (az_ad V 40))] [.int s0, .ref (az_ad V 40)] := by
  have o40 := C.hL.at 40 (ci := 12) rfl
  unfold f_X12_run_219 at h
  refine az_puti C o40 fl_X12_551 rfl rfl rfl rfl dX12_run_219 ?_
  refine az_aload_n C 0 dX12_run_222 rfl ?_
  refine az_dup C dX12_run_223 rfl ?_
  refine az_geti C o40 fl_X12_548 rfl dX12_run_224 ?_
  refine az_iconst (v := 1) C dX12_run_227 (by decide) ?_
  refine az_iadd C dX12_run_228 ?_
  refine az_puti C o40 fl_X12_548 rfl rfl rfl rfl dX12_run_229 ?_
  refine az_iconst (v := 0) C dX12_run_232 (by decide) ?_
  obtain rfl := Option.some.inj h
  exact az_iret C dX12_run_233 hp
set_option maxHeartbeats 4000000 in
set_option maxRecDepth 100000 in
theorem s_X12_run_189 {Y : az_Y} {V : az_V} {post : Option Value → az_M → Prop} (C : az_C Y V cX12_run 5 RX12 (some .int) 10) (G : Nat) (x1 : Int32) (s0 : Int32) (M : az_M) (r : (Int32 × az_M)) (h : f_X12_run_189 G x1 s0 M = some r) (hp : post (some (.int r.1)) r.2) : AW Y V (az_end Y V post) 5 M 189 [(0, .ref (az_ad V 40)), (1, .int x1)] [.int s0] := by
  have o40 := C.hL.at 40 (ci := 12) rfl
  have a69 := C.hL.ar 69 (t := 0) (len := 96) rfl
  unfold f_X12_run_189 at h
  refine az_istore C dX12_run_189 (by decide) rfl ?_
  refine az_iload C 0 dX12_run_191 rfl ?_
  refine az_if_ge C 199 dX12_run_193 (by decide) (fun c31 => ?_) (fun c31 => ?_)
  · have h := az_t c31 h
    refine az_aload_n C 1 dX12_run_199 rfl ?_
    refine az_aload_n C 1 dX12_run_200 rfl ?_
    refine az_getr (r := 69) C o40 fl_X12_140 rfl rfl dX12_run_201 ?_
    refine az_iload_n C 2 dX12_run_204 rfl ?_
    obtain ⟨g32, h⟩ := az_g h
    refine az_ild (k := x1.toNatClampNeg) C a69 g32 rfl dX12_run_205 ?_
    refine az_iconst (v := 1) C dX12_run_206 (by decide) ?_
    refine az_icmp_ne C 215 dX12_run_207 (by decide) (fun c33 => ?_) (fun c33 => ?_)
    · have h := az_f c33 h
      refine az_aload_n C 1 dX12_run_215 rfl ?_
      refine az_geti C o40 fl_X12_551 rfl dX12_run_216 ?_
      refine az_sub [1] rfl ?_
      exact s_X12_run_219 C G (M.1 40 54) M r h hp
    · have h := az_t c33 h
      refine az_iload C 0 dX12_run_210 rfl ?_
      refine az_goto C 219 dX12_run_212 (by decide) ?_
      refine az_sub [1] rfl ?_
      exact s_X12_run_219 C G s0 M r h hp
  · have h := az_f c31 h
    refine az_bipush (v := (-3)) C dX12_run_196 (by decide) ?_
    obtain rfl := Option.some.inj h
    exact az_iret C dX12_run_198 hp
set_option maxHeartbeats 4000000 in
set_option maxRecDepth 100000 in
theorem s_X12_run_119 {Y : az_Y} {V : az_V} {post : Option Value → az_M → Prop} (C : az_C Y V cX12_run 5 RX12 (some .int) 10) (G : Nat) (x1 : Int32) (M : az_M) (r : (Int32 × az_M)) (h : f_X12_run_119 G x1 M = some r) (hp : post (some (.int r.1)) r.2) : AW Y V (az_end Y V post) 5 M 119 [(0, .ref (az_ad V 40)), (1, .int x1)] [] := by
  have o40 := C.hL.at 40 (ci := 12) rfl
  have a69 := C.hL.ar 69 (t := 0) (len := 96) rfl
  unfold f_X12_run_119 at h
  refine az_aload_n C 0 dX12_run_119 rfl ?_
  refine az_iload_n C 1 dX12_run_120 rfl ?_
  refine az_iconst (v := 1) C dX12_run_121 (by decide) ?_
  refine az_iadd C dX12_run_122 ?_
  obtain ⟨q16, e17, h⟩ := az_b h
  refine az_callV C [.int (x1 + 1)] (c_X12_sumOf C.hL G (x1 + 1) M e17) (by decide) li_X12_554 o40 (by decide) rfl rfl (Nat.le_of_ble_eq_true rfl) dX12_run_123 (fun v M1 hv => ?_)
  obtain ⟨rfl, rfl⟩ := hv
  refine az_eqst (st' := [.long q16.1]) rfl ?_
  refine az_l2i C dX12_run_126 ?_
  refine az_istore_n C dX12_run_127 rfl (by decide) rfl ?_
  refine az_aload_n C 1 dX12_run_128 rfl ?_
  refine az_iload_n C 2 dX12_run_129 rfl ?_
  refine az_iconst (v := 3) C dX12_run_130 (by decide) ?_
  refine az_iadd C dX12_run_131 ?_
  obtain ⟨q18, e19, h⟩ := az_b h
  refine az_callV C [.int (x1 + 3)] (c_X12_sumOf C.hL G (x1 + 3) q16.2 e19) (by decide) li_X12_554 o40 (by decide) rfl rfl (Nat.le_of_ble_eq_true rfl) dX12_run_132 (fun v M1 hv => ?_)
  obtain ⟨rfl, rfl⟩ := hv
  refine az_eqst (st' := [.long q18.1]) rfl ?_
  refine az_l2i C dX12_run_135 ?_
  refine az_istore_n C dX12_run_136 rfl (by decide) rfl ?_
  refine az_aload_n C 2 dX12_run_137 rfl ?_
  refine az_geti C o40 fl_X12_545 rfl dX12_run_138 ?_
  refine az_if_eq C 147 dX12_run_141 (by decide) (fun c20 => ?_) (fun c20 => ?_)
  · have h := az_t c20 h
    refine az_aload_n C 2 dX12_run_147 rfl ?_
    refine az_getr (r := 69) C o40 fl_X12_140 rfl rfl dX12_run_148 ?_
    refine az_iload_n C 3 dX12_run_151 rfl ?_
    obtain ⟨g21, h⟩ := az_g h
    refine az_ild (k := x1.toNatClampNeg) C a69 g21 rfl dX12_run_152 ?_
    refine az_if_ne C 165 dX12_run_153 (by decide) (fun c22 => ?_) (fun c22 => ?_)
    · have h := az_f c22 h
      refine az_aload_n C 2 dX12_run_165 rfl ?_
      refine az_getr (r := 69) C o40 fl_X12_140 rfl rfl dX12_run_166 ?_
      refine az_iload_n C 3 dX12_run_169 rfl ?_
      obtain ⟨g23, h⟩ := az_g h
      refine az_ild (k := x1.toNatClampNeg) C a69 g23 rfl dX12_run_170 ?_
      refine az_iconst (v := 1) C dX12_run_171 (by decide) ?_
      refine az_icmp_ne C 184 dX12_run_172 (by decide) (fun c24 => ?_) (fun c24 => ?_)
      · have h := az_f c24 h
        refine az_aload_n C 2 dX12_run_184 rfl ?_
        refine az_iload_n C 1 dX12_run_185 rfl ?_
        obtain ⟨q25, e26, h⟩ := az_b h
        refine az_callV C [.int q16.1.toInt32] (c_X12_restNow C.hL G q16.1.toInt32 q18.2 e26) (by decide) li_X12_487 o40 (by decide) rfl rfl (Nat.le_of_ble_eq_true rfl) dX12_run_186 (fun v M1 hv => ?_)
        obtain ⟨rfl, rfl⟩ := hv
        refine az_eqst (st' := [.int q25.1]) rfl ?_
        refine az_sub [2, 3] rfl ?_
        exact s_X12_run_189 C G x1 q25.1 q25.2 r h hp
      · have h := az_t c24 h
        refine az_aload_n C 2 dX12_run_175 rfl ?_
        refine az_iload_n C 1 dX12_run_176 rfl ?_
        refine az_iload_n C 0 dX12_run_177 rfl ?_
        obtain ⟨q27, e28, h⟩ := az_b h
        refine az_callV C [.int q16.1.toInt32, .int q18.1.toInt32] (c_X12_duelNow C.hL G q16.1.toInt32 q18.1.toInt32 q18.2 e28) (by decide) li_X12_484 o40 (by decide) rfl rfl (Nat.le_of_ble_eq_true rfl) dX12_run_178 (fun v M1 hv => ?_)
        obtain ⟨rfl, rfl⟩ := hv
        refine az_eqst (st' := [.int q27.1]) rfl ?_
        refine az_goto C 189 dX12_run_181 (by decide) ?_
        refine az_sub [2, 3] rfl ?_
        exact s_X12_run_189 C G x1 q27.1 q27.2 r h hp
    · have h := az_t c22 h
      refine az_aload_n C 2 dX12_run_156 rfl ?_
      refine az_iload_n C 1 dX12_run_157 rfl ?_
      refine az_iload_n C 0 dX12_run_158 rfl ?_
      obtain ⟨q29, e30, h⟩ := az_b h
      refine az_callV C [.int q16.1.toInt32, .int q18.1.toInt32] (c_X12_fireNow C.hL G q16.1.toInt32 q18.1.toInt32 q18.2 e30) (by decide) li_X12_463 o40 (by decide) rfl rfl (Nat.le_of_ble_eq_true rfl) dX12_run_159 (fun v M1 hv => ?_)
      obtain ⟨rfl, rfl⟩ := hv
      refine az_eqst (st' := [.int q29.1]) rfl ?_
      refine az_goto C 189 dX12_run_162 (by decide) ?_
      refine az_sub [2, 3] rfl ?_
      exact s_X12_run_189 C G x1 q29.1 q29.2 r h hp
  · have h := az_f c20 h
    refine az_bipush (v := (-3)) C dX12_run_144 (by decide) ?_
    obtain rfl := Option.some.inj h
    exact az_iret C dX12_run_146 hp
set_option maxHeartbeats 4000000 in
set_option maxRecDepth 100000 in
theorem s_X12_run_e {Y : az_Y} {V : az_V} {post : Option Value → az_M → Prop} (C : az_C Y V cX12_run 5 RX12 (some .int) 10) (G : Nat) (p0 : Int32) (M : az_M) (r : (Int32 × az_M)) (h : f_X12_run G p0 M = some r) (hp : post (some (.int r.1)) r.2) : AW Y V (az_end Y V post) 5 M 0 [(0, .ref (az_ad V 40)), (1, .int p0)] [] := by
  have o40 := C.hL.at 40 (ci := 12) rfl
  have a59 := C.hL.ar 59 (t := 1) (len := 13) rfl
  have a69 := C.hL.ar 69 (t := 0) (len := 96) rfl
  unfold f_X12_run at h
  refine az_aload_n C 0 dX12_run_0 rfl ?_
  refine az_getr (r := 59) C o40 fl_X12_110 rfl rfl dX12_run_1 ?_
  refine az_iconst (v := 1) C dX12_run_4 (by decide) ?_
  refine az_aload_n C 0 dX12_run_5 rfl ?_
  refine az_iconst (v := 0) C dX12_run_6 (by decide) ?_
  obtain ⟨q1, e2, h⟩ := az_b h
  refine az_callV C [.int 0] (c_X12_term C.hL 0 M e2) (by decide) li_X12_189 o40 (by decide) rfl rfl (Nat.le_of_ble_eq_true rfl) dX12_run_7 (fun v M1 hv => ?_)
  obtain ⟨rfl, rfl⟩ := hv
  refine az_eqst (st' := [.int q1, .int 1, .ref (az_ad V 59)]) rfl ?_
  refine az_i2l C dX12_run_10 ?_
  refine az_lst (k := 1) C a59 (by decide) (by decide) dX12_run_11 ?_
  refine az_aload_n C 0 dX12_run_12 rfl ?_
  refine az_getr (r := 59) C o40 fl_X12_110 rfl rfl dX12_run_13 ?_
  refine az_iconst (v := 2) C dX12_run_16 (by decide) ?_
  refine az_aload_n C 0 dX12_run_17 rfl ?_
  refine az_iconst (v := 0) C dX12_run_18 (by decide) ?_
  obtain ⟨q3, e4, h⟩ := az_b h
  refine az_callV C [.int 0] (c_X12_bulletOf C.hL 0 (az_l M 59 1 q1.toInt64) e4) (by decide) li_X12_186 o40 (by decide) rfl rfl (Nat.le_of_ble_eq_true rfl) dX12_run_19 (fun v M1 hv => ?_)
  obtain ⟨rfl, rfl⟩ := hv
  refine az_eqst (st' := [.int q3, .int 2, .ref (az_ad V 59)]) rfl ?_
  refine az_i2l C dX12_run_22 ?_
  refine az_lst (k := 2) C a59 (by decide) (by decide) dX12_run_23 ?_
  refine az_aload_n C 0 dX12_run_24 rfl ?_
  refine az_getr (r := 59) C o40 fl_X12_110 rfl rfl dX12_run_25 ?_
  refine az_iconst (v := 3) C dX12_run_28 (by decide) ?_
  refine az_aload_n C 0 dX12_run_29 rfl ?_
  refine az_iconst (v := 1) C dX12_run_30 (by decide) ?_
  obtain ⟨q5, e6, h⟩ := az_b h
  refine az_callV C [.int 1] (c_X12_bulletOf C.hL 1 (az_l (az_l M 59 1 q1.toInt64) 59 2 q3.toInt64) e6) (by decide) li_X12_186 o40 (by decide) rfl rfl (Nat.le_of_ble_eq_true rfl) dX12_run_31 (fun v M1 hv => ?_)
  obtain ⟨rfl, rfl⟩ := hv
  refine az_eqst (st' := [.int q5, .int 3, .ref (az_ad V 59)]) rfl ?_
  refine az_i2l C dX12_run_34 ?_
  refine az_lst (k := 3) C a59 (by decide) (by decide) dX12_run_35 ?_
  refine az_aload_n C 0 dX12_run_36 rfl ?_
  refine az_getr (r := 59) C o40 fl_X12_110 rfl rfl dX12_run_37 ?_
  refine az_iconst (v := 4) C dX12_run_40 (by decide) ?_
  refine az_aload_n C 0 dX12_run_41 rfl ?_
  refine az_iconst (v := 2) C dX12_run_42 (by decide) ?_
  obtain ⟨q7, e8, h⟩ := az_b h
  refine az_callV C [.int 2] (c_X12_bulletOf C.hL 2 (az_l (az_l (az_l M 59 1 q1.toInt64) 59 2 q3.toInt64) 59 3 q5.toInt64) e8) (by decide) li_X12_186 o40 (by decide) rfl rfl (Nat.le_of_ble_eq_true rfl) dX12_run_43 (fun v M1 hv => ?_)
  obtain ⟨rfl, rfl⟩ := hv
  refine az_eqst (st' := [.int q7, .int 4, .ref (az_ad V 59)]) rfl ?_
  refine az_i2l C dX12_run_46 ?_
  refine az_lst (k := 4) C a59 (by decide) (by decide) dX12_run_47 ?_
  refine az_aload_n C 0 dX12_run_48 rfl ?_
  refine az_getr (r := 59) C o40 fl_X12_110 rfl rfl dX12_run_49 ?_
  refine az_iconst (v := 5) C dX12_run_52 (by decide) ?_
  refine az_aload_n C 0 dX12_run_53 rfl ?_
  refine az_geti C o40 fl_X12_548 rfl dX12_run_54 ?_
  refine az_i2l C dX12_run_57 ?_
  refine az_lst (k := 5) C a59 (by decide) (by decide) dX12_run_58 ?_
  refine az_aload_n C 0 dX12_run_59 rfl ?_
  refine az_getr (r := 59) C o40 fl_X12_110 rfl rfl dX12_run_60 ?_
  refine az_bipush (v := 6) C dX12_run_63 (by decide) ?_
  refine az_aload_n C 0 dX12_run_65 rfl ?_
  refine az_geti C o40 fl_X12_551 rfl dX12_run_66 ?_
  refine az_i2l C dX12_run_69 ?_
  refine az_lst (k := 6) C a59 (by decide) (by decide) dX12_run_70 ?_
  refine az_aload_n C 0 dX12_run_71 rfl ?_
  refine az_iconst (v := 0) C dX12_run_72 (by decide) ?_
  refine az_puti C o40 fl_X12_545 rfl rfl rfl rfl dX12_run_73 ?_
  refine az_aload_n C 0 dX12_run_76 rfl ?_
  refine az_getr (r := 69) C o40 fl_X12_140 rfl rfl dX12_run_77 ?_
  refine az_iload_n C 1 dX12_run_80 rfl ?_
  refine az_iconst (v := 5) C dX12_run_81 (by decide) ?_
  refine az_iadd C dX12_run_82 ?_
  obtain ⟨g9, h⟩ := az_g h
  refine az_ild (k := (p0 + 5).toNatClampNeg) C a69 g9 rfl dX12_run_83 ?_
  refine az_aload_n C 0 dX12_run_84 rfl ?_
  refine az_getr (r := 69) C o40 fl_X12_140 rfl rfl dX12_run_85 ?_
  refine az_iload_n C 1 dX12_run_88 rfl ?_
  refine az_bipush (v := 6) C dX12_run_89 (by decide) ?_
  refine az_iadd C dX12_run_91 ?_
  obtain ⟨g10, h⟩ := az_g h
  refine az_ild (k := (p0 + 6).toNatClampNeg) C a69 g10 rfl dX12_run_92 ?_
  refine az_icmp_ge C 119 dX12_run_93 (by decide) (fun c11 => ?_) (fun c11 => ?_)
  · have h := az_t c11 h
    exact s_X12_run_119 C G p0 (az_i (az_l (az_l (az_l (az_l (az_l (az_l M 59 1 q1.toInt64) 59 2 q3.toInt64) 59 3 q5.toInt64) 59 4 q7.toInt64) 59 5 (((az_l (az_l (az_l (az_l M 59 1 q1.toInt64) 59 2 q3.toInt64) 59 3 q5.toInt64) 59 4 q7.toInt64).1 40 53).toInt64)) 59 6 (((az_l (az_l (az_l (az_l (az_l M 59 1 q1.toInt64) 59 2 q3.toInt64) 59 3 q5.toInt64) 59 4 q7.toInt64) 59 5 (((az_l (az_l (az_l (az_l M 59 1 q1.toInt64) 59 2 q3.toInt64) 59 3 q5.toInt64) 59 4 q7.toInt64).1 40 53).toInt64)).1 40 54).toInt64)) 40 56 0) r h hp
  · have h := az_f c11 h
    refine az_aload_n C 0 dX12_run_96 rfl ?_
    refine az_iload_n C 1 dX12_run_97 rfl ?_
    refine az_iconst (v := 5) C dX12_run_98 (by decide) ?_
    refine az_iadd C dX12_run_99 ?_
    obtain ⟨q12, e13, h⟩ := az_b h
    refine az_callV C [.int (p0 + 5)] (c_X12_sumOf C.hL G (p0 + 5) (az_i (az_l (az_l (az_l (az_l (az_l (az_l M 59 1 q1.toInt64) 59 2 q3.toInt64) 59 3 q5.toInt64) 59 4 q7.toInt64) 59 5 (((az_l (az_l (az_l (az_l M 59 1 q1.toInt64) 59 2 q3.toInt64) 59 3 q5.toInt64) 59 4 q7.toInt64).1 40 53).toInt64)) 59 6 (((az_l (az_l (az_l (az_l (az_l M 59 1 q1.toInt64) 59 2 q3.toInt64) 59 3 q5.toInt64) 59 4 q7.toInt64) 59 5 (((az_l (az_l (az_l (az_l M 59 1 q1.toInt64) 59 2 q3.toInt64) 59 3 q5.toInt64) 59 4 q7.toInt64).1 40 53).toInt64)).1 40 54).toInt64)) 40 56 0) e13) (by decide) li_X12_554 o40 (by decide) rfl rfl (Nat.le_of_ble_eq_true rfl) dX12_run_100 (fun v M1 hv => ?_)
    obtain ⟨rfl, rfl⟩ := hv
    refine az_eqst (st' := [.long q12.1]) rfl ?_
    refine az_lstore_n C dX12_run_103 rfl (by decide) rfl ?_
    refine az_aload_n C 1 dX12_run_104 rfl ?_
    refine az_geti C o40 fl_X12_545 rfl dX12_run_105 ?_
    refine az_if_ne C 117 dX12_run_108 (by decide) (fun c14 => ?_) (fun c14 => ?_)
    · have h := az_f c14 h
      refine az_sub [] rfl ?_
      exact s_X12_run_117 C G q12.2 r h hp
    · have h := az_t c14 h
      refine az_lload_n C 0 dX12_run_111 rfl ?_
      refine az_lconst (v := 0) C dX12_run_112 (by decide) ?_
      refine az_lcmp C dX12_run_113 ?_
      refine az_if_ne C 119 dX12_run_114 (by decide) (fun c15 => ?_) (fun c15 => ?_)
      · have h := az_f (fun z => c15 (az_c_eq.mpr z)) h
        refine az_sub [1, 2] rfl ?_
        exact s_X12_run_119 C G p0 q12.2 r h hp
      · have h := az_t (az_c_eq.mp c15) h
        refine az_sub [] rfl ?_
        exact s_X12_run_117 C G q12.2 r h hp
theorem c_X12_run {l : Launch} {V : az_V} (hL : az_L V) (G : Nat) (p0 : Int32) (M : az_M) {r : (Int32 × az_M)} (h : f_X12_run G p0 M = some r) : az_Ct l V yX12_run cX12_run 5 (some .int) 10 [.ref (az_ad V 40), .int p0] M (fun v M' => v = some (.int r.1) ∧ M' = r.2) :=
  az_Ct.of (by decide) (Nat.le_of_ble_eq_true rfl) (fun Y _ _ C => s_X12_run_e C G p0 M r h ⟨rfl, rfl⟩)
set_option maxHeartbeats 4000000 in
set_option maxRecDepth 100000 in
theorem s_X12_giveBack_35 {Y : az_Y} {V : az_V} {post : Option Value → az_M → Prop} (C : az_C Y V cX12_giveBack 3 RX12 none 2) (G : Nat) : ∀ (F : Nat) (x1 : Int32) (x2 : Int32) (M : az_M) (r : az_M), f_X12_giveBack_35 G F x1 x2 M = some r → post none r → AW Y V (az_end Y V post) 3 M 35 [(0, .ref (az_ad V 40)), (1, .int x1), (2, .int x2)] [] := by
  have o40 := C.hL.at 40 (ci := 12) rfl
  have a46 := C.hL.ar 46 (t := 0) (len := 16) rfl
  have a48 := C.hL.ar 48 (t := 0) (len := 16) rfl
  intro F
  induction F with
  | zero =>
    intro x1 x2 M r h
    exact absurd (show (none : Option az_M) = some r from h) (fun q => by cases q)
  | succ F ih =>
    intro x1 x2 M r h hp
    rw [f_X12_giveBack_35] at h
    refine az_iload_n C 2 dX12_giveBack_35 rfl ?_
    refine az_bipush (v := 16) C dX12_giveBack_36 (by decide) ?_
    refine az_icmp_ge C 59 dX12_giveBack_38 (by decide) (fun c6 => ?_) (fun c6 => ?_)
    · have h := az_t c6 h
      refine az_aload_n C 0 dX12_giveBack_59 rfl ?_
      refine az_iload_n C 1 dX12_giveBack_60 rfl ?_
      refine az_puti C o40 fl_X12_155 rfl rfl rfl rfl dX12_giveBack_61 ?_
      obtain rfl := Option.some.inj h
      exact az_vret C rfl dX12_giveBack_64 hp
    · have h := az_f c6 h
      refine az_aload_n C 0 dX12_giveBack_41 rfl ?_
      refine az_getr (r := 46) C o40 fl_X12_26 rfl rfl dX12_giveBack_42 ?_
      refine az_iload_n C 2 dX12_giveBack_45 rfl ?_
      refine az_aload_n C 0 dX12_giveBack_46 rfl ?_
      refine az_getr (r := 48) C o40 fl_X12_32 rfl rfl dX12_giveBack_47 ?_
      refine az_iload_n C 2 dX12_giveBack_50 rfl ?_
      obtain ⟨g7, h⟩ := az_g h
      refine az_ild (k := x2.toNatClampNeg) C a48 g7 rfl dX12_giveBack_51 ?_
      obtain ⟨g8, h⟩ := az_g h
      refine az_ist (k := x2.toNatClampNeg) C a46 g8 rfl dX12_giveBack_52 ?_
      refine az_iinc (v := (x2 + 1)) C 2 dX12_giveBack_53 rfl rfl (by decide) rfl ?_
      refine az_goto C 35 dX12_giveBack_56 (by decide) ?_
      refine az_sub [1, 2, 0] rfl ?_
      exact ih x1 (x2 + 1) (az_i M 46 x2.toNatClampNeg (M.1 48 x2.toNatClampNeg)) r h hp
set_option maxHeartbeats 4000000 in
set_option maxRecDepth 100000 in
theorem s_X12_giveBack_8 {Y : az_Y} {V : az_V} {post : Option Value → az_M → Prop} (C : az_C Y V cX12_giveBack 3 RX12 none 2) (G : Nat) : ∀ (F : Nat) (x1 : Int32) (x2 : Int32) (M : az_M) (r : az_M), f_X12_giveBack_8 G F x1 x2 M = some r → post none r → AW Y V (az_end Y V post) 3 M 8 [(0, .ref (az_ad V 40)), (1, .int x1), (2, .int x2)] [] := by
  have o40 := C.hL.at 40 (ci := 12) rfl
  have a45 := C.hL.ar 45 (t := 0) (len := 3150) rfl
  have a47 := C.hL.ar 47 (t := 0) (len := 2400) rfl
  intro F
  induction F with
  | zero =>
    intro x1 x2 M r h
    exact absurd (show (none : Option az_M) = some r from h) (fun q => by cases q)
  | succ F ih =>
    intro x1 x2 M r h hp
    rw [f_X12_giveBack_8] at h
    refine az_iload_n C 2 dX12_giveBack_8 rfl ?_
    refine az_sipush (v := 2400) C dX12_giveBack_9 (by decide) ?_
    refine az_icmp_ge C 33 dX12_giveBack_12 (by decide) (fun c3 => ?_) (fun c3 => ?_)
    · have h := az_t c3 h
      refine az_iconst (v := 0) C dX12_giveBack_33 (by decide) ?_
      refine az_istore_n C dX12_giveBack_34 rfl (by decide) rfl ?_
      refine az_sub [1, 2, 0] rfl ?_
      exact s_X12_giveBack_35 C G G x1 0 M r h hp
    · have h := az_f c3 h
      refine az_aload_n C 0 dX12_giveBack_15 rfl ?_
      refine az_getr (r := 45) C o40 fl_X12_23 rfl rfl dX12_giveBack_16 ?_
      refine az_iload_n C 2 dX12_giveBack_19 rfl ?_
      refine az_aload_n C 0 dX12_giveBack_20 rfl ?_
      refine az_getr (r := 47) C o40 fl_X12_29 rfl rfl dX12_giveBack_21 ?_
      refine az_iload_n C 2 dX12_giveBack_24 rfl ?_
      obtain ⟨g4, h⟩ := az_g h
      refine az_ild (k := x2.toNatClampNeg) C a47 g4 rfl dX12_giveBack_25 ?_
      obtain ⟨g5, h⟩ := az_g h
      refine az_ist (k := x2.toNatClampNeg) C a45 g5 rfl dX12_giveBack_26 ?_
      refine az_iinc (v := (x2 + 1)) C 2 dX12_giveBack_27 rfl rfl (by decide) rfl ?_
      refine az_goto C 8 dX12_giveBack_30 (by decide) ?_
      refine az_sub [1, 2, 0] rfl ?_
      exact ih x1 (x2 + 1) (az_i M 45 x2.toNatClampNeg (M.1 47 x2.toNatClampNeg)) r h hp
set_option maxHeartbeats 4000000 in
set_option maxRecDepth 100000 in
theorem s_X12_giveBack_e {Y : az_Y} {V : az_V} {post : Option Value → az_M → Prop} (C : az_C Y V cX12_giveBack 3 RX12 none 2) (G : Nat) (p0 : Int32) (M : az_M) (r : az_M) (h : f_X12_giveBack G p0 M = some r) (hp : post none r) : AW Y V (az_end Y V post) 3 M 0 [(0, .ref (az_ad V 40)), (1, .int p0)] [] := by
  have o40 := C.hL.at 40 (ci := 12) rfl
  unfold f_X12_giveBack at h
  refine az_aload_n C 0 dX12_giveBack_0 rfl ?_
  refine az_bipush (v := 20) C dX12_giveBack_1 (by decide) ?_
  obtain ⟨q1, e2, h⟩ := az_b h
  refine az_callV C [.int 20] (c_X12_putBack C.hL G 20 M e2) (by decide) li_X12_166 o40 (by decide) rfl rfl (Nat.le_of_ble_eq_true rfl) dX12_giveBack_3 (fun v M1 hv => ?_)
  obtain ⟨rfl, rfl⟩ := hv
  refine az_eqst (st' := []) rfl ?_
  refine az_iconst (v := 0) C dX12_giveBack_6 (by decide) ?_
  refine az_istore_n C dX12_giveBack_7 rfl (by decide) rfl ?_
  refine az_sub [1, 2, 0] rfl ?_
  exact s_X12_giveBack_8 C G G p0 0 q1 r h hp
theorem c_X12_giveBack {l : Launch} {V : az_V} (hL : az_L V) (G : Nat) (p0 : Int32) (M : az_M) {r : az_M} (h : f_X12_giveBack G p0 M = some r) : az_Ct l V yX12_giveBack cX12_giveBack 3 none 2 [.ref (az_ad V 40), .int p0] M (fun v M' => v = none ∧ M' = r) :=
  az_Ct.of (by decide) (Nat.le_of_ble_eq_true rfl) (fun Y _ _ C => s_X12_giveBack_e C G p0 M r h ⟨rfl, rfl⟩)
set_option maxHeartbeats 4000000 in
set_option maxRecDepth 100000 in
theorem s_X12_orders_150 {Y : az_Y} {V : az_V} {post : Option Value → az_M → Prop} (C : az_C Y V cX12_orders 4 RX12 (some .int) 11) (G : Nat) (K140 : (Int32 → Int32 → az_M → Option (Int32 × az_M))) (hK140 : ∀ (x1 : Int32) (x2 : Int32) (M : az_M) (r : (Int32 × az_M)), K140 x1 x2 M = some r → post (some (.int r.1)) r.2 → AW Y V (az_end Y V post) 4 M 140 [(0, .ref (az_ad V 40)), (1, .int x1), (2, .int x2)] []) : ∀ (F : Nat) (x1 : Int32) (x2 : Int32) (x3 : Int32) (M : az_M) (r : (Int32 × az_M)), f_X12_orders_150 G K140 F x1 x2 x3 M = some r → post (some (.int r.1)) r.2 → AW Y V (az_end Y V post) 4 M 150 [(0, .ref (az_ad V 40)), (1, .int x1), (2, .int x2), (3, .int x3)] [] := by
  have o40 := C.hL.at 40 (ci := 12) rfl
  have a69 := C.hL.ar 69 (t := 0) (len := 96) rfl
  intro F
  induction F with
  | zero =>
    intro x1 x2 x3 M r h
    exact absurd (show (none : Option (Int32 × az_M)) = some r from h) (fun q => by cases q)
  | succ F ih =>
    intro x1 x2 x3 M r h hp
    rw [f_X12_orders_150] at h
    refine az_iload_n C 3 dX12_orders_150 rfl ?_
    refine az_aload_n C 0 dX12_orders_151 rfl ?_
    refine az_getr (r := 69) C o40 fl_X12_140 rfl rfl dX12_orders_152 ?_
    refine az_bipush (v := 8) C dX12_orders_155 (by decide) ?_
    refine az_iload_n C 2 dX12_orders_157 rfl ?_
    refine az_imul C dX12_orders_158 ?_
    refine az_bipush (v := 7) C dX12_orders_159 (by decide) ?_
    refine az_iadd C dX12_orders_161 ?_
    obtain ⟨g29, h⟩ := az_g h
    refine az_ild (k := ((8 * x2) + 7).toNatClampNeg) C a69 g29 rfl dX12_orders_162 ?_
    refine az_icmp_ge C 200 dX12_orders_163 (by decide) (fun c30 => ?_) (fun c30 => ?_)
    · have h := az_t c30 h
      refine az_iinc (v := (x2 + 1)) C 2 dX12_orders_200 rfl rfl (by decide) rfl ?_
      refine az_goto C 140 dX12_orders_203 (by decide) ?_
      refine az_sub [1, 2, 0] rfl ?_
      exact hK140 x1 (x2 + 1) M r h hp
    · have h := az_f c30 h
      refine az_aload_n C 0 dX12_orders_166 rfl ?_
      refine az_bipush (v := 8) C dX12_orders_167 (by decide) ?_
      refine az_iload_n C 2 dX12_orders_169 rfl ?_
      refine az_imul C dX12_orders_170 ?_
      obtain ⟨q31, e32, h⟩ := az_b h
      refine az_callV C [.int (8 * x2)] (c_X12_run C.hL G (8 * x2) M e32) (by decide) li_X12_561 o40 (by decide) rfl rfl (Nat.le_of_ble_eq_true rfl) dX12_orders_171 (fun v M1 hv => ?_)
      obtain ⟨rfl, rfl⟩ := hv
      refine az_eqst (st' := [.int q31.1]) rfl ?_
      refine az_if_ge C 194 dX12_orders_174 (by decide) (fun c33 => ?_) (fun c33 => ?_)
      · have h := az_t c33 h
        refine az_iinc (v := (x3 + 1)) C 3 dX12_orders_194 rfl rfl (by decide) rfl ?_
        refine az_goto C 150 dX12_orders_197 (by decide) ?_
        refine az_sub [1, 2, 3, 0] rfl ?_
        exact ih x1 x2 (x3 + 1) q31.2 r h hp
      · have h := az_f c33 h
        refine az_aload_n C 0 dX12_orders_177 rfl ?_
        refine az_iload_n C 1 dX12_orders_178 rfl ?_
        obtain ⟨q34, e35, h⟩ := az_b h
        refine az_callV C [.int x1] (c_X12_giveBack C.hL G x1 q31.2 e35) (by decide) li_X12_564 o40 (by decide) rfl rfl (Nat.le_of_ble_eq_true rfl) dX12_orders_179 (fun v M1 hv => ?_)
        obtain ⟨rfl, rfl⟩ := hv
        refine az_eqst (st' := []) rfl ?_
        refine az_aload_n C 0 dX12_orders_182 rfl ?_
        refine az_iload_n C 2 dX12_orders_183 rfl ?_
        refine az_puti C o40 fl_X12_143 rfl rfl rfl rfl dX12_orders_184 ?_
        refine az_aload_n C 0 dX12_orders_187 rfl ?_
        refine az_bipush (v := (-3)) C dX12_orders_188 (by decide) ?_
        obtain ⟨q36, e37, h⟩ := az_b h
        refine az_callV C [.int (-3)] (c_X12_tell C.hL (-3) (az_i q34 40 55 x2) e37) (by decide) li_X12_158 o40 (by decide) rfl rfl (Nat.le_of_ble_eq_true rfl) dX12_orders_190 (fun v M1 hv => ?_)
        obtain ⟨rfl, rfl⟩ := hv
        refine az_eqst (st' := [.int q36.1]) rfl ?_
        obtain rfl := Option.some.inj h
        exact az_iret C dX12_orders_193 hp
set_option maxHeartbeats 4000000 in
set_option maxRecDepth 100000 in
theorem s_X12_orders_140 {Y : az_Y} {V : az_V} {post : Option Value → az_M → Prop} (C : az_C Y V cX12_orders 4 RX12 (some .int) 11) (G : Nat) : ∀ (F : Nat) (x1 : Int32) (x2 : Int32) (M : az_M) (r : (Int32 × az_M)), f_X12_orders_140 G F x1 x2 M = some r → post (some (.int r.1)) r.2 → AW Y V (az_end Y V post) 4 M 140 [(0, .ref (az_ad V 40)), (1, .int x1), (2, .int x2)] [] := by
  have o40 := C.hL.at 40 (ci := 12) rfl
  intro F
  induction F with
  | zero =>
    intro x1 x2 M r h
    exact absurd (show (none : Option (Int32 × az_M)) = some r from h) (fun q => by cases q)
  | succ F ih =>
    intro x1 x2 M r h hp
    rw [f_X12_orders_140] at h
    refine az_iload_n C 2 dX12_orders_140 rfl ?_
    refine az_aload_n C 0 dX12_orders_141 rfl ?_
    refine az_geti C o40 fl_X12_398 rfl dX12_orders_142 ?_
    refine az_icmp_ge C 206 dX12_orders_145 (by decide) (fun c26 => ?_) (fun c26 => ?_)
    · have h := az_t c26 h
      refine az_aload_n C 0 dX12_orders_206 rfl ?_
      refine az_aload_n C 0 dX12_orders_207 rfl ?_
      refine az_geti C o40 fl_X12_548 rfl dX12_orders_208 ?_
      obtain ⟨q27, e28, h⟩ := az_b h
      refine az_callV C [.int (M.1 40 53)] (c_X12_tell C.hL (M.1 40 53) M e28) (by decide) li_X12_158 o40 (by decide) rfl rfl (Nat.le_of_ble_eq_true rfl) dX12_orders_211 (fun v M1 hv => ?_)
      obtain ⟨rfl, rfl⟩ := hv
      refine az_eqst (st' := [.int q27.1]) rfl ?_
      obtain rfl := Option.some.inj h
      exact az_iret C dX12_orders_214 hp
    · have h := az_f c26 h
      refine az_iconst (v := 0) C dX12_orders_148 (by decide) ?_
      refine az_istore_n C dX12_orders_149 rfl (by decide) rfl ?_
      refine az_sub [1, 2, 3, 0] rfl ?_
      exact s_X12_orders_150 C G (f_X12_orders_140 G F) ih G x1 x2 0 M r h hp
set_option maxHeartbeats 4000000 in
set_option maxRecDepth 100000 in
theorem s_X12_orders_104 {Y : az_Y} {V : az_V} {post : Option Value → az_M → Prop} (C : az_C Y V cX12_orders 4 RX12 (some .int) 11) (G : Nat) : ∀ (F : Nat) (x1 : Int32) (x2 : Int32) (M : az_M) (r : (Int32 × az_M)), f_X12_orders_104 G F x1 x2 M = some r → post (some (.int r.1)) r.2 → AW Y V (az_end Y V post) 4 M 104 [(0, .ref (az_ad V 40)), (1, .int x1), (2, .int x2)] [] := by
  have o40 := C.hL.at 40 (ci := 12) rfl
  have a46 := C.hL.ar 46 (t := 0) (len := 16) rfl
  have a48 := C.hL.ar 48 (t := 0) (len := 16) rfl
  intro F
  induction F with
  | zero =>
    intro x1 x2 M r h
    exact absurd (show (none : Option (Int32 × az_M)) = some r from h) (fun q => by cases q)
  | succ F ih =>
    intro x1 x2 M r h hp
    rw [f_X12_orders_104] at h
    refine az_iload_n C 2 dX12_orders_104 rfl ?_
    refine az_bipush (v := 16) C dX12_orders_105 (by decide) ?_
    refine az_icmp_ge C 128 dX12_orders_107 (by decide) (fun c23 => ?_) (fun c23 => ?_)
    · have h := az_t c23 h
      refine az_aload_n C 0 dX12_orders_128 rfl ?_
      refine az_iconst (v := 0) C dX12_orders_129 (by decide) ?_
      refine az_puti C o40 fl_X12_548 rfl rfl rfl rfl dX12_orders_130 ?_
      refine az_aload_n C 0 dX12_orders_133 rfl ?_
      refine az_iconst (v := (-1)) C dX12_orders_134 (by decide) ?_
      refine az_puti C o40 fl_X12_551 rfl rfl rfl rfl dX12_orders_135 ?_
      refine az_iconst (v := 0) C dX12_orders_138 (by decide) ?_
      refine az_istore_n C dX12_orders_139 rfl (by decide) rfl ?_
      refine az_sub [1, 2, 0] rfl ?_
      exact s_X12_orders_140 C G G x1 0 (az_i (az_i M 40 53 0) 40 54 (-1)) r h hp
    · have h := az_f c23 h
      refine az_aload_n C 0 dX12_orders_110 rfl ?_
      refine az_getr (r := 48) C o40 fl_X12_32 rfl rfl dX12_orders_111 ?_
      refine az_iload_n C 2 dX12_orders_114 rfl ?_
      refine az_aload_n C 0 dX12_orders_115 rfl ?_
      refine az_getr (r := 46) C o40 fl_X12_26 rfl rfl dX12_orders_116 ?_
      refine az_iload_n C 2 dX12_orders_119 rfl ?_
      obtain ⟨g24, h⟩ := az_g h
      refine az_ild (k := x2.toNatClampNeg) C a46 g24 rfl dX12_orders_120 ?_
      obtain ⟨g25, h⟩ := az_g h
      refine az_ist (k := x2.toNatClampNeg) C a48 g25 rfl dX12_orders_121 ?_
      refine az_iinc (v := (x2 + 1)) C 2 dX12_orders_122 rfl rfl (by decide) rfl ?_
      refine az_goto C 104 dX12_orders_125 (by decide) ?_
      refine az_sub [1, 2, 0] rfl ?_
      exact ih x1 (x2 + 1) (az_i M 48 x2.toNatClampNeg (M.1 46 x2.toNatClampNeg)) r h hp
set_option maxHeartbeats 4000000 in
set_option maxRecDepth 100000 in
theorem s_X12_orders_77 {Y : az_Y} {V : az_V} {post : Option Value → az_M → Prop} (C : az_C Y V cX12_orders 4 RX12 (some .int) 11) (G : Nat) : ∀ (F : Nat) (x1 : Int32) (x2 : Int32) (M : az_M) (r : (Int32 × az_M)), f_X12_orders_77 G F x1 x2 M = some r → post (some (.int r.1)) r.2 → AW Y V (az_end Y V post) 4 M 77 [(0, .ref (az_ad V 40)), (1, .int x1), (2, .int x2)] [] := by
  have o40 := C.hL.at 40 (ci := 12) rfl
  have a45 := C.hL.ar 45 (t := 0) (len := 3150) rfl
  have a47 := C.hL.ar 47 (t := 0) (len := 2400) rfl
  intro F
  induction F with
  | zero =>
    intro x1 x2 M r h
    exact absurd (show (none : Option (Int32 × az_M)) = some r from h) (fun q => by cases q)
  | succ F ih =>
    intro x1 x2 M r h hp
    rw [f_X12_orders_77] at h
    refine az_iload_n C 2 dX12_orders_77 rfl ?_
    refine az_sipush (v := 2400) C dX12_orders_78 (by decide) ?_
    refine az_icmp_ge C 102 dX12_orders_81 (by decide) (fun c20 => ?_) (fun c20 => ?_)
    · have h := az_t c20 h
      refine az_iconst (v := 0) C dX12_orders_102 (by decide) ?_
      refine az_istore_n C dX12_orders_103 rfl (by decide) rfl ?_
      refine az_sub [1, 2, 0] rfl ?_
      exact s_X12_orders_104 C G G x1 0 M r h hp
    · have h := az_f c20 h
      refine az_aload_n C 0 dX12_orders_84 rfl ?_
      refine az_getr (r := 47) C o40 fl_X12_29 rfl rfl dX12_orders_85 ?_
      refine az_iload_n C 2 dX12_orders_88 rfl ?_
      refine az_aload_n C 0 dX12_orders_89 rfl ?_
      refine az_getr (r := 45) C o40 fl_X12_23 rfl rfl dX12_orders_90 ?_
      refine az_iload_n C 2 dX12_orders_93 rfl ?_
      obtain ⟨g21, h⟩ := az_g h
      refine az_ild (k := x2.toNatClampNeg) C a45 g21 rfl dX12_orders_94 ?_
      obtain ⟨g22, h⟩ := az_g h
      refine az_ist (k := x2.toNatClampNeg) C a47 g22 rfl dX12_orders_95 ?_
      refine az_iinc (v := (x2 + 1)) C 2 dX12_orders_96 rfl rfl (by decide) rfl ?_
      refine az_goto C 77 dX12_orders_99 (by decide) ?_
      refine az_sub [1, 2, 0] rfl ?_
      exact ih x1 (x2 + 1) (az_i M 47 x2.toNatClampNeg (M.1 45 x2.toNatClampNeg)) r h hp
set_option maxHeartbeats 4000000 in
set_option maxRecDepth 100000 in
theorem s_X12_orders_46 {Y : az_Y} {V : az_V} {post : Option Value → az_M → Prop} (C : az_C Y V cX12_orders 4 RX12 (some .int) 11) (G : Nat)  (M : az_M) (r : (Int32 × az_M)) (h : f_X12_orders_46 G M = some r) (hp : post (some (.int r.1)) r.2) : AW Y V (az_end Y V post) 4 M 46 [(0, .ref (az_ad V 40))] [] := by
  have o40 := C.hL.at 40 (ci := 12) rfl
  unfold f_X12_orders_46 at h
  refine az_aload_n C 0 dX12_orders_46 rfl ?_
  obtain ⟨q13, e14, h⟩ := az_b h
  refine az_callV C [] (c_X12_endText C.hL G M e14) (by decide) li_X12_412 o40 (by decide) rfl rfl (Nat.le_of_ble_eq_true rfl) dX12_orders_47 (fun v M1 hv => ?_)
  obtain ⟨rfl, rfl⟩ := hv
  refine az_eqst (st' := []) rfl ?_
  refine az_aload_n C 0 dX12_orders_50 rfl ?_
  refine az_geti C o40 fl_X12_270 rfl dX12_orders_51 ?_
  refine az_if_eq C 64 dX12_orders_54 (by decide) (fun c15 => ?_) (fun c15 => ?_)
  · have h := az_t c15 h
    refine az_aload_n C 0 dX12_orders_64 rfl ?_
    refine az_bipush (v := 20) C dX12_orders_65 (by decide) ?_
    obtain ⟨q16, e17, h⟩ := az_b h
    refine az_callV C [.int 20] (c_X12_keepAll C.hL G 20 q13 e17) (by decide) li_X12_162 o40 (by decide) rfl rfl (Nat.le_of_ble_eq_true rfl) dX12_orders_67 (fun v M1 hv => ?_)
    obtain ⟨rfl, rfl⟩ := hv
    refine az_eqst (st' := []) rfl ?_
    refine az_aload_n C 0 dX12_orders_70 rfl ?_
    refine az_geti C o40 fl_X12_155 rfl dX12_orders_71 ?_
    refine az_istore_n C dX12_orders_74 rfl (by decide) rfl ?_
    refine az_iconst (v := 0) C dX12_orders_75 (by decide) ?_
    refine az_istore_n C dX12_orders_76 rfl (by decide) rfl ?_
    refine az_sub [2, 1, 0] rfl ?_
    exact s_X12_orders_77 C G G (q16.1 40 8) 0 q16 r h hp
  · have h := az_f c15 h
    refine az_aload_n C 0 dX12_orders_57 rfl ?_
    refine az_bipush (v := (-6)) C dX12_orders_58 (by decide) ?_
    obtain ⟨q18, e19, h⟩ := az_b h
    refine az_callV C [.int (-6)] (c_X12_tell C.hL (-6) q13 e19) (by decide) li_X12_158 o40 (by decide) rfl rfl (Nat.le_of_ble_eq_true rfl) dX12_orders_60 (fun v M1 hv => ?_)
    obtain ⟨rfl, rfl⟩ := hv
    refine az_eqst (st' := [.int q18.1]) rfl ?_
    obtain rfl := Option.some.inj h
    exact az_iret C dX12_orders_63 hp
set_option maxHeartbeats 4000000 in
set_option maxRecDepth 100000 in
theorem s_X12_orders_19 {Y : az_Y} {V : az_V} {post : Option Value → az_M → Prop} (C : az_C Y V cX12_orders 4 RX12 (some .int) 11) (G : Nat) : ∀ (F : Nat)  (M : az_M) (r : (Int32 × az_M)), f_X12_orders_19 G F M = some r → post (some (.int r.1)) r.2 → AW Y V (az_end Y V post) 4 M 19 [(0, .ref (az_ad V 40))] [] := by
  have o40 := C.hL.at 40 (ci := 12) rfl
  intro F
  induction F with
  | zero =>
    intro  M r h
    exact absurd (show (none : Option (Int32 × az_M)) = some r from h) (fun q => by cases q)
  | succ F ih =>
    intro  M r h hp
    rw [f_X12_orders_19] at h
    refine az_aload_n C 0 dX12_orders_19 rfl ?_
    refine az_geti C o40 fl_X12_270 rfl dX12_orders_20 ?_
    refine az_if_ne C 46 dX12_orders_23 (by decide) (fun c5 => ?_) (fun c5 => ?_)
    · have h := az_f c5 h
      exact s_X12_orders_46 C G M r h hp
    · have h := az_t c5 h
      refine az_aload_n C 0 dX12_orders_26 rfl ?_
      refine az_bipush (v := 59) C dX12_orders_27 (by decide) ?_
      obtain ⟨q6, e7, h⟩ := az_b h
      refine az_callV C [.int 59] (c_X12_isSign C.hL 59 M e7) (by decide) li_X12_339 o40 (by decide) rfl rfl (Nat.le_of_ble_eq_true rfl) dX12_orders_29 (fun v M1 hv => ?_)
      obtain ⟨rfl, rfl⟩ := hv
      refine az_eqst (st' := [.int q6]) rfl ?_
      refine az_if_eq C 46 dX12_orders_32 (by decide) (fun c8 => ?_) (fun c8 => ?_)
      · have h := az_t c8 h
        exact s_X12_orders_46 C G M r h hp
      · have h := az_f c8 h
        refine az_aload_n C 0 dX12_orders_35 rfl ?_
        obtain ⟨q9, e10, h⟩ := az_b h
        refine az_callV C [] (c_X12_next C.hL G M e10) (by decide) li_X12_274 o40 (by decide) rfl rfl (Nat.le_of_ble_eq_true rfl) dX12_orders_36 (fun v M1 hv => ?_)
        obtain ⟨rfl, rfl⟩ := hv
        refine az_eqst (st' := []) rfl ?_
        refine az_aload_n C 0 dX12_orders_39 rfl ?_
        obtain ⟨q11, e12, h⟩ := az_b h
        refine az_callV C [] (c_X12_readOrder C.hL G q9 e12) (by decide) li_X12_558 o40 (by decide) rfl rfl (Nat.le_of_ble_eq_true rfl) dX12_orders_40 (fun v M1 hv => ?_)
        obtain ⟨rfl, rfl⟩ := hv
        refine az_eqst (st' := []) rfl ?_
        refine az_goto C 19 dX12_orders_43 (by decide) ?_
        exact ih q11 r h hp
set_option maxHeartbeats 4000000 in
set_option maxRecDepth 100000 in
theorem s_X12_orders_e {Y : az_Y} {V : az_V} {post : Option Value → az_M → Prop} (C : az_C Y V cX12_orders 4 RX12 (some .int) 11) (G : Nat)  (M : az_M) (r : (Int32 × az_M)) (h : f_X12_orders G M = some r) (hp : post (some (.int r.1)) r.2) : AW Y V (az_end Y V post) 4 M 0 [(0, .ref (az_ad V 40))] [] := by
  have o40 := C.hL.at 40 (ci := 12) rfl
  unfold f_X12_orders at h
  refine az_aload_n C 0 dX12_orders_0 rfl ?_
  refine az_iconst (v := 0) C dX12_orders_1 (by decide) ?_
  refine az_puti C o40 fl_X12_149 rfl rfl rfl rfl dX12_orders_2 ?_
  refine az_aload_n C 0 dX12_orders_5 rfl ?_
  refine az_iconst (v := (-1)) C dX12_orders_6 (by decide) ?_
  refine az_puti C o40 fl_X12_143 rfl rfl rfl rfl dX12_orders_7 ?_
  refine az_aload_n C 0 dX12_orders_10 rfl ?_
  refine az_iconst (v := 1) C dX12_orders_11 (by decide) ?_
  obtain ⟨q1, e2, h⟩ := az_b h
  refine az_callV C [.int 1] (c_X12_beginText C.hL G 1 (az_i (az_i M 40 0 0) 40 55 (-1)) e2) (by decide) li_X12_406 o40 (by decide) rfl rfl (Nat.le_of_ble_eq_true rfl) dX12_orders_12 (fun v M1 hv => ?_)
  obtain ⟨rfl, rfl⟩ := hv
  refine az_eqst (st' := []) rfl ?_
  refine az_aload_n C 0 dX12_orders_15 rfl ?_
  obtain ⟨q3, e4, h⟩ := az_b h
  refine az_callV C [] (c_X12_readOrder C.hL G q1 e4) (by decide) li_X12_558 o40 (by decide) rfl rfl (Nat.le_of_ble_eq_true rfl) dX12_orders_16 (fun v M1 hv => ?_)
  obtain ⟨rfl, rfl⟩ := hv
  refine az_eqst (st' := []) rfl ?_
  exact s_X12_orders_19 C G G q3 r h hp
theorem c_X12_orders {l : Launch} {V : az_V} (hL : az_L V) (G : Nat)  (M : az_M) {r : (Int32 × az_M)} (h : f_X12_orders G M = some r) : az_Ct l V yX12_orders cX12_orders 4 (some .int) 11 [.ref (az_ad V 40)] M (fun v M' => v = some (.int r.1) ∧ M' = r.2) :=
  az_Ct.of (by decide) (Nat.le_of_ble_eq_true rfl) (fun Y _ _ C => s_X12_orders_e C G M r h ⟨rfl, rfl⟩)
set_option maxHeartbeats 4000000 in
set_option maxRecDepth 100000 in
theorem s_X12_stopped_e {Y : az_Y} {V : az_V} {post : Option Value → az_M → Prop} (C : az_C Y V cX12_stopped 1 RX12 (some .int) 1)  (M : az_M) (r : (Int32 × az_M)) (h : f_X12_stopped M = some r) (hp : post (some (.int r.1)) r.2) : AW Y V (az_end Y V post) 1 M 0 [(0, .ref (az_ad V 40))] [] := by
  have o40 := C.hL.at 40 (ci := 12) rfl
  unfold f_X12_stopped at h
  refine az_aload_n C 0 dX12_stopped_0 rfl ?_
  refine az_iconst (v := 0) C dX12_stopped_1 (by decide) ?_
  refine az_puti C o40 fl_X12_149 rfl rfl rfl rfl dX12_stopped_2 ?_
  refine az_aload_n C 0 dX12_stopped_5 rfl ?_
  refine az_geti C o40 fl_X12_143 rfl dX12_stopped_6 ?_
  obtain rfl := Option.some.inj h
  exact az_iret C dX12_stopped_9 hp
theorem c_X12_stopped {l : Launch} {V : az_V} (hL : az_L V)  (M : az_M) {r : (Int32 × az_M)} (h : f_X12_stopped M = some r) : az_Ct l V yX12_stopped cX12_stopped 1 (some .int) 1 [.ref (az_ad V 40)] M (fun v M' => v = some (.int r.1) ∧ M' = r.2) :=
  az_Ct.of (by decide) (Nat.le_of_ble_eq_true rfl) (fun Y _ _ C => s_X12_stopped_e C M r h ⟨rfl, rfl⟩)
