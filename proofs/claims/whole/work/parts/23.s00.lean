set_option maxHeartbeats 4000000 in
set_option maxRecDepth 100000 in
theorem s_X6_join_71 {Y : az_Y} {V : az_V} {post : Option Value → az_M → Prop} (C : az_C Y V cX6_join 5 RX6 (some .long) 1) (s0 : Int64) (M : az_M) (r : Int64) (h : f_X6_join_71 s0 M = some r) (hp : post (some (.long r)) M) : AW Y V (az_end Y V post) 5 M 71 [] [.long s0] := by
  unfold f_X6_join_71 at h
  obtain rfl := Option.some.inj h
  exact az_lret C dX6_join_71 hp
set_option maxHeartbeats 4000000 in
set_option maxRecDepth 100000 in
theorem s_X6_join_87 {Y : az_Y} {V : az_V} {post : Option Value → az_M → Prop} (C : az_C Y V cX6_join 5 RX6 (some .long) 1) (s0 : Int64) (M : az_M) (r : Int64) (h : f_X6_join_87 s0 M = some r) (hp : post (some (.long r)) M) : AW Y V (az_end Y V post) 5 M 87 [] [.long s0] := by
  unfold f_X6_join_87 at h
  obtain rfl := Option.some.inj h
  exact az_lret C dX6_join_87 hp
set_option maxHeartbeats 4000000 in
set_option maxRecDepth 100000 in
theorem s_X6_join_99 {Y : az_Y} {V : az_V} {post : Option Value → az_M → Prop} (C : az_C Y V cX6_join 5 RX6 (some .long) 1) (s0 : Int64) (M : az_M) (r : Int64) (h : f_X6_join_99 s0 M = some r) (hp : post (some (.long r)) M) : AW Y V (az_end Y V post) 5 M 99 [] [.long s0] := by
  unfold f_X6_join_99 at h
  obtain rfl := Option.some.inj h
  exact az_lret C dX6_join_99 hp
set_option maxHeartbeats 4000000 in
set_option maxRecDepth 100000 in
theorem s_X6_join_111 {Y : az_Y} {V : az_V} {post : Option Value → az_M → Prop} (C : az_C Y V cX6_join 5 RX6 (some .long) 1) (s0 : Int64) (M : az_M) (r : Int64) (h : f_X6_join_111 s0 M = some r) (hp : post (some (.long r)) M) : AW Y V (az_end Y V post) 5 M 111 [] [.long s0] := by
  unfold f_X6_join_111 at h
  obtain rfl := Option.some.inj h
  exact az_lret C dX6_join_111 hp
set_option maxHeartbeats 4000000 in
set_option maxRecDepth 100000 in
theorem s_X6_join_123 {Y : az_Y} {V : az_V} {post : Option Value → az_M → Prop} (C : az_C Y V cX6_join 5 RX6 (some .long) 1) (s0 : Int64) (M : az_M) (r : Int64) (h : f_X6_join_123 s0 M = some r) (hp : post (some (.long r)) M) : AW Y V (az_end Y V post) 5 M 123 [] [.long s0] := by
  unfold f_X6_join_123 at h
  obtain rfl := Option.some.inj h
  exact az_lret C dX6_join_123 hp
set_option maxHeartbeats 4000000 in
set_option maxRecDepth 100000 in
theorem s_X6_join_e {Y : az_Y} {V : az_V} {post : Option Value → az_M → Prop} (C : az_C Y V cX6_join 5 RX6 (some .long) 1) (p0 : Int32) (p1 : Int64) (p2 : Int64) (M : az_M) (r : Int64) (h : f_X6_join p0 p1 p2 M = some r) (hp : post (some (.long r)) M) : AW Y V (az_end Y V post) 5 M 0 [(0, .int p0), (1, .long p1), (3, .long p2)] [] := by
  unfold f_X6_join at h
  refine az_iload_n C 0 dX6_join_0 rfl ?_
  by_cases c1 : p0 = 2
  · have h := az_t c1 h
    refine az_tabIn (off := 43) C 44 dX6_join_1 (by rw [c1]; decide) (by rw [c1]; decide) (by rw [c1]; decide) (by decide) ?_
    refine az_lload_n C 1 dX6_join_44 rfl ?_
    refine az_lload_n C 2 dX6_join_45 rfl ?_
    refine az_ladd C dX6_join_46 ?_
    obtain rfl := Option.some.inj h
    exact az_lret C dX6_join_47 hp
  have h := az_f c1 h
  have nc1 := lv_neT c1 (a := 2) (by decide)
  by_cases c2 : p0 = 3
  · have h := az_t c2 h
    refine az_tabIn (off := 47) C 48 dX6_join_1 (by rw [c2]; decide) (by rw [c2]; decide) (by rw [c2]; decide) (by decide) ?_
    refine az_lload_n C 1 dX6_join_48 rfl ?_
    refine az_lload_n C 2 dX6_join_49 rfl ?_
    refine az_lsub C dX6_join_50 ?_
    obtain rfl := Option.some.inj h
    exact az_lret C dX6_join_51 hp
  have h := az_f c2 h
  have nc2 := lv_neT c2 (a := 3) (by decide)
  by_cases c3 : p0 = 4
  · have h := az_t c3 h
    refine az_tabIn (off := 51) C 52 dX6_join_1 (by rw [c3]; decide) (by rw [c3]; decide) (by rw [c3]; decide) (by decide) ?_
    refine az_lload_n C 1 dX6_join_52 rfl ?_
    refine az_lload_n C 2 dX6_join_53 rfl ?_
    refine az_lmul C dX6_join_54 ?_
    obtain rfl := Option.some.inj h
    exact az_lret C dX6_join_55 hp
  have h := az_f c3 h
  have nc3 := lv_neT c3 (a := 4) (by decide)
  by_cases c4 : p0 = 5
  · have h := az_t c4 h
    refine az_tabIn (off := 55) C 56 dX6_join_1 (by rw [c4]; decide) (by rw [c4]; decide) (by rw [c4]; decide) (by decide) ?_
    refine az_lload_n C 2 dX6_join_56 rfl ?_
    refine az_lconst (v := 0) C dX6_join_57 (by decide) ?_
    refine az_lcmp C dX6_join_58 ?_
    refine az_if_ne C 68 dX6_join_59 (by decide) (fun c5 => ?_) (fun c5 => ?_)
    · have h := az_f (fun z => c5 (az_c_eq.mpr z)) h
      refine az_lload_n C 1 dX6_join_68 rfl ?_
      refine az_lload_n C 2 dX6_join_69 rfl ?_
      obtain ⟨g6, h⟩ := az_g h
      refine az_ldiv C dX6_join_70 g6 ?_
      refine az_sub [] rfl ?_
      exact s_X6_join_71 C (p1 / p2) M r h hp
    · have h := az_t (az_c_eq.mp c5) h
      refine az_ldc2 C ck_X6_29 dX6_join_62 ?_
      refine az_goto C 71 dX6_join_65 (by decide) ?_
      refine az_sub [] rfl ?_
      exact s_X6_join_71 C (-2147483648) M r h hp
  have h := az_f c4 h
  have nc4 := lv_neT c4 (a := 5) (by decide)
  by_cases c7 : p0 = 6
  · have h := az_t c7 h
    refine az_tabIn (off := 71) C 72 dX6_join_1 (by rw [c7]; decide) (by rw [c7]; decide) (by rw [c7]; decide) (by decide) ?_
    refine az_lload_n C 2 dX6_join_72 rfl ?_
    refine az_lconst (v := 0) C dX6_join_73 (by decide) ?_
    refine az_lcmp C dX6_join_74 ?_
    refine az_if_ne C 84 dX6_join_75 (by decide) (fun c8 => ?_) (fun c8 => ?_)
    · have h := az_f (fun z => c8 (az_c_eq.mpr z)) h
      refine az_lload_n C 1 dX6_join_84 rfl ?_
      refine az_lload_n C 2 dX6_join_85 rfl ?_
      obtain ⟨g9, h⟩ := az_g h
      refine az_lrem2 C dX6_join_86 g9 ?_
      refine az_sub [] rfl ?_
      exact s_X6_join_87 C (az_reml p1 p2) M r h hp
    · have h := az_t (az_c_eq.mp c8) h
      refine az_ldc2 C ck_X6_29 dX6_join_78 ?_
      refine az_goto C 87 dX6_join_81 (by decide) ?_
      refine az_sub [] rfl ?_
      exact s_X6_join_87 C (-2147483648) M r h hp
  have h := az_f c7 h
  have nc7 := lv_neT c7 (a := 6) (by decide)
  by_cases c10 : p0 = 7
  · have h := az_t c10 h
    refine az_tabIn (off := 87) C 88 dX6_join_1 (by rw [c10]; decide) (by rw [c10]; decide) (by rw [c10]; decide) (by decide) ?_
    refine az_lload_n C 1 dX6_join_88 rfl ?_
    refine az_lload_n C 2 dX6_join_89 rfl ?_
    refine az_lcmp C dX6_join_90 ?_
    refine az_if_ge C 98 dX6_join_91 (by decide) (fun c11 => ?_) (fun c11 => ?_)
    · have h := az_t (az_c_ge.mp c11) h
      refine az_lconst (v := 0) C dX6_join_98 (by decide) ?_
      refine az_sub [] rfl ?_
      exact s_X6_join_99 C 0 M r h hp
    · have h := az_f (fun z => c11 (az_c_ge.mpr z)) h
      refine az_lconst (v := 1) C dX6_join_94 (by decide) ?_
      refine az_goto C 99 dX6_join_95 (by decide) ?_
      refine az_sub [] rfl ?_
      exact s_X6_join_99 C 1 M r h hp
  have h := az_f c10 h
  have nc10 := lv_neT c10 (a := 7) (by decide)
  by_cases c12 : p0 = 8
  · have h := az_t c12 h
    refine az_tabIn (off := 99) C 100 dX6_join_1 (by rw [c12]; decide) (by rw [c12]; decide) (by rw [c12]; decide) (by decide) ?_
    refine az_lload_n C 1 dX6_join_100 rfl ?_
    refine az_lload_n C 2 dX6_join_101 rfl ?_
    refine az_lcmp C dX6_join_102 ?_
    refine az_if_le C 110 dX6_join_103 (by decide) (fun c13 => ?_) (fun c13 => ?_)
    · have h := az_t (az_c_le.mp c13) h
      refine az_lconst (v := 0) C dX6_join_110 (by decide) ?_
      refine az_sub [] rfl ?_
      exact s_X6_join_111 C 0 M r h hp
    · have h := az_f (fun z => c13 (az_c_le.mpr z)) h
      refine az_lconst (v := 1) C dX6_join_106 (by decide) ?_
      refine az_goto C 111 dX6_join_107 (by decide) ?_
      refine az_sub [] rfl ?_
      exact s_X6_join_111 C 1 M r h hp
  have h := az_f c12 h
  have nc12 := lv_neT c12 (a := 8) (by decide)
  refine az_tabOut C 112 dX6_join_1 (by omega) (by decide) ?_
  refine az_lload_n C 1 dX6_join_112 rfl ?_
  refine az_lload_n C 2 dX6_join_113 rfl ?_
  refine az_lcmp C dX6_join_114 ?_
  refine az_if_ne C 122 dX6_join_115 (by decide) (fun c14 => ?_) (fun c14 => ?_)
  · have h := az_f (fun z => c14 (az_c_eq.mpr z)) h
    refine az_lconst (v := 0) C dX6_join_122 (by decide) ?_
    refine az_sub [] rfl ?_
    exact s_X6_join_123 C 0 M r h hp
  · have h := az_t (az_c_eq.mp c14) h
    refine az_lconst (v := 1) C dX6_join_118 (by decide) ?_
    refine az_goto C 123 dX6_join_119 (by decide) ?_
    refine az_sub [] rfl ?_
    exact s_X6_join_123 C 1 M r h hp
theorem c_X6_join {l : Launch} {V : az_V} (hL : az_L V) (p0 : Int32) (p1 : Int64) (p2 : Int64) (M : az_M) {r : Int64} (h : f_X6_join p0 p1 p2 M = some r) : az_Ct l V yX6_join cX6_join 5 (some .long) 1 [.int p0, .long p1, .long p2] M (fun v M' => v = some (.long r) ∧ M' = M) :=
  az_Ct.of (by decide) (Nat.le_of_ble_eq_true rfl) (fun Y _ _ C => s_X6_join_e C p0 p1 p2 M r h ⟨rfl, rfl⟩)
set_option maxHeartbeats 4000000 in
set_option maxRecDepth 100000 in
theorem s_X6_reckon_82 {Y : az_Y} {V : az_V} {post : Option Value → az_M → Prop} (C : az_C Y V cX6_reckon 12 RX6 (some .int) 2) (G : Nat) (a0 : Nat) (ha0 : az_tx V a0) (a3 : Nat) (ha3 : az_ai V a3)  (M : az_M) (r : (Int32 × az_M)) (h : f_X6_reckon_82 (az_z V) G a0 a3 M = some r) (hp : post (some (.int r.1)) r.2) : AW Y V (az_end Y V post) 12 M 82 [] [] := by
  unfold f_X6_reckon_82 at h
  refine az_ldc C ck_X6_20 dX6_reckon_82 ?_
  obtain rfl := Option.some.inj h
  exact az_iret C dX6_reckon_84 hp
set_option maxHeartbeats 4000000 in
set_option maxRecDepth 100000 in
theorem s_X6_reckon_302 {Y : az_Y} {V : az_V} {post : Option Value → az_M → Prop} (C : az_C Y V cX6_reckon 12 RX6 (some .int) 2) (G : Nat) (a0 : Nat) (ha0 : az_tx V a0) (a3 : Nat) (ha3 : az_ai V a3) (K19 : (Int32 → Int32 → Int32 → az_M → Option (Int32 × az_M))) (hK19 : ∀ (x3 : Int32) (x6 : Int32) (x7 : Int32) (M : az_M) (r : (Int32 × az_M)), K19 x3 x6 x7 M = some r → post (some (.int r.1)) r.2 → AW Y V (az_end Y V post) 12 M 19 [(0, .ref (az_ad V 13)), (3, .int x3), (4, .ref (az_ad V a3)), (5, .ref (az_ad V (a0 + 1))), (6, .int x6), (7, .int x7)] []) (x3 : Int32) (x6 : Int32) (x7 : Int32) (M : az_M) (r : (Int32 × az_M)) (h : f_X6_reckon_302 (az_z V) G a0 a3 K19 x3 x6 x7 M = some r) (hp : post (some (.int r.1)) r.2) : AW Y V (az_end Y V post) 12 M 302 [(0, .ref (az_ad V 13)), (3, .int x3), (4, .ref (az_ad V a3)), (5, .ref (az_ad V (a0 + 1))), (6, .int x6), (7, .int x7)] [] := by
  unfold f_X6_reckon_302 at h
  refine az_iinc (v := (x7 + 1)) C 5 dX6_reckon_302 rfl rfl (by decide) rfl ?_
  refine az_goto C 19 dX6_reckon_305 (by decide) ?_
  refine az_sub [1, 2, 3, 4, 5, 0] rfl ?_
  exact hK19 x3 x6 (x7 + 1) M r h hp
set_option maxHeartbeats 4000000 in
set_option maxRecDepth 100000 in
theorem s_X6_reckon_106 {Y : az_Y} {V : az_V} {post : Option Value → az_M → Prop} (C : az_C Y V cX6_reckon 12 RX6 (some .int) 2) (G : Nat) (a0 : Nat) (ha0 : az_tx V a0) (a3 : Nat) (ha3 : az_ai V a3) (K19 : (Int32 → Int32 → Int32 → az_M → Option (Int32 × az_M))) (hK19 : ∀ (x3 : Int32) (x6 : Int32) (x7 : Int32) (M : az_M) (r : (Int32 × az_M)), K19 x3 x6 x7 M = some r → post (some (.int r.1)) r.2 → AW Y V (az_end Y V post) 12 M 19 [(0, .ref (az_ad V 13)), (3, .int x3), (4, .ref (az_ad V a3)), (5, .ref (az_ad V (a0 + 1))), (6, .int x6), (7, .int x7)] []) (x3 : Int32) (x6 : Int32) (x7 : Int32) (s0 : Int32) (s1 : Int32) (M : az_M) (r : (Int32 × az_M)) (h : f_X6_reckon_106 (az_z V) G a0 a3 K19 x3 x6 x7 s0 s1 M = some r) (hp : post (some (.int r.1)) r.2) : AW Y V (az_end Y V post) 12 M 106 [(0, .ref (az_ad V 13)), (3, .int x3), (4, .ref (az_ad V a3)), (5, .ref (az_ad V (a0 + 1))), (6, .int x6), (7, .int x7)] [.int s0, .int s1, .ref (az_ad V 14)] := by
  have a14 := C.hL.ar 14 (t := 0) (len := 51) rfl
  unfold f_X6_reckon_106 at h
  obtain ⟨g26, h⟩ := az_g h
  refine az_ist (k := s1.toNatClampNeg) C a14 g26 rfl dX6_reckon_106 ?_
  refine az_iinc (v := (x6 + 1)) C 4 dX6_reckon_107 rfl rfl (by decide) rfl ?_
  refine az_goto C 302 dX6_reckon_110 (by decide) ?_
  refine az_sub [1, 2, 3, 4, 0, 5] rfl ?_
  exact s_X6_reckon_302 C G a0 ha0 a3 ha3 K19 hK19 x3 (x6 + 1) x7 (az_i M 14 s1.toNatClampNeg s0) r h hp
set_option maxHeartbeats 4000000 in
set_option maxRecDepth 100000 in
theorem s_X6_reckon_85 {Y : az_Y} {V : az_V} {post : Option Value → az_M → Prop} (C : az_C Y V cX6_reckon 12 RX6 (some .int) 2) (G : Nat) (a0 : Nat) (ha0 : az_tx V a0) (a3 : Nat) (ha3 : az_ai V a3) (K19 : (Int32 → Int32 → Int32 → az_M → Option (Int32 × az_M))) (hK19 : ∀ (x3 : Int32) (x6 : Int32) (x7 : Int32) (M : az_M) (r : (Int32 × az_M)), K19 x3 x6 x7 M = some r → post (some (.int r.1)) r.2 → AW Y V (az_end Y V post) 12 M 19 [(0, .ref (az_ad V 13)), (3, .int x3), (4, .ref (az_ad V a3)), (5, .ref (az_ad V (a0 + 1))), (6, .int x6), (7, .int x7)] []) (x3 : Int32) (x6 : Int32) (x7 : Int32) (x8 : Int32) (x9 : Int32) (M : az_M) (r : (Int32 × az_M)) (h : f_X6_reckon_85 (az_z V) G a0 a3 K19 x3 x6 x7 x8 x9 M = some r) (hp : post (some (.int r.1)) r.2) : AW Y V (az_end Y V post) 12 M 85 [(0, .ref (az_ad V 13)), (3, .int x3), (4, .ref (az_ad V a3)), (5, .ref (az_ad V (a0 + 1))), (6, .int x6), (7, .int x7), (8, .int x8), (9, .int x9)] [] := by
  have o13 := C.hL.at 13 (ci := 6) rfl
  unfold f_X6_reckon_85 at h
  refine az_aload_n C 0 dX6_reckon_85 rfl ?_
  refine az_getr (r := 14) C o13 fl_X6_9 rfl rfl dX6_reckon_86 ?_
  refine az_iload C 4 dX6_reckon_89 rfl ?_
  refine az_iload C 6 dX6_reckon_91 rfl ?_
  refine az_if_ne C 101 dX6_reckon_93 (by decide) (fun c24 => ?_) (fun c24 => ?_)
  · have h := az_f c24 h
    refine az_aload C 2 dX6_reckon_101 rfl ?_
    refine az_iload C 7 dX6_reckon_103 rfl ?_
    obtain ⟨g25, h⟩ := az_g h
    refine az_ild (k := x9.toNatClampNeg) C ha3 g25 rfl dX6_reckon_105 ?_
    refine az_sub [0, 1, 2, 3, 4, 5] rfl ?_
    exact s_X6_reckon_106 C G a0 ha0 a3 ha3 K19 hK19 x3 x6 x7 (M.1 a3 x9.toNatClampNeg) x6 M r h hp
  · have h := az_t c24 h
    refine az_iload C 7 dX6_reckon_96 rfl ?_
    refine az_goto C 106 dX6_reckon_98 (by decide) ?_
    refine az_sub [0, 1, 2, 3, 4, 5] rfl ?_
    exact s_X6_reckon_106 C G a0 ha0 a3 ha3 K19 hK19 x3 x6 x7 x9 x6 M r h hp
set_option maxHeartbeats 4000000 in
set_option maxRecDepth 100000 in
theorem s_X6_reckon_229 {Y : az_Y} {V : az_V} {post : Option Value → az_M → Prop} (C : az_C Y V cX6_reckon 12 RX6 (some .int) 2) (G : Nat) (a0 : Nat) (ha0 : az_tx V a0) (a3 : Nat) (ha3 : az_ai V a3) (K19 : (Int32 → Int32 → Int32 → az_M → Option (Int32 × az_M))) (hK19 : ∀ (x3 : Int32) (x6 : Int32) (x7 : Int32) (M : az_M) (r : (Int32 × az_M)), K19 x3 x6 x7 M = some r → post (some (.int r.1)) r.2 → AW Y V (az_end Y V post) 12 M 19 [(0, .ref (az_ad V 13)), (3, .int x3), (4, .ref (az_ad V a3)), (5, .ref (az_ad V (a0 + 1))), (6, .int x6), (7, .int x7)] []) (x3 : Int32) (x6 : Int32) (x7 : Int32) (M : az_M) (r : (Int32 × az_M)) (h : f_X6_reckon_229 (az_z V) G a0 a3 K19 x3 x6 x7 M = some r) (hp : post (some (.int r.1)) r.2) : AW Y V (az_end Y V post) 12 M 229 [(0, .ref (az_ad V 13)), (3, .int x3), (4, .ref (az_ad V a3)), (5, .ref (az_ad V (a0 + 1))), (6, .int x6), (7, .int x7)] [] := by
  unfold f_X6_reckon_229 at h
  refine az_goto C 302 dX6_reckon_229 (by decide) ?_
  exact s_X6_reckon_302 C G a0 ha0 a3 ha3 K19 hK19 x3 x6 x7 M r h hp
set_option maxHeartbeats 4000000 in
set_option maxRecDepth 100000 in
theorem s_X6_reckon_203 {Y : az_Y} {V : az_V} {post : Option Value → az_M → Prop} (C : az_C Y V cX6_reckon 12 RX6 (some .int) 2) (G : Nat) (a0 : Nat) (ha0 : az_tx V a0) (a3 : Nat) (ha3 : az_ai V a3) (K19 : (Int32 → Int32 → Int32 → az_M → Option (Int32 × az_M))) (hK19 : ∀ (x3 : Int32) (x6 : Int32) (x7 : Int32) (M : az_M) (r : (Int32 × az_M)), K19 x3 x6 x7 M = some r → post (some (.int r.1)) r.2 → AW Y V (az_end Y V post) 12 M 19 [(0, .ref (az_ad V 13)), (3, .int x3), (4, .ref (az_ad V a3)), (5, .ref (az_ad V (a0 + 1))), (6, .int x6), (7, .int x7)] []) (x3 : Int32) (x6 : Int32) (x7 : Int32) (x9 : Int32) (s0 : Int32) (M : az_M) (r : (Int32 × az_M)) (h : f_X6_reckon_203 (az_z V) G a0 a3 K19 x3 x6 x7 x9 s0 M = some r) (hp : post (some (.int r.1)) r.2) : AW Y V (az_end Y V post) 12 M 203 [(0, .ref (az_ad V 13)), (3, .int x3), (4, .ref (az_ad V a3)), (5, .ref (az_ad V (a0 + 1))), (6, .int x6), (7, .int x7), (9, .int x9)] [.int s0] := by
  unfold f_X6_reckon_203 at h
  refine az_istore C dX6_reckon_203 (by decide) rfl ?_
  refine az_iload C 0 dX6_reckon_205 rfl ?_
  refine az_if_ne C 216 dX6_reckon_207 (by decide) (fun c31 => ?_) (fun c31 => ?_)
  · have h := az_f c31 h
    refine az_iload C 7 dX6_reckon_216 rfl ?_
    refine az_iload C 6 dX6_reckon_218 rfl ?_
    refine az_icmp_le C 229 dX6_reckon_220 (by decide) (fun c32 => ?_) (fun c32 => ?_)
    · have h := az_t c32 h
      refine az_sub [1, 2, 3, 4, 5, 6] rfl ?_
      exact s_X6_reckon_229 C G a0 ha0 a3 ha3 K19 hK19 x3 x6 x7 M r h hp
    · have h := az_f c32 h
      refine az_iload C 7 dX6_reckon_223 rfl ?_
      refine az_iconst (v := 1) C dX6_reckon_225 (by decide) ?_
      refine az_isub C dX6_reckon_226 ?_
      refine az_istore C dX6_reckon_227 (by decide) rfl ?_
      refine az_sub [2, 3, 4, 5, 6, 0] rfl ?_
      exact s_X6_reckon_229 C G a0 ha0 a3 ha3 K19 hK19 x3 x6 (x9 - 1) M r h hp
  · have h := az_t c31 h
    refine az_iinc (v := (x6 + (-1))) C 5 dX6_reckon_210 rfl rfl (by decide) rfl ?_
    refine az_goto C 229 dX6_reckon_213 (by decide) ?_
    refine az_sub [2, 3, 4, 5, 0, 6] rfl ?_
    exact s_X6_reckon_229 C G a0 ha0 a3 ha3 K19 hK19 x3 (x6 + (-1)) x7 M r h hp
set_option maxHeartbeats 4000000 in
set_option maxRecDepth 100000 in
theorem s_X6_reckon_195 {Y : az_Y} {V : az_V} {post : Option Value → az_M → Prop} (C : az_C Y V cX6_reckon 12 RX6 (some .int) 2) (G : Nat) (a0 : Nat) (ha0 : az_tx V a0) (a3 : Nat) (ha3 : az_ai V a3) (K19 : (Int32 → Int32 → Int32 → az_M → Option (Int32 × az_M))) (hK19 : ∀ (x3 : Int32) (x6 : Int32) (x7 : Int32) (M : az_M) (r : (Int32 × az_M)), K19 x3 x6 x7 M = some r → post (some (.int r.1)) r.2 → AW Y V (az_end Y V post) 12 M 19 [(0, .ref (az_ad V 13)), (3, .int x3), (4, .ref (az_ad V a3)), (5, .ref (az_ad V (a0 + 1))), (6, .int x6), (7, .int x7)] []) (x3 : Int32) (x6 : Int32) (x7 : Int32) (x9 : Int32) (s0 : Int32) (s1 : Int32) (M : az_M) (r : (Int32 × az_M)) (h : f_X6_reckon_195 (az_z V) G a0 a3 K19 x3 x6 x7 x9 s0 s1 M = some r) (hp : post (some (.int r.1)) r.2) : AW Y V (az_end Y V post) 12 M 195 [(0, .ref (az_ad V 13)), (3, .int x3), (4, .ref (az_ad V a3)), (5, .ref (az_ad V (a0 + 1))), (6, .int x6), (7, .int x7), (9, .int x9)] [.int s0, .int s1] := by
  unfold f_X6_reckon_195 at h
  refine az_icmp_ne C 202 dX6_reckon_195 (by decide) (fun c30 => ?_) (fun c30 => ?_)
  · have h := az_f c30 h
    refine az_iconst (v := 0) C dX6_reckon_202 (by decide) ?_
    exact s_X6_reckon_203 C G a0 ha0 a3 ha3 K19 hK19 x3 x6 x7 x9 0 M r h hp
  · have h := az_t c30 h
    refine az_iconst (v := 1) C dX6_reckon_198 (by decide) ?_
    refine az_goto C 203 dX6_reckon_199 (by decide) ?_
    exact s_X6_reckon_203 C G a0 ha0 a3 ha3 K19 hK19 x3 x6 x7 x9 1 M r h hp
set_option maxHeartbeats 4000000 in
set_option maxRecDepth 100000 in
theorem s_X6_reckon_183 {Y : az_Y} {V : az_V} {post : Option Value → az_M → Prop} (C : az_C Y V cX6_reckon 12 RX6 (some .int) 2) (G : Nat) (a0 : Nat) (ha0 : az_tx V a0) (a3 : Nat) (ha3 : az_ai V a3) (K19 : (Int32 → Int32 → Int32 → az_M → Option (Int32 × az_M))) (hK19 : ∀ (x3 : Int32) (x6 : Int32) (x7 : Int32) (M : az_M) (r : (Int32 × az_M)), K19 x3 x6 x7 M = some r → post (some (.int r.1)) r.2 → AW Y V (az_end Y V post) 12 M 19 [(0, .ref (az_ad V 13)), (3, .int x3), (4, .ref (az_ad V a3)), (5, .ref (az_ad V (a0 + 1))), (6, .int x6), (7, .int x7)] []) (x3 : Int32) (x6 : Int32) (x7 : Int32) (x8 : Int32) (x9 : Int32) (s0 : Int32) (M : az_M) (r : (Int32 × az_M)) (h : f_X6_reckon_183 (az_z V) G a0 a3 K19 x3 x6 x7 x8 x9 s0 M = some r) (hp : post (some (.int r.1)) r.2) : AW Y V (az_end Y V post) 12 M 183 [(0, .ref (az_ad V 13)), (3, .int x3), (4, .ref (az_ad V a3)), (5, .ref (az_ad V (a0 + 1))), (6, .int x6), (7, .int x7), (8, .int x8), (9, .int x9)] [.int s0] := by
  unfold f_X6_reckon_183 at h
  refine az_iload C 6 dX6_reckon_183 rfl ?_
  refine az_bipush (v := 11) C dX6_reckon_185 (by decide) ?_
  refine az_icmp_ne C 194 dX6_reckon_187 (by decide) (fun c29 => ?_) (fun c29 => ?_)
  · have h := az_f c29 h
    refine az_iconst (v := 0) C dX6_reckon_194 (by decide) ?_
    refine az_sub [0, 1, 2, 3, 4, 5, 7] rfl ?_
    exact s_X6_reckon_195 C G a0 ha0 a3 ha3 K19 hK19 x3 x6 x7 x9 0 s0 M r h hp
  · have h := az_t c29 h
    refine az_iconst (v := 1) C dX6_reckon_190 (by decide) ?_
    refine az_goto C 195 dX6_reckon_191 (by decide) ?_
    refine az_sub [0, 1, 2, 3, 4, 5, 7] rfl ?_
    exact s_X6_reckon_195 C G a0 ha0 a3 ha3 K19 hK19 x3 x6 x7 x9 1 s0 M r h hp
set_option maxHeartbeats 4000000 in
set_option maxRecDepth 100000 in
theorem s_X6_reckon_166 {Y : az_Y} {V : az_V} {post : Option Value → az_M → Prop} (C : az_C Y V cX6_reckon 12 RX6 (some .int) 2) (G : Nat) (a0 : Nat) (ha0 : az_tx V a0) (a3 : Nat) (ha3 : az_ai V a3) (K19 : (Int32 → Int32 → Int32 → az_M → Option (Int32 × az_M))) (hK19 : ∀ (x3 : Int32) (x6 : Int32) (x7 : Int32) (M : az_M) (r : (Int32 × az_M)), K19 x3 x6 x7 M = some r → post (some (.int r.1)) r.2 → AW Y V (az_end Y V post) 12 M 19 [(0, .ref (az_ad V 13)), (3, .int x3), (4, .ref (az_ad V a3)), (5, .ref (az_ad V (a0 + 1))), (6, .int x6), (7, .int x7)] []) (x3 : Int32) (x6 : Int32) (x7 : Int32) (x8 : Int32) (x9 : Int32) (M : az_M) (r : (Int32 × az_M)) (h : f_X6_reckon_166 (az_z V) G a0 a3 K19 x3 x6 x7 x8 x9 M = some r) (hp : post (some (.int r.1)) r.2) : AW Y V (az_end Y V post) 12 M 166 [(0, .ref (az_ad V 13)), (3, .int x3), (4, .ref (az_ad V a3)), (5, .ref (az_ad V (a0 + 1))), (6, .int x6), (7, .int x7), (8, .int x8), (9, .int x9)] [] := by
  have o13 := C.hL.at 13 (ci := 6) rfl
  have a14 := C.hL.ar 14 (t := 0) (len := 51) rfl
  unfold f_X6_reckon_166 at h
  refine az_aload_n C 0 dX6_reckon_166 rfl ?_
  refine az_getr (r := 14) C o13 fl_X6_9 rfl rfl dX6_reckon_167 ?_
  refine az_iload C 4 dX6_reckon_170 rfl ?_
  refine az_iconst (v := 1) C dX6_reckon_172 (by decide) ?_
  refine az_isub C dX6_reckon_173 ?_
  obtain ⟨g27, h⟩ := az_g h
  refine az_ild (k := (x6 - 1).toNatClampNeg) C a14 g27 rfl dX6_reckon_174 ?_
  refine az_if_eq C 182 dX6_reckon_175 (by decide) (fun c28 => ?_) (fun c28 => ?_)
  · have h := az_t c28 h
    refine az_iconst (v := 0) C dX6_reckon_182 (by decide) ?_
    exact s_X6_reckon_183 C G a0 ha0 a3 ha3 K19 hK19 x3 x6 x7 x8 x9 0 M r h hp
  · have h := az_f c28 h
    refine az_iconst (v := 1) C dX6_reckon_178 (by decide) ?_
    refine az_goto C 183 dX6_reckon_179 (by decide) ?_
    exact s_X6_reckon_183 C G a0 ha0 a3 ha3 K19 hK19 x3 x6 x7 x8 x9 1 M r h hp
set_option maxHeartbeats 4000000 in
set_option maxRecDepth 100000 in
theorem s_X6_reckon_287 {Y : az_Y} {V : az_V} {post : Option Value → az_M → Prop} (C : az_C Y V cX6_reckon 12 RX6 (some .int) 2) (G : Nat) (a0 : Nat) (ha0 : az_tx V a0) (a3 : Nat) (ha3 : az_ai V a3)  (M : az_M) (r : (Int32 × az_M)) (h : f_X6_reckon_287 (az_z V) G a0 a3 M = some r) (hp : post (some (.int r.1)) r.2) : AW Y V (az_end Y V post) 12 M 287 [] [] := by
  unfold f_X6_reckon_287 at h
  refine az_ldc C ck_X6_20 dX6_reckon_287 ?_
  obtain rfl := Option.some.inj h
  exact az_iret C dX6_reckon_289 hp
set_option maxHeartbeats 4000000 in
set_option maxRecDepth 100000 in
theorem s_X6_reckon_325 {Y : az_Y} {V : az_V} {post : Option Value → az_M → Prop} (C : az_C Y V cX6_reckon 12 RX6 (some .int) 2) (G : Nat) (a0 : Nat) (ha0 : az_tx V a0) (a3 : Nat) (ha3 : az_ai V a3) (s0 : Int32) (M : az_M) (r : (Int32 × az_M)) (h : f_X6_reckon_325 (az_z V) G a0 a3 s0 M = some r) (hp : post (some (.int r.1)) r.2) : AW Y V (az_end Y V post) 12 M 325 [] [.int s0] := by
  unfold f_X6_reckon_325 at h
  obtain rfl := Option.some.inj h
  exact az_iret C dX6_reckon_325 hp
set_option maxHeartbeats 4000000 in
set_option maxRecDepth 100000 in
theorem s_X6_reckon_308 {Y : az_Y} {V : az_V} {post : Option Value → az_M → Prop} (C : az_C Y V cX6_reckon 12 RX6 (some .int) 2) (G : Nat) (a0 : Nat) (ha0 : az_tx V a0) (a3 : Nat) (ha3 : az_ai V a3) (x6 : Int32) (M : az_M) (r : (Int32 × az_M)) (h : f_X6_reckon_308 (az_z V) G a0 a3 x6 M = some r) (hp : post (some (.int r.1)) r.2) : AW Y V (az_end Y V post) 12 M 308 [(0, .ref (az_ad V 13)), (6, .int x6)] [] := by
  have o13 := C.hL.at 13 (ci := 6) rfl
  have a14 := C.hL.ar 14 (t := 0) (len := 51) rfl
  unfold f_X6_reckon_308 at h
  refine az_iload C 1 dX6_reckon_308 rfl ?_
  refine az_iconst (v := 1) C dX6_reckon_310 (by decide) ?_
  refine az_icmp_ne C 323 dX6_reckon_311 (by decide) (fun c33 => ?_) (fun c33 => ?_)
  · have h := az_f c33 h
    refine az_ldc C ck_X6_20 dX6_reckon_323 ?_
    refine az_sub [] rfl ?_
    exact s_X6_reckon_325 C G a0 ha0 a3 ha3 (-2147483648) M r h hp
  · have h := az_t c33 h
    refine az_aload_n C 0 dX6_reckon_314 rfl ?_
    refine az_getr (r := 14) C o13 fl_X6_9 rfl rfl dX6_reckon_315 ?_
    refine az_iconst (v := 0) C dX6_reckon_318 (by decide) ?_
    refine az_ild (k := 0) C a14 (az_vin (by decide)) (by decide) dX6_reckon_319 ?_
    refine az_goto C 325 dX6_reckon_320 (by decide) ?_
    refine az_sub [] rfl ?_
    exact s_X6_reckon_325 C G a0 ha0 a3 ha3 (M.1 14 0) M r h hp
set_option maxHeartbeats 4000000 in
set_option maxRecDepth 100000 in
theorem s_X6_reckon_19 {Y : az_Y} {V : az_V} {post : Option Value → az_M → Prop} (C : az_C Y V cX6_reckon 12 RX6 (some .int) 2) (G : Nat) (a0 : Nat) (ha0 : az_tx V a0) (a3 : Nat) (ha3 : az_ai V a3) : ∀ (F : Nat) (x3 : Int32) (x6 : Int32) (x7 : Int32) (M : az_M) (r : (Int32 × az_M)), f_X6_reckon_19 (az_z V) G a0 a3 F x3 x6 x7 M = some r → post (some (.int r.1)) r.2 → AW Y V (az_end Y V post) 12 M 19 [(0, .ref (az_ad V 13)), (3, .int x3), (4, .ref (az_ad V a3)), (5, .ref (az_ad V (a0 + 1))), (6, .int x6), (7, .int x7)] [] := by
  have o13 := C.hL.at 13 (ci := 6) rfl
  have a14 := C.hL.ar 14 (t := 0) (len := 51) rfl
  intro F
  induction F with
  | zero =>
    intro x3 x6 x7 M r h
    exact absurd (show (none : Option (Int32 × az_M)) = some r from h) (fun q => by cases q)
  | succ F ih =>
    intro x3 x6 x7 M r h hp
    rw [f_X6_reckon_19] at h
    refine az_iload C 5 dX6_reckon_19 rfl ?_
    refine az_iload_n C 1 dX6_reckon_21 rfl ?_
    refine az_icmp_ge C 308 dX6_reckon_22 (by decide) (fun c2 => ?_) (fun c2 => ?_)
    · have h := az_t c2 h
      refine az_sub [0, 4] rfl ?_
      exact s_X6_reckon_308 C G a0 ha0 a3 ha3 x6 M r h hp
    · have h := az_f c2 h
      refine az_iload C 5 dX6_reckon_25 rfl ?_
      refine az_aload C 3 dX6_reckon_27 rfl ?_
      refine az_alen C ha0.2.1 rfl rfl dX6_reckon_29 ?_
      refine az_icmp_ge C 308 dX6_reckon_30 (by decide) (fun c3 => ?_) (fun c3 => ?_)
      · have h := az_t c3 h
        refine az_sub [0, 4] rfl ?_
        exact s_X6_reckon_308 C G a0 ha0 a3 ha3 x6 M r h hp
      · have h := az_f c3 h
        refine az_aload C 3 dX6_reckon_33 rfl ?_
        refine az_iload C 5 dX6_reckon_35 rfl ?_
        obtain ⟨g4, h⟩ := az_g h
        refine az_ild (k := x7.toNatClampNeg) C ha0.2.1 g4 rfl dX6_reckon_37 ?_
        refine az_bipush (v := 15) C dX6_reckon_38 (by decide) ?_
        refine az_iand C dX6_reckon_40 ?_
        refine az_istore C dX6_reckon_41 (by decide) rfl ?_
        refine az_aload C 4 dX6_reckon_43 rfl ?_
        refine az_iload C 6 dX6_reckon_45 rfl ?_
        obtain ⟨g5, h⟩ := az_g h
        refine az_ild (k := x7.toNatClampNeg) C ha0.2.1 g5 rfl dX6_reckon_47 ?_
        refine az_iconst (v := 4) C dX6_reckon_48 (by decide) ?_
        refine az_ishr C dX6_reckon_49 ?_
        refine az_istore C dX6_reckon_50 (by decide) rfl ?_
        refine az_iload C 1 dX6_reckon_52 rfl ?_
        refine az_iconst (v := 1) C dX6_reckon_54 (by decide) ?_
        refine az_icmp_gt C 113 dX6_reckon_55 (by decide) (fun c6 => ?_) (fun c6 => ?_)
        · have h := az_t c6 h
          refine az_iload C 6 dX6_reckon_113 rfl ?_
          refine az_iconst (v := 1) C dX6_reckon_115 (by decide) ?_
          refine az_icmp_ge C 122 dX6_reckon_116 (by decide) (fun c7 => ?_) (fun c7 => ?_)
          · have h := az_t c7 h
            refine az_iload C 1 dX6_reckon_122 rfl ?_
            refine az_bipush (v := 10) C dX6_reckon_124 (by decide) ?_
            refine az_icmp_ne C 152 dX6_reckon_126 (by decide) (fun c8 => ?_) (fun c8 => ?_)
            · have h := az_f c8 h
              refine az_iload C 1 dX6_reckon_152 rfl ?_
              refine az_bipush (v := 11) C dX6_reckon_154 (by decide) ?_
              refine az_icmp_eq C 166 dX6_reckon_156 (by decide) (fun c9 => ?_) (fun c9 => ?_)
              · have h := az_t c9 h
                refine az_sub [2, 3, 4, 5, 6, 7, 1, 0] rfl ?_
                exact s_X6_reckon_166 C G a0 ha0 a3 ha3 (f_X6_reckon_19 (az_z V) G a0 a3 F) ih x3 x6 x7 ((M.1 (a0 + 1) x7.toNatClampNeg) &&& 15) ((M.1 (a0 + 1) x7.toNatClampNeg) >>> (4 &&& 31)) M r h hp
              · have h := az_f c9 h
                refine az_iload C 1 dX6_reckon_159 rfl ?_
                refine az_bipush (v := 12) C dX6_reckon_161 (by decide) ?_
                refine az_icmp_ne C 232 dX6_reckon_163 (by decide) (fun c10 => ?_) (fun c10 => ?_)
                · have h := az_f c10 h
                  refine az_iload C 6 dX6_reckon_232 rfl ?_
                  refine az_iconst (v := 2) C dX6_reckon_234 (by decide) ?_
                  refine az_icmp_ge C 241 dX6_reckon_235 (by decide) (fun c11 => ?_) (fun c11 => ?_)
                  · have h := az_t c11 h
                    refine az_iinc (v := (x6 + (-1))) C 6 dX6_reckon_241 rfl rfl (by decide) rfl ?_
                    refine az_iload C 2 dX6_reckon_244 rfl ?_
                    refine az_aload_n C 3 dX6_reckon_246 rfl ?_
                    refine az_getr (r := 14) C o13 fl_X6_9 rfl rfl dX6_reckon_247 ?_
                    refine az_iload C 0 dX6_reckon_250 rfl ?_
                    refine az_iconst (v := 1) C dX6_reckon_252 (by decide) ?_
                    refine az_isub C dX6_reckon_253 ?_
                    obtain ⟨g12, h⟩ := az_g h
                    refine az_ild (k := ((x6 + (-1)) - 1).toNatClampNeg) C a14 g12 rfl dX6_reckon_254 ?_
                    refine az_i2l C dX6_reckon_255 ?_
                    refine az_aload_n C 3 dX6_reckon_256 rfl ?_
                    refine az_getr (r := 14) C o13 fl_X6_9 rfl rfl dX6_reckon_257 ?_
                    refine az_iload C 0 dX6_reckon_260 rfl ?_
                    obtain ⟨g13, h⟩ := az_g h
                    refine az_ild (k := (x6 + (-1)).toNatClampNeg) C a14 g13 rfl dX6_reckon_262 ?_
                    refine az_i2l C dX6_reckon_263 ?_
                    obtain ⟨q14, e15, h⟩ := az_b h
                    refine az_cS (rest := []) (st2 := [.long q14]) C [.int ((M.1 (a0 + 1) x7.toNatClampNeg) &&& 15), .long ((M.1 14 (((x6 + (-1)) - 1).toNatClampNeg)).toInt64), .long ((M.1 14 ((x6 + (-1)).toNatClampNeg)).toInt64)] (c_X6_join C.hL ((M.1 (a0 + 1) x7.toNatClampNeg) &&& 15) ((M.1 14 (((x6 + (-1)) - 1).toNatClampNeg)).toInt64) ((M.1 14 ((x6 + (-1)).toNatClampNeg)).toInt64) M e15) (by decide) li_X6_21 rfl rfl (Nat.le_of_ble_eq_true rfl) dX6_reckon_264 rfl ?_
                    refine az_lstore C dX6_reckon_267 (by decide) rfl ?_
                    refine az_lload C 0 dX6_reckon_269 rfl ?_
                    refine az_ldc2 C ck_X6_25 dX6_reckon_271 ?_
                    refine az_lcmp C dX6_reckon_274 ?_
                    refine az_if_gt C 287 dX6_reckon_275 (by decide) (fun c16 => ?_) (fun c16 => ?_)
                    · have h := az_t (az_c_gt.mp c16) h
                      refine az_sub [] rfl ?_
                      exact s_X6_reckon_287 C G a0 ha0 a3 ha3 M r h hp
                    · have h := az_f (fun z => c16 (az_c_gt.mpr z)) h
                      refine az_lload C 0 dX6_reckon_278 rfl ?_
                      refine az_ldc2 C ck_X6_27 dX6_reckon_280 ?_
                      refine az_lcmp C dX6_reckon_283 ?_
                      refine az_if_ge C 290 dX6_reckon_284 (by decide) (fun c17 => ?_) (fun c17 => ?_)
                      · have h := az_t (az_c_ge.mp c17) h
                        refine az_aload_n C 4 dX6_reckon_290 rfl ?_
                        refine az_getr (r := 14) C o13 fl_X6_9 rfl rfl dX6_reckon_291 ?_
                        refine az_iload C 1 dX6_reckon_294 rfl ?_
                        refine az_iconst (v := 1) C dX6_reckon_296 (by decide) ?_
                        refine az_isub C dX6_reckon_297 ?_
                        refine az_lload C 0 dX6_reckon_298 rfl ?_
                        refine az_l2i C dX6_reckon_300 ?_
                        obtain ⟨g18, h⟩ := az_g h
                        refine az_ist (k := ((x6 + (-1)) - 1).toNatClampNeg) C a14 g18 rfl dX6_reckon_301 ?_
                        refine az_sub [4, 5, 6, 7, 1, 8] rfl ?_
                        exact s_X6_reckon_302 C G a0 ha0 a3 ha3 (f_X6_reckon_19 (az_z V) G a0 a3 F) ih x3 (x6 + (-1)) x7 (az_i M 14 (((x6 + (-1)) - 1).toNatClampNeg) q14.toInt32) r h hp
                      · have h := az_f (fun z => c17 (az_c_ge.mpr z)) h
                        refine az_sub [] rfl ?_
                        exact s_X6_reckon_287 C G a0 ha0 a3 ha3 M r h hp
                  · have h := az_f c11 h
                    refine az_ldc C ck_X6_20 dX6_reckon_238 ?_
                    obtain rfl := Option.some.inj h
                    exact az_iret C dX6_reckon_240 hp
                · have h := az_t c10 h
                  refine az_sub [2, 3, 4, 5, 6, 7, 1, 0] rfl ?_
                  exact s_X6_reckon_166 C G a0 ha0 a3 ha3 (f_X6_reckon_19 (az_z V) G a0 a3 F) ih x3 x6 x7 ((M.1 (a0 + 1) x7.toNatClampNeg) &&& 15) ((M.1 (a0 + 1) x7.toNatClampNeg) >>> (4 &&& 31)) M r h hp
            · have h := az_t c8 h
              refine az_aload_n C 2 dX6_reckon_129 rfl ?_
              refine az_getr (r := 14) C o13 fl_X6_9 rfl rfl dX6_reckon_130 ?_
              refine az_iload C 6 dX6_reckon_133 rfl ?_
              refine az_iconst (v := 1) C dX6_reckon_135 (by decide) ?_
              refine az_isub C dX6_reckon_136 ?_
              refine az_iconst (v := 1) C dX6_reckon_137 (by decide) ?_
              refine az_aload_n C 2 dX6_reckon_138 rfl ?_
              refine az_getr (r := 14) C o13 fl_X6_9 rfl rfl dX6_reckon_139 ?_
              refine az_iload C 6 dX6_reckon_142 rfl ?_
              refine az_iconst (v := 1) C dX6_reckon_144 (by decide) ?_
              refine az_isub C dX6_reckon_145 ?_
              obtain ⟨g19, h⟩ := az_g h
              refine az_ild (k := (x6 - 1).toNatClampNeg) C a14 g19 rfl dX6_reckon_146 ?_
              refine az_isub C dX6_reckon_147 ?_
              obtain ⟨g20, h⟩ := az_g h
              refine az_ist (k := (x6 - 1).toNatClampNeg) C a14 g20 rfl dX6_reckon_148 ?_
              refine az_goto C 302 dX6_reckon_149 (by decide) ?_
              refine az_sub [2, 3, 4, 5, 6, 7] rfl ?_
              exact s_X6_reckon_302 C G a0 ha0 a3 ha3 (f_X6_reckon_19 (az_z V) G a0 a3 F) ih x3 x6 x7 (az_i M 14 ((x6 - 1).toNatClampNeg) (1 - (M.1 14 ((x6 - 1).toNatClampNeg)))) r h hp
          · have h := az_f c7 h
            refine az_ldc C ck_X6_20 dX6_reckon_119 ?_
            obtain rfl := Option.some.inj h
            exact az_iret C dX6_reckon_121 hp
        · have h := az_f c6 h
          refine az_iload C 6 dX6_reckon_58 rfl ?_
          refine az_aload_n C 2 dX6_reckon_60 rfl ?_
          refine az_getr (r := 14) C o13 fl_X6_9 rfl rfl dX6_reckon_61 ?_
          refine az_alen (v := 51) C a14 rfl (by decide) dX6_reckon_64 ?_
          refine az_icmp_ge C 82 dX6_reckon_65 (by decide) (fun c21 => ?_) (fun c21 => ?_)
          · have h := az_t c21 h
            refine az_sub [] rfl ?_
            exact s_X6_reckon_82 C G a0 ha0 a3 ha3 M r h hp
          · have h := az_f c21 h
            refine az_iload C 1 dX6_reckon_68 rfl ?_
            refine az_iconst (v := 1) C dX6_reckon_70 (by decide) ?_
            refine az_icmp_ne C 85 dX6_reckon_71 (by decide) (fun c22 => ?_) (fun c22 => ?_)
            · have h := az_f c22 h
              refine az_sub [2, 3, 4, 5, 6, 7, 1, 0] rfl ?_
              exact s_X6_reckon_85 C G a0 ha0 a3 ha3 (f_X6_reckon_19 (az_z V) G a0 a3 F) ih x3 x6 x7 ((M.1 (a0 + 1) x7.toNatClampNeg) &&& 15) ((M.1 (a0 + 1) x7.toNatClampNeg) >>> (4 &&& 31)) M r h hp
            · have h := az_t c22 h
              refine az_iload C 0 dX6_reckon_74 rfl ?_
              refine az_aload C 4 dX6_reckon_76 rfl ?_
              refine az_alen C ha3 rfl rfl dX6_reckon_78 ?_
              refine az_icmp_lt C 85 dX6_reckon_79 (by decide) (fun c23 => ?_) (fun c23 => ?_)
              · have h := az_t c23 h
                refine az_sub [2, 3, 4, 5, 6, 7, 1, 0] rfl ?_
                exact s_X6_reckon_85 C G a0 ha0 a3 ha3 (f_X6_reckon_19 (az_z V) G a0 a3 F) ih x3 x6 x7 ((M.1 (a0 + 1) x7.toNatClampNeg) &&& 15) ((M.1 (a0 + 1) x7.toNatClampNeg) >>> (4 &&& 31)) M r h hp
              · have h := az_f c23 h
                refine az_sub [] rfl ?_
                exact s_X6_reckon_82 C G a0 ha0 a3 ha3 M r h hp
set_option maxHeartbeats 4000000 in
set_option maxRecDepth 100000 in
theorem s_X6_reckon_e {Y : az_Y} {V : az_V} {post : Option Value → az_M → Prop} (C : az_C Y V cX6_reckon 12 RX6 (some .int) 2) (G : Nat) (a0 : Nat) (ha0 : az_tx V a0) (a3 : Nat) (ha3 : az_ai V a3) (p1 : Int32) (p2 : Int32) (M : az_M) (r : (Int32 × az_M)) (h : f_X6_reckon (az_z V) G a0 a3 p1 p2 M = some r) (hp : post (some (.int r.1)) r.2) : AW Y V (az_end Y V post) 12 M 0 [(0, .ref (az_ad V 13)), (1, .ref (az_ad V a0)), (2, .int p1), (3, .int p2), (4, .ref (az_ad V a3))] [] := by
  unfold f_X6_reckon at h
  refine az_iload_n C 2 dX6_reckon_0 rfl ?_
  refine az_iload_n C 3 dX6_reckon_1 rfl ?_
  refine az_icmp_lt C 7 dX6_reckon_2 (by decide) (fun c1 => ?_) (fun c1 => ?_)
  · have h := az_t c1 h
    refine az_aload_n C 1 dX6_reckon_7 rfl ?_
    refine az_getr (r := (a0 + 1)) C ha0.1 fl_X6_15 rfl rfl dX6_reckon_8 ?_
    refine az_astore C dX6_reckon_11 (by decide) rfl ?_
    refine az_iconst (v := 0) C dX6_reckon_13 (by decide) ?_
    refine az_istore C dX6_reckon_14 (by decide) rfl ?_
    refine az_iload_n C 4 dX6_reckon_16 rfl ?_
    refine az_istore C dX6_reckon_17 (by decide) rfl ?_
    refine az_sub [3, 6, 7, 2, 1, 0] rfl ?_
    exact s_X6_reckon_19 C G a0 ha0 a3 ha3 G p2 0 p1 M r h hp
  · have h := az_f c1 h
    refine az_iconst (v := 1) C dX6_reckon_5 (by decide) ?_
    obtain rfl := Option.some.inj h
    exact az_iret C dX6_reckon_6 hp
theorem c_X6_reckon {l : Launch} {V : az_V} (hL : az_L V) (G : Nat) (a0 : Nat) (ha0 : az_tx V a0) (a3 : Nat) (ha3 : az_ai V a3) (p1 : Int32) (p2 : Int32) (M : az_M) {r : (Int32 × az_M)} (h : f_X6_reckon (az_z V) G a0 a3 p1 p2 M = some r) : az_Ct l V yX6_reckon cX6_reckon 12 (some .int) 2 [.ref (az_ad V 13), .ref (az_ad V a0), .int p1, .int p2, .ref (az_ad V a3)] M (fun v M' => v = some (.int r.1) ∧ M' = r.2) :=
  az_Ct.of (by decide) (Nat.le_of_ble_eq_true rfl) (fun Y _ _ C => s_X6_reckon_e C G a0 ha0 a3 ha3 p1 p2 M r h ⟨rfl, rfl⟩)
