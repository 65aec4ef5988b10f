set_option maxHeartbeats 4000000 in
set_option maxRecDepth 100000 in
theorem s_X12_reckon_90 {Y : az_Y} {V : az_V} {post : Option Value → az_M → Prop} (C : az_C Y V cX12_reckon 6 RX12 (some .long) 1) (s0 : Int64) (M : az_M) (r : (Int64 × az_M)) (h : f_X12_reckon_90 s0 M = some r) (hp : post (some (.long r.1)) r.2) : AW Y V (az_end Y V post) 6 M 90 [] [.long s0] := by
  unfold f_X12_reckon_90 at h
  obtain rfl := Option.some.inj h
  exact az_lret C dX12_reckon_90 hp
set_option maxHeartbeats 4000000 in
set_option maxRecDepth 100000 in
theorem s_X12_reckon_72 {Y : az_Y} {V : az_V} {post : Option Value → az_M → Prop} (C : az_C Y V cX12_reckon 6 RX12 (some .long) 1) (x2 : Int64) (x4 : Int64) (s0 : Int32) (M : az_M) (r : (Int64 × az_M)) (h : f_X12_reckon_72 x2 x4 s0 M = some r) (hp : post (some (.long r.1)) r.2) : AW Y V (az_end Y V post) 6 M 72 [(0, .ref (az_ad V 40)), (2, .long x2), (4, .long x4)] [.int s0, .ref (az_ad V 40)] := by
  have o40 := C.hL.at 40 (ci := 12) rfl
  unfold f_X12_reckon_72 at h
  obtain ⟨g16, h⟩ := az_g2 h
  refine az_puti C o40 fl_X12_415 rfl rfl (az_nz g16) (az_fz g16) dX12_reckon_72 ?_
  refine az_aload_n C 0 dX12_reckon_75 rfl ?_
  refine az_geti C o40 fl_X12_415 rfl dX12_reckon_76 ?_
  refine az_if_eq C 86 dX12_reckon_79 (by decide) (fun c17 => ?_) (fun c17 => ?_)
  · have h := az_t c17 h
    refine az_lload_n C 1 dX12_reckon_86 rfl ?_
    refine az_lload C 2 dX12_reckon_87 rfl ?_
    obtain ⟨g18, h⟩ := az_g h
    refine az_ldiv C dX12_reckon_89 g18 ?_
    refine az_sub [] rfl ?_
    exact s_X12_reckon_90 C (x2 / x4) (az_i M 40 38 s0) r h hp
  · have h := az_f c17 h
    refine az_lconst (v := 0) C dX12_reckon_82 (by decide) ?_
    refine az_goto C 90 dX12_reckon_83 (by decide) ?_
    refine az_sub [] rfl ?_
    exact s_X12_reckon_90 C 0 (az_i M 40 38 s0) r h hp
set_option maxHeartbeats 4000000 in
set_option maxRecDepth 100000 in
theorem s_X12_reckon_122 {Y : az_Y} {V : az_V} {post : Option Value → az_M → Prop} (C : az_C Y V cX12_reckon 6 RX12 (some .long) 1) (s0 : Int64) (M : az_M) (r : (Int64 × az_M)) (h : f_X12_reckon_122 s0 M = some r) (hp : post (some (.long r.1)) r.2) : AW Y V (az_end Y V post) 6 M 122 [] [.long s0] := by
  unfold f_X12_reckon_122 at h
  obtain rfl := Option.some.inj h
  exact az_lret C dX12_reckon_122 hp
set_option maxHeartbeats 4000000 in
set_option maxRecDepth 100000 in
theorem s_X12_reckon_104 {Y : az_Y} {V : az_V} {post : Option Value → az_M → Prop} (C : az_C Y V cX12_reckon 6 RX12 (some .long) 1) (x2 : Int64) (x4 : Int64) (s0 : Int32) (M : az_M) (r : (Int64 × az_M)) (h : f_X12_reckon_104 x2 x4 s0 M = some r) (hp : post (some (.long r.1)) r.2) : AW Y V (az_end Y V post) 6 M 104 [(0, .ref (az_ad V 40)), (2, .long x2), (4, .long x4)] [.int s0, .ref (az_ad V 40)] := by
  have o40 := C.hL.at 40 (ci := 12) rfl
  unfold f_X12_reckon_104 at h
  obtain ⟨g13, h⟩ := az_g2 h
  refine az_puti C o40 fl_X12_415 rfl rfl (az_nz g13) (az_fz g13) dX12_reckon_104 ?_
  refine az_aload_n C 0 dX12_reckon_107 rfl ?_
  refine az_geti C o40 fl_X12_415 rfl dX12_reckon_108 ?_
  refine az_if_eq C 118 dX12_reckon_111 (by decide) (fun c14 => ?_) (fun c14 => ?_)
  · have h := az_t c14 h
    refine az_lload_n C 1 dX12_reckon_118 rfl ?_
    refine az_lload C 2 dX12_reckon_119 rfl ?_
    obtain ⟨g15, h⟩ := az_g h
    refine az_lrem2 C dX12_reckon_121 g15 ?_
    refine az_sub [] rfl ?_
    exact s_X12_reckon_122 C (az_reml x2 x4) (az_i M 40 38 s0) r h hp
  · have h := az_f c14 h
    refine az_lconst (v := 0) C dX12_reckon_114 (by decide) ?_
    refine az_goto C 122 dX12_reckon_115 (by decide) ?_
    refine az_sub [] rfl ?_
    exact s_X12_reckon_122 C 0 (az_i M 40 38 s0) r h hp
set_option maxHeartbeats 4000000 in
set_option maxRecDepth 100000 in
theorem s_X12_reckon_135 {Y : az_Y} {V : az_V} {post : Option Value → az_M → Prop} (C : az_C Y V cX12_reckon 6 RX12 (some .long) 1) (s0 : Int64) (M : az_M) (r : (Int64 × az_M)) (h : f_X12_reckon_135 s0 M = some r) (hp : post (some (.long r.1)) r.2) : AW Y V (az_end Y V post) 6 M 135 [] [.long s0] := by
  unfold f_X12_reckon_135 at h
  obtain rfl := Option.some.inj h
  exact az_lret C dX12_reckon_135 hp
set_option maxHeartbeats 4000000 in
set_option maxRecDepth 100000 in
theorem s_X12_reckon_148 {Y : az_Y} {V : az_V} {post : Option Value → az_M → Prop} (C : az_C Y V cX12_reckon 6 RX12 (some .long) 1) (s0 : Int64) (M : az_M) (r : (Int64 × az_M)) (h : f_X12_reckon_148 s0 M = some r) (hp : post (some (.long r.1)) r.2) : AW Y V (az_end Y V post) 6 M 148 [] [.long s0] := by
  unfold f_X12_reckon_148 at h
  obtain rfl := Option.some.inj h
  exact az_lret C dX12_reckon_148 hp
set_option maxHeartbeats 4000000 in
set_option maxRecDepth 100000 in
theorem s_X12_reckon_161 {Y : az_Y} {V : az_V} {post : Option Value → az_M → Prop} (C : az_C Y V cX12_reckon 6 RX12 (some .long) 1) (s0 : Int64) (M : az_M) (r : (Int64 × az_M)) (h : f_X12_reckon_161 s0 M = some r) (hp : post (some (.long r.1)) r.2) : AW Y V (az_end Y V post) 6 M 161 [] [.long s0] := by
  unfold f_X12_reckon_161 at h
  obtain rfl := Option.some.inj h
  exact az_lret C dX12_reckon_161 hp
set_option maxHeartbeats 4000000 in
set_option maxRecDepth 100000 in
theorem s_X12_reckon_e {Y : az_Y} {V : az_V} {post : Option Value → az_M → Prop} (C : az_C Y V cX12_reckon 6 RX12 (some .long) 1) (p0 : Int32) (p1 : Int64) (p2 : Int64) (M : az_M) (r : (Int64 × az_M)) (h : f_X12_reckon p0 p1 p2 M = some r) (hp : post (some (.long r.1)) r.2) : AW Y V (az_end Y V post) 6 M 0 [(0, .ref (az_ad V 40)), (1, .int p0), (2, .long p1), (4, .long p2)] [] := by
  unfold f_X12_reckon at h
  refine az_iload_n C 1 dX12_reckon_0 rfl ?_
  by_cases c1 : p0 = 20
  · have h := az_t c1 h
    refine az_tabIn (off := 43) C 44 dX12_reckon_1 (by rw [c1]; decide) (by rw [c1]; decide) (by rw [c1]; decide) (by decide) ?_
    refine az_lload_n C 2 dX12_reckon_44 rfl ?_
    refine az_lload C 3 dX12_reckon_45 rfl ?_
    refine az_ladd C dX12_reckon_47 ?_
    obtain rfl := Option.some.inj h
    exact az_lret C dX12_reckon_48 hp
  have h := az_f c1 h
  have nc1 := lv_neT c1 (a := 20) (by decide)
  by_cases c2 : p0 = 21
  · have h := az_t c2 h
    refine az_tabIn (off := 48) C 49 dX12_reckon_1 (by rw [c2]; decide) (by rw [c2]; decide) (by rw [c2]; decide) (by decide) ?_
    refine az_lload_n C 2 dX12_reckon_49 rfl ?_
    refine az_lload C 3 dX12_reckon_50 rfl ?_
    refine az_lsub C dX12_reckon_52 ?_
    obtain rfl := Option.some.inj h
    exact az_lret C dX12_reckon_53 hp
  have h := az_f c2 h
  have nc2 := lv_neT c2 (a := 21) (by decide)
  by_cases c3 : p0 = 22
  · have h := az_t c3 h
    refine az_tabIn (off := 53) C 54 dX12_reckon_1 (by rw [c3]; decide) (by rw [c3]; decide) (by rw [c3]; decide) (by decide) ?_
    refine az_lload_n C 2 dX12_reckon_54 rfl ?_
    refine az_lload C 3 dX12_reckon_55 rfl ?_
    refine az_lmul C dX12_reckon_57 ?_
    obtain rfl := Option.some.inj h
    exact az_lret C dX12_reckon_58 hp
  have h := az_f c3 h
  have nc3 := lv_neT c3 (a := 22) (by decide)
  by_cases c4 : p0 = 23
  · have h := az_t c4 h
    refine az_tabIn (off := 58) C 59 dX12_reckon_1 (by rw [c4]; decide) (by rw [c4]; decide) (by rw [c4]; decide) (by decide) ?_
    refine az_aload_n C 0 dX12_reckon_59 rfl ?_
    refine az_lload C 3 dX12_reckon_60 rfl ?_
    refine az_lconst (v := 0) C dX12_reckon_62 (by decide) ?_
    refine az_lcmp C dX12_reckon_63 ?_
    refine az_if_ne C 71 dX12_reckon_64 (by decide) (fun c5 => ?_) (fun c5 => ?_)
    · have h := az_f (fun z => c5 (az_c_eq.mpr z)) h
      refine az_iconst (v := 0) C dX12_reckon_71 (by decide) ?_
      refine az_sub [0, 2, 3] rfl ?_
      exact s_X12_reckon_72 C p1 p2 0 M r h hp
    · have h := az_t (az_c_eq.mp c5) h
      refine az_iconst (v := 1) C dX12_reckon_67 (by decide) ?_
      refine az_goto C 72 dX12_reckon_68 (by decide) ?_
      refine az_sub [0, 2, 3] rfl ?_
      exact s_X12_reckon_72 C p1 p2 1 M r h hp
  have h := az_f c4 h
  have nc4 := lv_neT c4 (a := 23) (by decide)
  by_cases c6 : p0 = 24
  · have h := az_t c6 h
    refine az_tabIn (off := 90) C 91 dX12_reckon_1 (by rw [c6]; decide) (by rw [c6]; decide) (by rw [c6]; decide) (by decide) ?_
    refine az_aload_n C 0 dX12_reckon_91 rfl ?_
    refine az_lload C 3 dX12_reckon_92 rfl ?_
    refine az_lconst (v := 0) C dX12_reckon_94 (by decide) ?_
    refine az_lcmp C dX12_reckon_95 ?_
    refine az_if_ne C 103 dX12_reckon_96 (by decide) (fun c7 => ?_) (fun c7 => ?_)
    · have h := az_f (fun z => c7 (az_c_eq.mpr z)) h
      refine az_iconst (v := 0) C dX12_reckon_103 (by decide) ?_
      refine az_sub [0, 2, 3] rfl ?_
      exact s_X12_reckon_104 C p1 p2 0 M r h hp
    · have h := az_t (az_c_eq.mp c7) h
      refine az_iconst (v := 1) C dX12_reckon_99 (by decide) ?_
      refine az_goto C 104 dX12_reckon_100 (by decide) ?_
      refine az_sub [0, 2, 3] rfl ?_
      exact s_X12_reckon_104 C p1 p2 1 M r h hp
  have h := az_f c6 h
  have nc6 := lv_neT c6 (a := 24) (by decide)
  by_cases c8 : p0 = 25
  · have h := az_t c8 h
    refine az_tabIn (off := 122) C 123 dX12_reckon_1 (by rw [c8]; decide) (by rw [c8]; decide) (by rw [c8]; decide) (by decide) ?_
    refine az_lload_n C 2 dX12_reckon_123 rfl ?_
    refine az_lload C 3 dX12_reckon_124 rfl ?_
    refine az_lcmp C dX12_reckon_126 ?_
    refine az_if_ge C 134 dX12_reckon_127 (by decide) (fun c9 => ?_) (fun c9 => ?_)
    · have h := az_t (az_c_ge.mp c9) h
      refine az_lconst (v := 0) C dX12_reckon_134 (by decide) ?_
      refine az_sub [] rfl ?_
      exact s_X12_reckon_135 C 0 M r h hp
    · have h := az_f (fun z => c9 (az_c_ge.mpr z)) h
      refine az_lconst (v := 1) C dX12_reckon_130 (by decide) ?_
      refine az_goto C 135 dX12_reckon_131 (by decide) ?_
      refine az_sub [] rfl ?_
      exact s_X12_reckon_135 C 1 M r h hp
  have h := az_f c8 h
  have nc8 := lv_neT c8 (a := 25) (by decide)
  by_cases c10 : p0 = 26
  · have h := az_t c10 h
    refine az_tabIn (off := 135) C 136 dX12_reckon_1 (by rw [c10]; decide) (by rw [c10]; decide) (by rw [c10]; decide) (by decide) ?_
    refine az_lload_n C 2 dX12_reckon_136 rfl ?_
    refine az_lload C 3 dX12_reckon_137 rfl ?_
    refine az_lcmp C dX12_reckon_139 ?_
    refine az_if_le C 147 dX12_reckon_140 (by decide) (fun c11 => ?_) (fun c11 => ?_)
    · have h := az_t (az_c_le.mp c11) h
      refine az_lconst (v := 0) C dX12_reckon_147 (by decide) ?_
      refine az_sub [] rfl ?_
      exact s_X12_reckon_148 C 0 M r h hp
    · have h := az_f (fun z => c11 (az_c_le.mpr z)) h
      refine az_lconst (v := 1) C dX12_reckon_143 (by decide) ?_
      refine az_goto C 148 dX12_reckon_144 (by decide) ?_
      refine az_sub [] rfl ?_
      exact s_X12_reckon_148 C 1 M r h hp
  have h := az_f c10 h
  have nc10 := lv_neT c10 (a := 26) (by decide)
  refine az_tabOut C 149 dX12_reckon_1 (by omega) (by decide) ?_
  refine az_lload_n C 2 dX12_reckon_149 rfl ?_
  refine az_lload C 3 dX12_reckon_150 rfl ?_
  refine az_lcmp C dX12_reckon_152 ?_
  refine az_if_ne C 160 dX12_reckon_153 (by decide) (fun c12 => ?_) (fun c12 => ?_)
  · have h := az_f (fun z => c12 (az_c_eq.mpr z)) h
    refine az_lconst (v := 0) C dX12_reckon_160 (by decide) ?_
    refine az_sub [] rfl ?_
    exact s_X12_reckon_161 C 0 M r h hp
  · have h := az_t (az_c_eq.mp c12) h
    refine az_lconst (v := 1) C dX12_reckon_156 (by decide) ?_
    refine az_goto C 161 dX12_reckon_157 (by decide) ?_
    refine az_sub [] rfl ?_
    exact s_X12_reckon_161 C 1 M r h hp
theorem c_X12_reckon {l : Launch} {V : az_V} (hL : az_L V) (p0 : Int32) (p1 : Int64) (p2 : Int64) (M : az_M) {r : (Int64 × az_M)} (h : f_X12_reckon p0 p1 p2 M = some r) : az_Ct l V yX12_reckon cX12_reckon 6 (some .long) 1 [.ref (az_ad V 40), .int p0, .long p1, .long p2] M (fun v M' => v = some (.long r.1) ∧ M' = r.2) :=
  az_Ct.of (by decide) (Nat.le_of_ble_eq_true rfl) (fun Y _ _ C => s_X12_reckon_e C p0 p1 p2 M r h ⟨rfl, rfl⟩)
set_option maxHeartbeats 4000000 in
set_option maxRecDepth 100000 in
theorem s_X12_reckonAll_357 {Y : az_Y} {V : az_V} {post : Option Value → az_M → Prop} (C : az_C Y V cX12_reckonAll 7 RX12 none 3) (G : Nat) (K10 : (Int32 → Int32 → Int32 → az_M → Option az_M)) (hK10 : ∀ (x2 : Int32) (x3 : Int32) (x4 : Int32) (M : az_M) (r : az_M), K10 x2 x3 x4 M = some r → post none r → AW Y V (az_end Y V post) 7 M 10 [(0, .ref (az_ad V 40)), (2, .int x2), (3, .int x3), (4, .int x4)] []) (x2 : Int32) (x3 : Int32) (x4 : Int32) (M : az_M) (r : az_M) (h : f_X12_reckonAll_357 G K10 x2 x3 x4 M = some r) (hp : post none r) : AW Y V (az_end Y V post) 7 M 357 [(0, .ref (az_ad V 40)), (2, .int x2), (3, .int x3), (4, .int x4)] [] := by
  unfold f_X12_reckonAll_357 at h
  refine az_goto C 10 dX12_reckonAll_357 (by decide) ?_
  exact hK10 x2 x3 x4 M r h hp
set_option maxHeartbeats 4000000 in
set_option maxRecDepth 100000 in
theorem s_X12_reckonAll_211 {Y : az_Y} {V : az_V} {post : Option Value → az_M → Prop} (C : az_C Y V cX12_reckonAll 7 RX12 none 3) (G : Nat) (K10 : (Int32 → Int32 → Int32 → az_M → Option az_M)) (hK10 : ∀ (x2 : Int32) (x3 : Int32) (x4 : Int32) (M : az_M) (r : az_M), K10 x2 x3 x4 M = some r → post none r → AW Y V (az_end Y V post) 7 M 10 [(0, .ref (az_ad V 40)), (2, .int x2), (3, .int x3), (4, .int x4)] []) (x2 : Int32) (x3 : Int32) (x4 : Int32) (s0 : Int64) (s1 : Int32) (M : az_M) (r : az_M) (h : f_X12_reckonAll_211 G K10 x2 x3 x4 s0 s1 M = some r) (hp : post none r) : AW Y V (az_end Y V post) 7 M 211 [(0, .ref (az_ad V 40)), (2, .int x2), (3, .int x3), (4, .int x4)] [.long s0, .int s1, .ref (az_ad V 60)] := by
  have a60 := C.hL.ar 60 (t := 1) (len := 400) rfl
  unfold f_X12_reckonAll_211 at h
  obtain ⟨g42, h⟩ := az_g h
  refine az_lst (k := s1.toNatClampNeg) C a60 g42 rfl dX12_reckonAll_211 ?_
  refine az_iinc (v := (x3 + 1)) C 2 dX12_reckonAll_212 rfl rfl (by decide) rfl ?_
  refine az_goto C 357 dX12_reckonAll_215 (by decide) ?_
  refine az_sub [1, 2, 0, 3] rfl ?_
  exact s_X12_reckonAll_357 C G K10 hK10 x2 (x3 + 1) x4 (az_l M 60 s1.toNatClampNeg s0) r h hp
set_option maxHeartbeats 4000000 in
set_option maxRecDepth 100000 in
theorem s_X12_reckonAll_184 {Y : az_Y} {V : az_V} {post : Option Value → az_M → Prop} (C : az_C Y V cX12_reckonAll 7 RX12 none 3) (G : Nat) (K10 : (Int32 → Int32 → Int32 → az_M → Option az_M)) (hK10 : ∀ (x2 : Int32) (x3 : Int32) (x4 : Int32) (M : az_M) (r : az_M), K10 x2 x3 x4 M = some r → post none r → AW Y V (az_end Y V post) 7 M 10 [(0, .ref (az_ad V 40)), (2, .int x2), (3, .int x3), (4, .int x4)] []) (x2 : Int32) (x3 : Int32) (x4 : Int32) (s0 : Int32) (s1 : Int32) (M : az_M) (r : az_M) (h : f_X12_reckonAll_184 G K10 x2 x3 x4 s0 s1 M = some r) (hp : post none r) : AW Y V (az_end Y V post) 7 M 184 [(0, .ref (az_ad V 40)), (2, .int x2), (3, .int x3), (4, .int x4)] [.int s0, .int s1, .ref (az_ad V 60)] := by
  unfold f_X12_reckonAll_184 at h
  refine az_i2l C dX12_reckonAll_184 ?_
  refine az_goto C 211 dX12_reckonAll_185 (by decide) ?_
  exact s_X12_reckonAll_211 C G K10 hK10 x2 x3 x4 s0.toInt64 s1 M r h hp
set_option maxHeartbeats 4000000 in
set_option maxRecDepth 100000 in
theorem s_X12_reckonAll_289 {Y : az_Y} {V : az_V} {post : Option Value → az_M → Prop} (C : az_C Y V cX12_reckonAll 7 RX12 none 3) (G : Nat) (K10 : (Int32 → Int32 → Int32 → az_M → Option az_M)) (hK10 : ∀ (x2 : Int32) (x3 : Int32) (x4 : Int32) (M : az_M) (r : az_M), K10 x2 x3 x4 M = some r → post none r → AW Y V (az_end Y V post) 7 M 10 [(0, .ref (az_ad V 40)), (2, .int x2), (3, .int x3), (4, .int x4)] []) (x2 : Int32) (x3 : Int32) (x4 : Int32) (s0 : Int32) (M : az_M) (r : az_M) (h : f_X12_reckonAll_289 G K10 x2 x3 x4 s0 M = some r) (hp : post none r) : AW Y V (az_end Y V post) 7 M 289 [(0, .ref (az_ad V 40)), (2, .int x2), (3, .int x3), (4, .int x4)] [.int s0, .ref (az_ad V 40)] := by
  have o40 := C.hL.at 40 (ci := 12) rfl
  unfold f_X12_reckonAll_289 at h
  obtain ⟨g43, h⟩ := az_g2 h
  refine az_puti C o40 fl_X12_415 rfl rfl (az_nz g43) (az_fz g43) dX12_reckonAll_289 ?_
  refine az_goto C 357 dX12_reckonAll_292 (by decide) ?_
  exact s_X12_reckonAll_357 C G K10 hK10 x2 x3 x4 (az_i M 40 38 s0) r h hp
set_option maxHeartbeats 4000000 in
set_option maxRecDepth 100000 in
theorem s_X12_reckonAll_284 {Y : az_Y} {V : az_V} {post : Option Value → az_M → Prop} (C : az_C Y V cX12_reckonAll 7 RX12 none 3) (G : Nat) (K10 : (Int32 → Int32 → Int32 → az_M → Option az_M)) (hK10 : ∀ (x2 : Int32) (x3 : Int32) (x4 : Int32) (M : az_M) (r : az_M), K10 x2 x3 x4 M = some r → post none r → AW Y V (az_end Y V post) 7 M 10 [(0, .ref (az_ad V 40)), (2, .int x2), (3, .int x3), (4, .int x4)] []) (x2 : Int32) (x3 : Int32) (x4 : Int32) (M : az_M) (r : az_M) (h : f_X12_reckonAll_284 G K10 x2 x3 x4 M = some r) (hp : post none r) : AW Y V (az_end Y V post) 7 M 284 [(0, .ref (az_ad V 40)), (2, .int x2), (3, .int x3), (4, .int x4)] [.ref (az_ad V 40)] := by
  unfold f_X12_reckonAll_284 at h
  refine az_iconst (v := 1) C dX12_reckonAll_284 (by decide) ?_
  refine az_goto C 289 dX12_reckonAll_285 (by decide) ?_
  exact s_X12_reckonAll_289 C G K10 hK10 x2 x3 x4 1 M r h hp
set_option maxHeartbeats 4000000 in
set_option maxRecDepth 100000 in
theorem s_X12_reckonAll_343 {Y : az_Y} {V : az_V} {post : Option Value → az_M → Prop} (C : az_C Y V cX12_reckonAll 7 RX12 none 3) (G : Nat) (K10 : (Int32 → Int32 → Int32 → az_M → Option az_M)) (hK10 : ∀ (x2 : Int32) (x3 : Int32) (x4 : Int32) (M : az_M) (r : az_M), K10 x2 x3 x4 M = some r → post none r → AW Y V (az_end Y V post) 7 M 10 [(0, .ref (az_ad V 40)), (2, .int x2), (3, .int x3), (4, .int x4)] []) (x2 : Int32) (x3 : Int32) (x4 : Int32) (x6 : Int32) (s0 : Int64) (s1 : Int64) (M : az_M) (r : az_M) (h : f_X12_reckonAll_343 G K10 x2 x3 x4 x6 s0 s1 M = some r) (hp : post none r) : AW Y V (az_end Y V post) 7 M 343 [(0, .ref (az_ad V 40)), (2, .int x2), (3, .int x3), (4, .int x4), (6, .int x6)] [.long s0, .long s1] := by
  unfold f_X12_reckonAll_343 at h
  refine az_lcmp C dX12_reckonAll_343 ?_
  refine az_if_ne C 354 dX12_reckonAll_344 (by decide) (fun c44 => ?_) (fun c44 => ?_)
  · have h := az_f (fun z => c44 (az_c_eq.mpr z)) h
    refine az_iinc (v := (x3 + (-1))) C 2 dX12_reckonAll_354 rfl rfl (by decide) rfl ?_
    refine az_sub [1, 2, 0, 3] rfl ?_
    exact s_X12_reckonAll_357 C G K10 hK10 x2 (x3 + (-1)) x4 M r h hp
  · have h := az_t (az_c_eq.mp c44) h
    refine az_iload C 4 dX12_reckonAll_347 rfl ?_
    refine az_istore C dX12_reckonAll_349 (by decide) rfl ?_
    refine az_goto C 357 dX12_reckonAll_351 (by decide) ?_
    refine az_sub [1, 2, 3, 0] rfl ?_
    exact s_X12_reckonAll_357 C G K10 hK10 x2 x3 x6 M r h hp
set_option maxHeartbeats 4000000 in
set_option maxRecDepth 100000 in
theorem s_X12_reckonAll_95 {Y : az_Y} {V : az_V} {post : Option Value → az_M → Prop} (C : az_C Y V cX12_reckonAll 7 RX12 none 3) (G : Nat) (K10 : (Int32 → Int32 → Int32 → az_M → Option az_M)) (hK10 : ∀ (x2 : Int32) (x3 : Int32) (x4 : Int32) (M : az_M) (r : az_M), K10 x2 x3 x4 M = some r → post none r → AW Y V (az_end Y V post) 7 M 10 [(0, .ref (az_ad V 40)), (2, .int x2), (3, .int x3), (4, .int x4)] []) (x2 : Int32) (x3 : Int32) (x4 : Int32) (x5 : Int32) (s0 : Int32) (M : az_M) (r : az_M) (h : f_X12_reckonAll_95 G K10 x2 x3 x4 x5 s0 M = some r) (hp : post none r) : AW Y V (az_end Y V post) 7 M 95 [(0, .ref (az_ad V 40)), (2, .int x2), (3, .int x3), (4, .int x4), (5, .int x5)] [.int s0] := by
  have o40 := C.hL.at 40 (ci := 12) rfl
  have a58 := C.hL.ar 58 (t := 1) (len := 13) rfl
  have a59 := C.hL.ar 59 (t := 1) (len := 13) rfl
  have a60 := C.hL.ar 60 (t := 1) (len := 400) rfl
  unfold f_X12_reckonAll_95 at h
  refine az_istore C dX12_reckonAll_95 (by decide) rfl ?_
  refine az_iinc (v := (x4 + 1)) C 4 dX12_reckonAll_97 rfl rfl (by decide) rfl ?_
  refine az_iload C 5 dX12_reckonAll_100 rfl ?_
  refine az_bipush (v := 20) C dX12_reckonAll_102 (by decide) ?_
  refine az_icmp_ge C 218 dX12_reckonAll_104 (by decide) (fun c9 => ?_) (fun c9 => ?_)
  · have h := az_t c9 h
    refine az_iload C 5 dX12_reckonAll_218 rfl ?_
    refine az_bipush (v := 28) C dX12_reckonAll_220 (by decide) ?_
    refine az_icmp_ge C 295 dX12_reckonAll_222 (by decide) (fun c10 => ?_) (fun c10 => ?_)
    · have h := az_t c10 h
      refine az_iload C 5 dX12_reckonAll_295 rfl ?_
      refine az_bipush (v := 28) C dX12_reckonAll_297 (by decide) ?_
      refine az_icmp_ne C 323 dX12_reckonAll_299 (by decide) (fun c11 => ?_) (fun c11 => ?_)
      · have h := az_f c11 h
        refine az_aload_n C 2 dX12_reckonAll_323 rfl ?_
        refine az_getr (r := 60) C o40 fl_X12_113 rfl rfl dX12_reckonAll_324 ?_
        refine az_iload_n C 4 dX12_reckonAll_327 rfl ?_
        refine az_iconst (v := 1) C dX12_reckonAll_328 (by decide) ?_
        refine az_isub C dX12_reckonAll_329 ?_
        obtain ⟨g12, h⟩ := az_g h
        refine az_lld (k := (x3 - 1).toNatClampNeg) C a60 g12 rfl dX12_reckonAll_330 ?_
        refine az_iload C 5 dX12_reckonAll_331 rfl ?_
        refine az_bipush (v := 29) C dX12_reckonAll_333 (by decide) ?_
        refine az_icmp_ne C 342 dX12_reckonAll_335 (by decide) (fun c13 => ?_) (fun c13 => ?_)
        · have h := az_f c13 h
          refine az_lconst (v := 1) C dX12_reckonAll_342 (by decide) ?_
          refine az_sub [2, 3, 4, 0, 1] rfl ?_
          exact s_X12_reckonAll_343 C G K10 hK10 x2 x3 (x4 + 1) s0 1 (M.2.1 60 ((x3 - 1).toNatClampNeg)) M r h hp
        · have h := az_t c13 h
          refine az_lconst (v := 0) C dX12_reckonAll_338 (by decide) ?_
          refine az_goto C 343 dX12_reckonAll_339 (by decide) ?_
          refine az_sub [2, 3, 4, 0, 1] rfl ?_
          exact s_X12_reckonAll_343 C G K10 hK10 x2 x3 (x4 + 1) s0 0 (M.2.1 60 ((x3 - 1).toNatClampNeg)) M r h hp
      · have h := az_t c11 h
        refine az_aload_n C 2 dX12_reckonAll_302 rfl ?_
        refine az_getr (r := 60) C o40 fl_X12_113 rfl rfl dX12_reckonAll_303 ?_
        refine az_iload_n C 4 dX12_reckonAll_306 rfl ?_
        refine az_iconst (v := 1) C dX12_reckonAll_307 (by decide) ?_
        refine az_isub C dX12_reckonAll_308 ?_
        refine az_lconst (v := 1) C dX12_reckonAll_309 (by decide) ?_
        refine az_aload_n C 2 dX12_reckonAll_310 rfl ?_
        refine az_getr (r := 60) C o40 fl_X12_113 rfl rfl dX12_reckonAll_311 ?_
        refine az_iload_n C 4 dX12_reckonAll_314 rfl ?_
        refine az_iconst (v := 1) C dX12_reckonAll_315 (by decide) ?_
        refine az_isub C dX12_reckonAll_316 ?_
        obtain ⟨g14, h⟩ := az_g h
        refine az_lld (k := (x3 - 1).toNatClampNeg) C a60 g14 rfl dX12_reckonAll_317 ?_
        refine az_lsub C dX12_reckonAll_318 ?_
        obtain ⟨g15, h⟩ := az_g h
        refine az_lst (k := (x3 - 1).toNatClampNeg) C a60 g15 rfl dX12_reckonAll_319 ?_
        refine az_goto C 357 dX12_reckonAll_320 (by decide) ?_
        refine az_sub [2, 3, 4, 0] rfl ?_
        exact s_X12_reckonAll_357 C G K10 hK10 x2 x3 (x4 + 1) (az_l M 60 ((x3 - 1).toNatClampNeg) (1 - (M.2.1 60 ((x3 - 1).toNatClampNeg)))) r h hp
    · have h := az_f c10 h
      refine az_iinc (v := (x3 + (-1))) C 4 dX12_reckonAll_225 rfl rfl (by decide) rfl ?_
      refine az_aload_n C 3 dX12_reckonAll_228 rfl ?_
      refine az_getr (r := 60) C o40 fl_X12_113 rfl rfl dX12_reckonAll_229 ?_
      refine az_iload_n C 0 dX12_reckonAll_232 rfl ?_
      refine az_iconst (v := 1) C dX12_reckonAll_233 (by decide) ?_
      refine az_isub C dX12_reckonAll_234 ?_
      refine az_aload_n C 3 dX12_reckonAll_235 rfl ?_
      refine az_iload C 5 dX12_reckonAll_236 rfl ?_
      refine az_aload_n C 3 dX12_reckonAll_238 rfl ?_
      refine az_getr (r := 60) C o40 fl_X12_113 rfl rfl dX12_reckonAll_239 ?_
      refine az_iload_n C 0 dX12_reckonAll_242 rfl ?_
      refine az_iconst (v := 1) C dX12_reckonAll_243 (by decide) ?_
      refine az_isub C dX12_reckonAll_244 ?_
      obtain ⟨g16, h⟩ := az_g h
      refine az_lld (k := ((x3 + (-1)) - 1).toNatClampNeg) C a60 g16 rfl dX12_reckonAll_245 ?_
      refine az_aload_n C 3 dX12_reckonAll_246 rfl ?_
      refine az_getr (r := 60) C o40 fl_X12_113 rfl rfl dX12_reckonAll_247 ?_
      refine az_iload_n C 0 dX12_reckonAll_250 rfl ?_
      obtain ⟨g17, h⟩ := az_g h
      refine az_lld (k := (x3 + (-1)).toNatClampNeg) C a60 g17 rfl dX12_reckonAll_251 ?_
      obtain ⟨q18, e19, h⟩ := az_b h
      refine az_cV (rest := [.int ((x3 + (-1)) - 1), .ref (az_ad V 60)]) (st2 := [.long q18.1, .int ((x3 + (-1)) - 1), .ref (az_ad V 60)]) C [.int x5, .long (M.2.1 60 (((x3 + (-1)) - 1).toNatClampNeg)), .long (M.2.1 60 ((x3 + (-1)).toNatClampNeg))] (c_X12_reckon C.hL x5 (M.2.1 60 (((x3 + (-1)) - 1).toNatClampNeg)) (M.2.1 60 ((x3 + (-1)).toNatClampNeg)) M e19) (by decide) li_X12_421 o40 (by decide) rfl rfl (Nat.le_of_ble_eq_true rfl) dX12_reckonAll_252 rfl ?_
      obtain ⟨g20, h⟩ := az_g h
      refine az_lst (k := ((x3 + (-1)) - 1).toNatClampNeg) C a60 g20 rfl dX12_reckonAll_255 ?_
      refine az_aload_n C 3 dX12_reckonAll_256 rfl ?_
      refine az_aload_n C 3 dX12_reckonAll_257 rfl ?_
      refine az_geti C o40 fl_X12_415 rfl dX12_reckonAll_258 ?_
      refine az_if_ne C 284 dX12_reckonAll_261 (by decide) (fun c21 => ?_) (fun c21 => ?_)
      · have h := az_f c21 h
        refine az_sub [3, 4, 0, 1] rfl ?_
        exact s_X12_reckonAll_284 C G K10 hK10 x2 (x3 + (-1)) (x4 + 1) (az_l q18.2 60 (((x3 + (-1)) - 1).toNatClampNeg) q18.1) r h hp
      · have h := az_t c21 h
        refine az_aload_n C 3 dX12_reckonAll_264 rfl ?_
        refine az_getr (r := 60) C o40 fl_X12_113 rfl rfl dX12_reckonAll_265 ?_
        refine az_iload_n C 0 dX12_reckonAll_268 rfl ?_
        refine az_iconst (v := 1) C dX12_reckonAll_269 (by decide) ?_
        refine az_isub C dX12_reckonAll_270 ?_
        obtain ⟨g22, h⟩ := az_g h
        refine az_lld (k := ((x3 + (-1)) - 1).toNatClampNeg) C a60 g22 rfl dX12_reckonAll_271 ?_
        refine az_ldc2 C ck_X12_425 dX12_reckonAll_272 ?_
        refine az_ldc2 C ck_X12_427 dX12_reckonAll_275 ?_
        obtain ⟨q23, e24, h⟩ := az_b h
        refine az_cS (rest := [.ref (az_ad V 40)]) (st2 := [.int q23, .ref (az_ad V 40)]) C [.long ((az_l q18.2 60 (((x3 + (-1)) - 1).toNatClampNeg) q18.1).2.1 60 (((x3 + (-1)) - 1).toNatClampNeg)), .long (-1000000000), .long 1000000000] (c_X12_in C.hL ((az_l q18.2 60 (((x3 + (-1)) - 1).toNatClampNeg) q18.1).2.1 60 (((x3 + (-1)) - 1).toNatClampNeg)) (-1000000000) 1000000000 (az_l q18.2 60 (((x3 + (-1)) - 1).toNatClampNeg) q18.1) e24) (by decide) li_X12_169 rfl rfl (Nat.le_of_ble_eq_true rfl) dX12_reckonAll_278 rfl ?_
        refine az_if_ne C 288 dX12_reckonAll_281 (by decide) (fun c25 => ?_) (fun c25 => ?_)
        · have h := az_f c25 h
          refine az_iconst (v := 0) C dX12_reckonAll_288 (by decide) ?_
          refine az_sub [3, 4, 0, 1] rfl ?_
          exact s_X12_reckonAll_289 C G K10 hK10 x2 (x3 + (-1)) (x4 + 1) 0 (az_l q18.2 60 (((x3 + (-1)) - 1).toNatClampNeg) q18.1) r h hp
        · have h := az_t c25 h
          refine az_sub [3, 4, 0, 1] rfl ?_
          exact s_X12_reckonAll_284 C G K10 hK10 x2 (x3 + (-1)) (x4 + 1) (az_l q18.2 60 (((x3 + (-1)) - 1).toNatClampNeg) q18.1) r h hp
  · have h := az_f c9 h
    refine az_aload_n C 2 dX12_reckonAll_107 rfl ?_
    refine az_getr (r := 60) C o40 fl_X12_113 rfl rfl dX12_reckonAll_108 ?_
    refine az_iload_n C 4 dX12_reckonAll_111 rfl ?_
    refine az_iload C 5 dX12_reckonAll_112 rfl ?_
    refine az_if_ne C 123 dX12_reckonAll_114 (by decide) (fun c26 => ?_) (fun c26 => ?_)
    · have h := az_f c26 h
      refine az_aload_n C 2 dX12_reckonAll_123 rfl ?_
      refine az_geti C o40 fl_X12_345 rfl dX12_reckonAll_124 ?_
      refine az_if_ne C 140 dX12_reckonAll_127 (by decide) (fun c27 => ?_) (fun c27 => ?_)
      · have h := az_f c27 h
        refine az_iload C 5 dX12_reckonAll_140 rfl ?_
        refine az_bipush (v := 7) C dX12_reckonAll_142 (by decide) ?_
        refine az_icmp_ge C 157 dX12_reckonAll_144 (by decide) (fun c28 => ?_) (fun c28 => ?_)
        · have h := az_t c28 h
          refine az_iload C 5 dX12_reckonAll_157 rfl ?_
          refine az_bipush (v := 7) C dX12_reckonAll_159 (by decide) ?_
          refine az_icmp_ne C 188 dX12_reckonAll_161 (by decide) (fun c29 => ?_) (fun c29 => ?_)
          · have h := az_f c29 h
            refine az_aload_n C 2 dX12_reckonAll_188 rfl ?_
            refine az_iload C 1 dX12_reckonAll_189 rfl ?_
            obtain ⟨q30, e31, h⟩ := az_b h
            refine az_cV (rest := [.int x3, .ref (az_ad V 60)]) (st2 := [.int q30, .int x3, .ref (az_ad V 60)]) C [.int s0] (c_X12_isPlace C.hL s0 M e31) (by decide) li_X12_206 o40 (by decide) rfl rfl (Nat.le_of_ble_eq_true rfl) dX12_reckonAll_191 rfl ?_
            refine az_if_eq C 208 dX12_reckonAll_194 (by decide) (fun c32 => ?_) (fun c32 => ?_)
            · have h := az_t c32 h
              refine az_ldc2 C ck_X12_297 dX12_reckonAll_208 ?_
              refine az_sub [2, 3, 4, 0] rfl ?_
              exact s_X12_reckonAll_211 C G K10 hK10 x2 x3 (x4 + 1) (-1) x3 M r h hp
            · have h := az_f c32 h
              refine az_aload_n C 2 dX12_reckonAll_197 rfl ?_
              refine az_iload C 1 dX12_reckonAll_198 rfl ?_
              refine az_iconst (v := 3) C dX12_reckonAll_200 (by decide) ?_
              obtain ⟨q33, e34, h⟩ := az_b h
              refine az_cV (rest := [.int x3, .ref (az_ad V 60)]) (st2 := [.int q33, .int x3, .ref (az_ad V 60)]) C [.int s0, .int 3] (c_X12_ofPlace C.hL s0 3 M e34) (by decide) li_X12_221 o40 (by decide) rfl rfl (Nat.le_of_ble_eq_true rfl) dX12_reckonAll_201 rfl ?_
              refine az_i2l C dX12_reckonAll_204 ?_
              refine az_goto C 211 dX12_reckonAll_205 (by decide) ?_
              refine az_sub [2, 3, 4, 0] rfl ?_
              exact s_X12_reckonAll_211 C G K10 hK10 x2 x3 (x4 + 1) q33.toInt64 x3 M r h hp
          · have h := az_t c29 h
            refine az_aload_n C 2 dX12_reckonAll_164 rfl ?_
            refine az_iload C 1 dX12_reckonAll_165 rfl ?_
            obtain ⟨q35, e36, h⟩ := az_b h
            refine az_cV (rest := [.int x3, .ref (az_ad V 60)]) (st2 := [.int q35, .int x3, .ref (az_ad V 60)]) C [.int s0] (c_X12_isPerson C.hL s0 M e36) (by decide) li_X12_229 o40 (by decide) rfl rfl (Nat.le_of_ble_eq_true rfl) dX12_reckonAll_167 rfl ?_
            refine az_if_eq C 183 dX12_reckonAll_170 (by decide) (fun c37 => ?_) (fun c37 => ?_)
            · have h := az_t c37 h
              refine az_iconst (v := (-1)) C dX12_reckonAll_183 (by decide) ?_
              refine az_sub [2, 3, 4, 0] rfl ?_
              exact s_X12_reckonAll_184 C G K10 hK10 x2 x3 (x4 + 1) (-1) x3 M r h hp
            · have h := az_f c37 h
              refine az_aload_n C 2 dX12_reckonAll_173 rfl ?_
              refine az_iload C 1 dX12_reckonAll_174 rfl ?_
              refine az_iconst (v := 2) C dX12_reckonAll_176 (by decide) ?_
              obtain ⟨q38, e39, h⟩ := az_b h
              refine az_cV (rest := [.int x3, .ref (az_ad V 60)]) (st2 := [.int q38, .int x3, .ref (az_ad V 60)]) C [.int s0, .int 2] (c_X12_ofPerson C.hL s0 2 M e39) (by decide) li_X12_226 o40 (by decide) rfl rfl (Nat.le_of_ble_eq_true rfl) dX12_reckonAll_177 rfl ?_
              refine az_goto C 184 dX12_reckonAll_180 (by decide) ?_
              refine az_sub [2, 3, 4, 0] rfl ?_
              exact s_X12_reckonAll_184 C G K10 hK10 x2 x3 (x4 + 1) q38 x3 M r h hp
        · have h := az_f c28 h
          refine az_aload_n C 2 dX12_reckonAll_147 rfl ?_
          refine az_getr (r := 59) C o40 fl_X12_110 rfl rfl dX12_reckonAll_148 ?_
          refine az_iload C 5 dX12_reckonAll_151 rfl ?_
          obtain ⟨g40, h⟩ := az_g h
          refine az_lld (k := x5.toNatClampNeg) C a59 g40 rfl dX12_reckonAll_153 ?_
          refine az_goto C 211 dX12_reckonAll_154 (by decide) ?_
          refine az_sub [2, 3, 4, 0] rfl ?_
          exact s_X12_reckonAll_211 C G K10 hK10 x2 x3 (x4 + 1) (M.2.1 59 x5.toNatClampNeg) x3 M r h hp
      · have h := az_t c27 h
        refine az_aload_n C 2 dX12_reckonAll_130 rfl ?_
        refine az_getr (r := 58) C o40 fl_X12_107 rfl rfl dX12_reckonAll_131 ?_
        refine az_iload C 5 dX12_reckonAll_134 rfl ?_
        obtain ⟨g41, h⟩ := az_g h
        refine az_lld (k := x5.toNatClampNeg) C a58 g41 rfl dX12_reckonAll_136 ?_
        refine az_goto C 211 dX12_reckonAll_137 (by decide) ?_
        refine az_sub [2, 3, 4, 0] rfl ?_
        exact s_X12_reckonAll_211 C G K10 hK10 x2 x3 (x4 + 1) (M.2.1 58 x5.toNatClampNeg) x3 M r h hp
    · have h := az_t c26 h
      refine az_iload C 1 dX12_reckonAll_117 rfl ?_
      refine az_i2l C dX12_reckonAll_119 ?_
      refine az_goto C 211 dX12_reckonAll_120 (by decide) ?_
      refine az_sub [2, 3, 4, 0] rfl ?_
      exact s_X12_reckonAll_211 C G K10 hK10 x2 x3 (x4 + 1) s0.toInt64 x3 M r h hp
set_option maxHeartbeats 4000000 in
set_option maxRecDepth 100000 in
theorem s_X12_reckonAll_57 {Y : az_Y} {V : az_V} {post : Option Value → az_M → Prop} (C : az_C Y V cX12_reckonAll 7 RX12 none 3) (G : Nat) (K10 : (Int32 → Int32 → Int32 → az_M → Option az_M)) (hK10 : ∀ (x2 : Int32) (x3 : Int32) (x4 : Int32) (M : az_M) (r : az_M), K10 x2 x3 x4 M = some r → post none r → AW Y V (az_end Y V post) 7 M 10 [(0, .ref (az_ad V 40)), (2, .int x2), (3, .int x3), (4, .int x4)] []) (x2 : Int32) (x3 : Int32) (x4 : Int32) (s0 : Int32) (M : az_M) (r : az_M) (h : f_X12_reckonAll_57 G K10 x2 x3 x4 s0 M = some r) (hp : post none r) : AW Y V (az_end Y V post) 7 M 57 [(0, .ref (az_ad V 40)), (2, .int x2), (3, .int x3), (4, .int x4)] [.int s0] := by
  have o40 := C.hL.at 40 (ci := 12) rfl
  have a42 := C.hL.ar 42 (t := 0) (len := 5550) rfl
  have a52 := C.hL.ar 52 (t := 0) (len := 400) rfl
  unfold f_X12_reckonAll_57 at h
  refine az_istore C dX12_reckonAll_57 (by decide) rfl ?_
  refine az_aload_n C 1 dX12_reckonAll_59 rfl ?_
  refine az_geti C o40 fl_X12_345 rfl dX12_reckonAll_60 ?_
  refine az_if_eq C 76 dX12_reckonAll_63 (by decide) (fun c6 => ?_) (fun c6 => ?_)
  · have h := az_t c6 h
    refine az_aload_n C 1 dX12_reckonAll_76 rfl ?_
    refine az_getr (r := 42) C o40 fl_X12_13 rfl rfl dX12_reckonAll_77 ?_
    refine az_aload_n C 1 dX12_reckonAll_80 rfl ?_
    refine az_geti C o40 fl_X12_418 rfl dX12_reckonAll_81 ?_
    refine az_bipush (v := 98) C dX12_reckonAll_84 (by decide) ?_
    refine az_iadd C dX12_reckonAll_86 ?_
    refine az_iconst (v := 2) C dX12_reckonAll_87 (by decide) ?_
    refine az_iload C 4 dX12_reckonAll_88 rfl ?_
    refine az_imul C dX12_reckonAll_90 ?_
    refine az_iadd C dX12_reckonAll_91 ?_
    refine az_iconst (v := 1) C dX12_reckonAll_92 (by decide) ?_
    refine az_iadd C dX12_reckonAll_93 ?_
    obtain ⟨g7, h⟩ := az_g h
    refine az_ild (k := ((((M.1 40 34) + 98) + (2 * x4)) + 1).toNatClampNeg) C a42 g7 rfl dX12_reckonAll_94 ?_
    refine az_sub [1, 2, 3, 4, 0] rfl ?_
    exact s_X12_reckonAll_95 C G K10 hK10 x2 x3 x4 s0 (M.1 42 (((((M.1 40 34) + 98) + (2 * x4)) + 1).toNatClampNeg)) M r h hp
  · have h := az_f c6 h
    refine az_aload_n C 1 dX12_reckonAll_66 rfl ?_
    refine az_getr (r := 52) C o40 fl_X12_48 rfl rfl dX12_reckonAll_67 ?_
    refine az_iload C 4 dX12_reckonAll_70 rfl ?_
    obtain ⟨g8, h⟩ := az_g h
    refine az_ild (k := x4.toNatClampNeg) C a52 g8 rfl dX12_reckonAll_72 ?_
    refine az_goto C 95 dX12_reckonAll_73 (by decide) ?_
    refine az_sub [1, 2, 3, 4, 0] rfl ?_
    exact s_X12_reckonAll_95 C G K10 hK10 x2 x3 x4 s0 (M.1 52 x4.toNatClampNeg) M r h hp
set_option maxHeartbeats 4000000 in
set_option maxRecDepth 100000 in
theorem s_X12_reckonAll_375 {Y : az_Y} {V : az_V} {post : Option Value → az_M → Prop} (C : az_C Y V cX12_reckonAll 7 RX12 none 3) (G : Nat) (s0 : Int64) (M : az_M) (r : az_M) (h : f_X12_reckonAll_375 G s0 M = some r) (hp : post none r) : AW Y V (az_end Y V post) 7 M 375 [] [.long s0, .ref (az_ad V 40)] := by
  have o40 := C.hL.at 40 (ci := 12) rfl
  unfold f_X12_reckonAll_375 at h
  refine az_putl C o40 fl_X12_429 rfl rfl rfl rfl dX12_reckonAll_375 ?_
  obtain rfl := Option.some.inj h
  exact az_vret C rfl dX12_reckonAll_378 hp
set_option maxHeartbeats 4000000 in
set_option maxRecDepth 100000 in
theorem s_X12_reckonAll_360 {Y : az_Y} {V : az_V} {post : Option Value → az_M → Prop} (C : az_C Y V cX12_reckonAll 7 RX12 none 3) (G : Nat) (x3 : Int32) (M : az_M) (r : az_M) (h : f_X12_reckonAll_360 G x3 M = some r) (hp : post none r) : AW Y V (az_end Y V post) 7 M 360 [(0, .ref (az_ad V 40)), (3, .int x3)] [] := by
  have o40 := C.hL.at 40 (ci := 12) rfl
  have a60 := C.hL.ar 60 (t := 1) (len := 400) rfl
  unfold f_X12_reckonAll_360 at h
  refine az_aload_n C 0 dX12_reckonAll_360 rfl ?_
  refine az_iload_n C 1 dX12_reckonAll_361 rfl ?_
  refine az_if_le C 374 dX12_reckonAll_362 (by decide) (fun c45 => ?_) (fun c45 => ?_)
  · have h := az_t c45 h
    refine az_lconst (v := 0) C dX12_reckonAll_374 (by decide) ?_
    refine az_sub [] rfl ?_
    exact s_X12_reckonAll_375 C G 0 M r h hp
  · have h := az_f c45 h
    refine az_aload_n C 0 dX12_reckonAll_365 rfl ?_
    refine az_getr (r := 60) C o40 fl_X12_113 rfl rfl dX12_reckonAll_366 ?_
    refine az_iconst (v := 0) C dX12_reckonAll_369 (by decide) ?_
    refine az_lld (k := 0) C a60 (az_vin (by decide)) (by decide) dX12_reckonAll_370 ?_
    refine az_goto C 375 dX12_reckonAll_371 (by decide) ?_
    refine az_sub [] rfl ?_
    exact s_X12_reckonAll_375 C G (M.2.1 60 0) M r h hp
set_option maxHeartbeats 4000000 in
set_option maxRecDepth 100000 in
theorem s_X12_reckonAll_10 {Y : az_Y} {V : az_V} {post : Option Value → az_M → Prop} (C : az_C Y V cX12_reckonAll 7 RX12 none 3) (G : Nat) : ∀ (F : Nat) (x2 : Int32) (x3 : Int32) (x4 : Int32) (M : az_M) (r : az_M), f_X12_reckonAll_10 G F x2 x3 x4 M = some r → post none r → AW Y V (az_end Y V post) 7 M 10 [(0, .ref (az_ad V 40)), (2, .int x2), (3, .int x3), (4, .int x4)] [] := by
  have o40 := C.hL.at 40 (ci := 12) rfl
  have a42 := C.hL.ar 42 (t := 0) (len := 5550) rfl
  have a51 := C.hL.ar 51 (t := 0) (len := 400) rfl
  intro F
  induction F with
  | zero =>
    intro x2 x3 x4 M r h
    exact absurd (show (none : Option az_M) = some r from h) (fun q => by cases q)
  | succ F ih =>
    intro x2 x3 x4 M r h hp
    rw [f_X12_reckonAll_10] at h
    refine az_iload C 3 dX12_reckonAll_10 rfl ?_
    refine az_iload_n C 1 dX12_reckonAll_12 rfl ?_
    refine az_icmp_ge C 360 dX12_reckonAll_13 (by decide) (fun c1 => ?_) (fun c1 => ?_)
    · have h := az_t c1 h
      refine az_sub [0, 2] rfl ?_
      exact s_X12_reckonAll_360 C G x3 M r h hp
    · have h := az_f c1 h
      refine az_aload_n C 0 dX12_reckonAll_16 rfl ?_
      refine az_geti C o40 fl_X12_415 rfl dX12_reckonAll_17 ?_
      refine az_if_ne C 360 dX12_reckonAll_20 (by decide) (fun c2 => ?_) (fun c2 => ?_)
      · have h := az_f c2 h
        refine az_sub [0, 2] rfl ?_
        exact s_X12_reckonAll_360 C G x3 M r h hp
      · have h := az_t c2 h
        refine az_aload_n C 0 dX12_reckonAll_23 rfl ?_
        refine az_geti C o40 fl_X12_345 rfl dX12_reckonAll_24 ?_
        refine az_if_eq C 40 dX12_reckonAll_27 (by decide) (fun c3 => ?_) (fun c3 => ?_)
        · have h := az_t c3 h
          refine az_aload_n C 0 dX12_reckonAll_40 rfl ?_
          refine az_getr (r := 42) C o40 fl_X12_13 rfl rfl dX12_reckonAll_41 ?_
          refine az_aload_n C 0 dX12_reckonAll_44 rfl ?_
          refine az_geti C o40 fl_X12_418 rfl dX12_reckonAll_45 ?_
          refine az_bipush (v := 98) C dX12_reckonAll_48 (by decide) ?_
          refine az_iadd C dX12_reckonAll_50 ?_
          refine az_iconst (v := 2) C dX12_reckonAll_51 (by decide) ?_
          refine az_iload C 3 dX12_reckonAll_52 rfl ?_
          refine az_imul C dX12_reckonAll_54 ?_
          refine az_iadd C dX12_reckonAll_55 ?_
          obtain ⟨g4, h⟩ := az_g h
          refine az_ild (k := (((M.1 40 34) + 98) + (2 * x4)).toNatClampNeg) C a42 g4 rfl dX12_reckonAll_56 ?_
          exact s_X12_reckonAll_57 C G (f_X12_reckonAll_10 G F) ih x2 x3 x4 (M.1 42 ((((M.1 40 34) + 98) + (2 * x4)).toNatClampNeg)) M r h hp
        · have h := az_f c3 h
          refine az_aload_n C 0 dX12_reckonAll_30 rfl ?_
          refine az_getr (r := 51) C o40 fl_X12_45 rfl rfl dX12_reckonAll_31 ?_
          refine az_iload C 3 dX12_reckonAll_34 rfl ?_
          obtain ⟨g5, h⟩ := az_g h
          refine az_ild (k := x4.toNatClampNeg) C a51 g5 rfl dX12_reckonAll_36 ?_
          refine az_goto C 57 dX12_reckonAll_37 (by decide) ?_
          exact s_X12_reckonAll_57 C G (f_X12_reckonAll_10 G F) ih x2 x3 x4 (M.1 51 x4.toNatClampNeg) M r h hp
set_option maxHeartbeats 4000000 in
set_option maxRecDepth 100000 in
theorem s_X12_reckonAll_e {Y : az_Y} {V : az_V} {post : Option Value → az_M → Prop} (C : az_C Y V cX12_reckonAll 7 RX12 none 3) (G : Nat) (p0 : Int32) (p1 : Int32) (M : az_M) (r : az_M) (h : f_X12_reckonAll G p0 p1 M = some r) (hp : post none r) : AW Y V (az_end Y V post) 7 M 0 [(0, .ref (az_ad V 40)), (1, .int p0), (2, .int p1)] [] := by
  have o40 := C.hL.at 40 (ci := 12) rfl
  unfold f_X12_reckonAll at h
  refine az_aload_n C 0 dX12_reckonAll_0 rfl ?_
  refine az_iconst (v := 0) C dX12_reckonAll_1 (by decide) ?_
  refine az_puti C o40 fl_X12_415 rfl rfl rfl rfl dX12_reckonAll_2 ?_
  refine az_iconst (v := 0) C dX12_reckonAll_5 (by decide) ?_
  refine az_istore_n C dX12_reckonAll_6 rfl (by decide) rfl ?_
  refine az_iload_n C 2 dX12_reckonAll_7 rfl ?_
  refine az_istore C dX12_reckonAll_8 (by decide) rfl ?_
  refine az_sub [2, 4, 1, 0] rfl ?_
  exact s_X12_reckonAll_10 C G G p1 0 p0 (az_i M 40 38 0) r h hp
theorem c_X12_reckonAll {l : Launch} {V : az_V} (hL : az_L V) (G : Nat) (p0 : Int32) (p1 : Int32) (M : az_M) {r : az_M} (h : f_X12_reckonAll G p0 p1 M = some r) : az_Ct l V yX12_reckonAll cX12_reckonAll 7 none 3 [.ref (az_ad V 40), .int p0, .int p1] M (fun v M' => v = none ∧ M' = r) :=
  az_Ct.of (by decide) (Nat.le_of_ble_eq_true rfl) (fun Y _ _ C => s_X12_reckonAll_e C G p0 p1 M r h ⟨rfl, rfl⟩)
set_option maxHeartbeats 4000000 in
set_option maxRecDepth 100000 in
theorem s_X12_isSo_57 {Y : az_Y} {V : az_V} {post : Option Value → az_M → Prop} (C : az_C Y V cX12_isSo 2 RX12 (some .boolean) 4) (G : Nat)  (M : az_M) (r : (Int32 × az_M)) (h : f_X12_isSo_57 G M = some r) (hp : post (some (.int r.1)) r.2) : AW Y V (az_end Y V post) 2 M 57 [] [] := by
  unfold f_X12_isSo_57 at h
  refine az_iconst (v := 0) C dX12_isSo_57 (by decide) ?_
  obtain rfl := Option.some.inj h
  exact az_zret C dX12_isSo_58 rfl hp
set_option maxHeartbeats 4000000 in
set_option maxRecDepth 100000 in
theorem s_X12_isSo_109 {Y : az_Y} {V : az_V} {post : Option Value → az_M → Prop} (C : az_C Y V cX12_isSo 2 RX12 (some .boolean) 4) (G : Nat) (s0 : Int32) (M : az_M) (r : (Int32 × az_M)) (h : f_X12_isSo_109 G s0 M = some r) (hp : post (some (.int r.1)) r.2) : AW Y V (az_end Y V post) 2 M 109 [] [.int s0] := by
  unfold f_X12_isSo_109 at h
  obtain ⟨g17, h⟩ := az_g2 h
  obtain rfl := Option.some.inj h
  exact az_zret C dX12_isSo_109 (az_nz g17) hp
set_option maxHeartbeats 4000000 in
set_option maxRecDepth 100000 in
theorem s_X12_isSo_59 {Y : az_Y} {V : az_V} {post : Option Value → az_M → Prop} (C : az_C Y V cX12_isSo 2 RX12 (some .boolean) 4) (G : Nat) (x1 : Int32) (M : az_M) (r : (Int32 × az_M)) (h : f_X12_isSo_59 G x1 M = some r) (hp : post (some (.int r.1)) r.2) : AW Y V (az_end Y V post) 2 M 59 [(0, .ref (az_ad V 40)), (1, .int x1)] [] := by
  have o40 := C.hL.at 40 (ci := 12) rfl
  have a42 := C.hL.ar 42 (t := 0) (len := 5550) rfl
  unfold f_X12_isSo_59 at h
  refine az_aload_n C 0 dX12_isSo_59 rfl ?_
  refine az_getr (r := 42) C o40 fl_X12_13 rfl rfl dX12_isSo_60 ?_
  refine az_iload_n C 1 dX12_isSo_63 rfl ?_
  obtain ⟨g10, h⟩ := az_g h
  refine az_ild (k := x1.toNatClampNeg) C a42 g10 rfl dX12_isSo_64 ?_
  refine az_iconst (v := 4) C dX12_isSo_65 (by decide) ?_
  refine az_icmp_eq C 110 dX12_isSo_66 (by decide) (fun c11 => ?_) (fun c11 => ?_)
  · have h := az_t c11 h
    refine az_iconst (v := 1) C dX12_isSo_110 (by decide) ?_
    obtain rfl := Option.some.inj h
    exact az_zret C dX12_isSo_111 rfl hp
  · have h := az_f c11 h
    refine az_aload_n C 0 dX12_isSo_69 rfl ?_
    refine az_aload_n C 0 dX12_isSo_70 rfl ?_
    refine az_getr (r := 42) C o40 fl_X12_13 rfl rfl dX12_isSo_71 ?_
    refine az_iload_n C 1 dX12_isSo_74 rfl ?_
    refine az_iconst (v := 3) C dX12_isSo_75 (by decide) ?_
    refine az_iadd C dX12_isSo_76 ?_
    obtain ⟨g12, h⟩ := az_g h
    refine az_ild (k := (x1 + 3).toNatClampNeg) C a42 g12 rfl dX12_isSo_77 ?_
    refine az_aload_n C 0 dX12_isSo_78 rfl ?_
    refine az_getr (r := 42) C o40 fl_X12_13 rfl rfl dX12_isSo_79 ?_
    refine az_iload_n C 1 dX12_isSo_82 rfl ?_
    refine az_iconst (v := 4) C dX12_isSo_83 (by decide) ?_
    refine az_iadd C dX12_isSo_84 ?_
    obtain ⟨g13, h⟩ := az_g h
    refine az_ild (k := (x1 + 4).toNatClampNeg) C a42 g13 rfl dX12_isSo_85 ?_
    obtain ⟨q14, e15, h⟩ := az_b h
    refine az_cV (rest := []) (st2 := []) C [.int (M.1 42 ((x1 + 3).toNatClampNeg)), .int (M.1 42 ((x1 + 4).toNatClampNeg))] (c_X12_reckonAll C.hL G (M.1 42 ((x1 + 3).toNatClampNeg)) (M.1 42 ((x1 + 4).toNatClampNeg)) M e15) (by decide) li_X12_432 o40 (by decide) rfl rfl (Nat.le_of_ble_eq_true rfl) dX12_isSo_86 rfl ?_
    refine az_aload_n C 0 dX12_isSo_89 rfl ?_
    refine az_aload_n C 0 dX12_isSo_90 rfl ?_
    refine az_getl C o40 fl_X12_429 rfl dX12_isSo_91 ?_
    refine az_putl C o40 fl_X12_435 rfl rfl rfl rfl dX12_isSo_94 ?_
    refine az_aload_n C 0 dX12_isSo_97 rfl ?_
    refine az_geti C o40 fl_X12_415 rfl dX12_isSo_98 ?_
    refine az_if_ne C 108 dX12_isSo_101 (by decide) (fun c16 => ?_) (fun c16 => ?_)
    · have h := az_f c16 h
      refine az_iconst (v := 0) C dX12_isSo_108 (by decide) ?_
      refine az_sub [] rfl ?_
      exact s_X12_isSo_109 C G 0 (az_l q14 40 40 (q14.2.1 40 39)) r h hp
    · have h := az_t c16 h
      refine az_iconst (v := 1) C dX12_isSo_104 (by decide) ?_
      refine az_goto C 109 dX12_isSo_105 (by decide) ?_
      refine az_sub [] rfl ?_
      exact s_X12_isSo_109 C G 1 (az_l q14 40 40 (q14.2.1 40 39)) r h hp
set_option maxHeartbeats 4000000 in
set_option maxRecDepth 100000 in
theorem s_X12_isSo_e {Y : az_Y} {V : az_V} {post : Option Value → az_M → Prop} (C : az_C Y V cX12_isSo 2 RX12 (some .boolean) 4) (G : Nat) (p0 : Int32) (M : az_M) (r : (Int32 × az_M)) (h : f_X12_isSo G p0 M = some r) (hp : post (some (.int r.1)) r.2) : AW Y V (az_end Y V post) 2 M 0 [(0, .ref (az_ad V 40)), (1, .int p0)] [] := by
  have o40 := C.hL.at 40 (ci := 12) rfl
  have a42 := C.hL.ar 42 (t := 0) (len := 5550) rfl
  unfold f_X12_isSo at h
  refine az_aload_n C 0 dX12_isSo_0 rfl ?_
  refine az_getr (r := 42) C o40 fl_X12_13 rfl rfl dX12_isSo_1 ?_
  refine az_iload_n C 1 dX12_isSo_4 rfl ?_
  refine az_iconst (v := 5) C dX12_isSo_5 (by decide) ?_
  refine az_iadd C dX12_isSo_6 ?_
  obtain ⟨g1, h⟩ := az_g h
  refine az_ild (k := (p0 + 5).toNatClampNeg) C a42 g1 rfl dX12_isSo_7 ?_
  refine az_aload_n C 0 dX12_isSo_8 rfl ?_
  refine az_getr (r := 42) C o40 fl_X12_13 rfl rfl dX12_isSo_9 ?_
  refine az_iload_n C 1 dX12_isSo_12 rfl ?_
  refine az_bipush (v := 6) C dX12_isSo_13 (by decide) ?_
  refine az_iadd C dX12_isSo_15 ?_
  obtain ⟨g2, h⟩ := az_g h
  refine az_ild (k := (p0 + 6).toNatClampNeg) C a42 g2 rfl dX12_isSo_16 ?_
  refine az_icmp_ge C 59 dX12_isSo_17 (by decide) (fun c3 => ?_) (fun c3 => ?_)
  · have h := az_t c3 h
    exact s_X12_isSo_59 C G p0 M r h hp
  · have h := az_f c3 h
    refine az_aload_n C 0 dX12_isSo_20 rfl ?_
    refine az_aload_n C 0 dX12_isSo_21 rfl ?_
    refine az_getr (r := 42) C o40 fl_X12_13 rfl rfl dX12_isSo_22 ?_
    refine az_iload_n C 1 dX12_isSo_25 rfl ?_
    refine az_iconst (v := 5) C dX12_isSo_26 (by decide) ?_
    refine az_iadd C dX12_isSo_27 ?_
    obtain ⟨g4, h⟩ := az_g h
    refine az_ild (k := (p0 + 5).toNatClampNeg) C a42 g4 rfl dX12_isSo_28 ?_
    refine az_aload_n C 0 dX12_isSo_29 rfl ?_
    refine az_getr (r := 42) C o40 fl_X12_13 rfl rfl dX12_isSo_30 ?_
    refine az_iload_n C 1 dX12_isSo_33 rfl ?_
    refine az_bipush (v := 6) C dX12_isSo_34 (by decide) ?_
    refine az_iadd C dX12_isSo_36 ?_
    obtain ⟨g5, h⟩ := az_g h
    refine az_ild (k := (p0 + 6).toNatClampNeg) C a42 g5 rfl dX12_isSo_37 ?_
    obtain ⟨q6, e7, h⟩ := az_b h
    refine az_cV (rest := []) (st2 := []) C [.int (M.1 42 ((p0 + 5).toNatClampNeg)), .int (M.1 42 ((p0 + 6).toNatClampNeg))] (c_X12_reckonAll C.hL G (M.1 42 ((p0 + 5).toNatClampNeg)) (M.1 42 ((p0 + 6).toNatClampNeg)) M e7) (by decide) li_X12_432 o40 (by decide) rfl rfl (Nat.le_of_ble_eq_true rfl) dX12_isSo_38 rfl ?_
    refine az_aload_n C 0 dX12_isSo_41 rfl ?_
    refine az_geti C o40 fl_X12_415 rfl dX12_isSo_42 ?_
    refine az_if_ne C 57 dX12_isSo_45 (by decide) (fun c8 => ?_) (fun c8 => ?_)
    · have h := az_f c8 h
      refine az_sub [] rfl ?_
      exact s_X12_isSo_57 C G q6 r h hp
    · have h := az_t c8 h
      refine az_aload_n C 0 dX12_isSo_48 rfl ?_
      refine az_getl C o40 fl_X12_429 rfl dX12_isSo_49 ?_
      refine az_lconst (v := 0) C dX12_isSo_52 (by decide) ?_
      refine az_lcmp C dX12_isSo_53 ?_
      refine az_if_ne C 59 dX12_isSo_54 (by decide) (fun c9 => ?_) (fun c9 => ?_)
      · have h := az_f (fun z => c9 (az_c_eq.mpr z)) h
        exact s_X12_isSo_59 C G p0 q6 r h hp
      · have h := az_t (az_c_eq.mp c9) h
        refine az_sub [] rfl ?_
        exact s_X12_isSo_57 C G q6 r h hp
theorem c_X12_isSo {l : Launch} {V : az_V} (hL : az_L V) (G : Nat) (p0 : Int32) (M : az_M) {r : (Int32 × az_M)} (h : f_X12_isSo G p0 M = some r) : az_Ct l V yX12_isSo cX12_isSo 2 (some .boolean) 4 [.ref (az_ad V 40), .int p0] M (fun v M' => v = some (.int r.1) ∧ M' = r.2) :=
  az_Ct.of (by decide) (Nat.le_of_ble_eq_true rfl) (fun Y _ _ C => s_X12_isSo_e C G p0 M r h ⟨rfl, rfl⟩)
set_option maxHeartbeats 4000000 in
set_option maxRecDepth 100000 in
theorem s_X12_tells_245 {Y : az_Y} {V : az_V} {post : Option Value → az_M → Prop} (C : az_C Y V cX12_tells 11 RX12 (some .long) 5) (G : Nat) (K180 : (Int32 → Int64 → Int32 → az_M → Option (Int64 × az_M))) (hK180 : ∀ (x1 : Int32) (x7 : Int64) (x9 : Int32) (M : az_M) (r : (Int64 × az_M)), K180 x1 x7 x9 M = some r → post (some (.long r.1)) r.2 → AW Y V (az_end Y V post) 11 M 180 [(0, .ref (az_ad V 40)), (1, .int x1), (7, .long x7), (9, .int x9)] []) (x1 : Int32) (x7 : Int64) (x9 : Int32) (M : az_M) (r : (Int64 × az_M)) (h : f_X12_tells_245 G K180 x1 x7 x9 M = some r) (hp : post (some (.long r.1)) r.2) : AW Y V (az_end Y V post) 11 M 245 [(0, .ref (az_ad V 40)), (1, .int x1), (7, .long x7), (9, .int x9)] [] := by
  unfold f_X12_tells_245 at h
  refine az_iinc (v := (x9 + 1)) C 3 dX12_tells_245 rfl rfl (by decide) rfl ?_
  refine az_goto C 180 dX12_tells_248 (by decide) ?_
  refine az_sub [1, 2, 3, 0] rfl ?_
  exact hK180 x1 x7 (x9 + 1) M r h hp
set_option maxHeartbeats 4000000 in
set_option maxRecDepth 100000 in
theorem s_X12_tells_243 {Y : az_Y} {V : az_V} {post : Option Value → az_M → Prop} (C : az_C Y V cX12_tells 11 RX12 (some .long) 5) (G : Nat) (K180 : (Int32 → Int64 → Int32 → az_M → Option (Int64 × az_M))) (hK180 : ∀ (x1 : Int32) (x7 : Int64) (x9 : Int32) (M : az_M) (r : (Int64 × az_M)), K180 x1 x7 x9 M = some r → post (some (.long r.1)) r.2 → AW Y V (az_end Y V post) 11 M 180 [(0, .ref (az_ad V 40)), (1, .int x1), (7, .long x7), (9, .int x9)] []) (x1 : Int32) (x9 : Int32) (s0 : Int64) (M : az_M) (r : (Int64 × az_M)) (h : f_X12_tells_243 G K180 x1 x9 s0 M = some r) (hp : post (some (.long r.1)) r.2) : AW Y V (az_end Y V post) 11 M 243 [(0, .ref (az_ad V 40)), (1, .int x1), (9, .int x9)] [.long s0] := by
  unfold f_X12_tells_243 at h
  refine az_lstore C dX12_tells_243 (by decide) rfl ?_
  refine az_sub [1, 2, 0, 3] rfl ?_
  exact s_X12_tells_245 C G K180 hK180 x1 s0 x9 M r h hp
set_option maxHeartbeats 4000000 in
set_option maxRecDepth 100000 in
theorem s_X12_tells_180 {Y : az_Y} {V : az_V} {post : Option Value → az_M → Prop} (C : az_C Y V cX12_tells 11 RX12 (some .long) 5) (G : Nat) : ∀ (F : Nat) (x1 : Int32) (x7 : Int64) (x9 : Int32) (M : az_M) (r : (Int64 × az_M)), f_X12_tells_180 G F x1 x7 x9 M = some r → post (some (.long r.1)) r.2 → AW Y V (az_end Y V post) 11 M 180 [(0, .ref (az_ad V 40)), (1, .int x1), (7, .long x7), (9, .int x9)] [] := by
  have o40 := C.hL.at 40 (ci := 12) rfl
  have a42 := C.hL.ar 42 (t := 0) (len := 5550) rfl
  intro F
  induction F with
  | zero =>
    intro x1 x7 x9 M r h
    exact absurd (show (none : Option (Int64 × az_M)) = some r from h) (fun q => by cases q)
  | succ F ih =>
    intro x1 x7 x9 M r h hp
    rw [f_X12_tells_180] at h
    refine az_iload C 3 dX12_tells_180 rfl ?_
    refine az_aload_n C 0 dX12_tells_182 rfl ?_
    refine az_getr (r := 42) C o40 fl_X12_13 rfl rfl dX12_tells_183 ?_
    refine az_aload_n C 0 dX12_tells_186 rfl ?_
    refine az_geti C o40 fl_X12_418 rfl dX12_tells_187 ?_
    refine az_iconst (v := 1) C dX12_tells_190 (by decide) ?_
    refine az_iadd C dX12_tells_191 ?_
    obtain ⟨g20, h⟩ := az_g h
    refine az_ild (k := ((M.1 40 34) + 1).toNatClampNeg) C a42 g20 rfl dX12_tells_192 ?_
    refine az_icmp_ge C 251 dX12_tells_193 (by decide) (fun c21 => ?_) (fun c21 => ?_)
    · have h := az_t c21 h
      refine az_lload C 2 dX12_tells_251 rfl ?_
      obtain rfl := Option.some.inj h
      exact az_lret C dX12_tells_253 hp
    · have h := az_f c21 h
      refine az_aload_n C 0 dX12_tells_196 rfl ?_
      refine az_geti C o40 fl_X12_418 rfl dX12_tells_197 ?_
      refine az_iconst (v := 2) C dX12_tells_200 (by decide) ?_
      refine az_iadd C dX12_tells_201 ?_
      refine az_bipush (v := 8) C dX12_tells_202 (by decide) ?_
      refine az_iload C 3 dX12_tells_204 rfl ?_
      refine az_imul C dX12_tells_206 ?_
      refine az_iadd C dX12_tells_207 ?_
      refine az_istore C dX12_tells_208 (by decide) rfl ?_
      refine az_aload_n C 1 dX12_tells_210 rfl ?_
      refine az_getr (r := 42) C o40 fl_X12_13 rfl rfl dX12_tells_211 ?_
      refine az_iload C 0 dX12_tells_214 rfl ?_
      obtain ⟨g22, h⟩ := az_g h
      refine az_ild (k := (((M.1 40 34) + 2) + (8 * x9)).toNatClampNeg) C a42 g22 rfl dX12_tells_216 ?_
      refine az_iload_n C 2 dX12_tells_217 rfl ?_
      refine az_icmp_ne C 245 dX12_tells_218 (by decide) (fun c23 => ?_) (fun c23 => ?_)
      · have h := az_f c23 h
        refine az_sub [1, 2, 3, 4] rfl ?_
        exact s_X12_tells_245 C G (f_X12_tells_180 G F) ih x1 x7 x9 M r h hp
      · have h := az_t c23 h
        refine az_aload_n C 1 dX12_tells_221 rfl ?_
        refine az_iload C 0 dX12_tells_222 rfl ?_
        obtain ⟨q24, e25, h⟩ := az_b h
        refine az_cV (rest := []) (st2 := [.int q24.1]) C [.int (((M.1 40 34) + 2) + (8 * x9))] (c_X12_isSo C.hL G (((M.1 40 34) + 2) + (8 * x9)) M e25) (by decide) li_X12_438 o40 (by decide) rfl rfl (Nat.le_of_ble_eq_true rfl) dX12_tells_224 rfl ?_
        refine az_if_eq C 245 dX12_tells_227 (by decide) (fun c26 => ?_) (fun c26 => ?_)
        · have h := az_t c26 h
          refine az_sub [1, 2, 3, 4] rfl ?_
          exact s_X12_tells_245 C G (f_X12_tells_180 G F) ih x1 x7 x9 q24.2 r h hp
        · have h := az_f c26 h
          refine az_iload_n C 2 dX12_tells_230 rfl ?_
          refine az_iconst (v := 4) C dX12_tells_231 (by decide) ?_
          refine az_icmp_ne C 239 dX12_tells_232 (by decide) (fun c27 => ?_) (fun c27 => ?_)
          · have h := az_f c27 h
            refine az_aload_n C 1 dX12_tells_239 rfl ?_
            refine az_getl C o40 fl_X12_435 rfl dX12_tells_240 ?_
            refine az_sub [1, 2, 4] rfl ?_
            exact s_X12_tells_243 C G (f_X12_tells_180 G F) ih x1 x9 (q24.2.2.1 40 40) q24.2 r h hp
          · have h := az_t c27 h
            refine az_lconst (v := 1) C dX12_tells_235 (by decide) ?_
            refine az_goto C 243 dX12_tells_236 (by decide) ?_
            refine az_sub [1, 2, 4] rfl ?_
            exact s_X12_tells_243 C G (f_X12_tells_180 G F) ih x1 x9 1 q24.2 r h hp
set_option maxHeartbeats 4000000 in
set_option maxRecDepth 100000 in
theorem s_X12_tells_62 {Y : az_Y} {V : az_V} {post : Option Value → az_M → Prop} (C : az_C Y V cX12_tells 11 RX12 (some .long) 5) (G : Nat) (x1 : Int32) (x3 : Int32) (x4 : Int32) (x5 : Int64) (s0 : Int64) (s1 : Int32) (M : az_M) (r : (Int64 × az_M)) (h : f_X12_tells_62 G x1 x3 x4 x5 s0 s1 M = some r) (hp : post (some (.long r.1)) r.2) : AW Y V (az_end Y V post) 11 M 62 [(0, .ref (az_ad V 40)), (1, .int x1), (3, .int x3), (4, .int x4), (5, .long x5)] [.long s0, .int s1, .ref (az_ad V 58)] := by
  have o40 := C.hL.at 40 (ci := 12) rfl
  have a58 := C.hL.ar 58 (t := 1) (len := 13) rfl
  unfold f_X12_tells_62 at h
  obtain ⟨g5, h⟩ := az_g h
  refine az_lst (k := s1.toNatClampNeg) C a58 g5 rfl dX12_tells_62 ?_
  refine az_aload_n C 0 dX12_tells_63 rfl ?_
  refine az_getr (r := 58) C o40 fl_X12_107 rfl rfl dX12_tells_64 ?_
  refine az_iconst (v := 3) C dX12_tells_67 (by decide) ?_
  refine az_iload_n C 2 dX12_tells_68 rfl ?_
  refine az_i2l C dX12_tells_69 ?_
  refine az_lst (k := 3) C a58 (az_vin (by decide)) (by decide) dX12_tells_70 ?_
  refine az_aload_n C 0 dX12_tells_71 rfl ?_
  refine az_getr (r := 58) C o40 fl_X12_107 rfl rfl dX12_tells_72 ?_
  refine az_iconst (v := 4) C dX12_tells_75 (by decide) ?_
  refine az_aload_n C 0 dX12_tells_76 rfl ?_
  refine az_iload_n C 2 dX12_tells_77 rfl ?_
  refine az_iconst (v := 0) C dX12_tells_78 (by decide) ?_
  obtain ⟨q6, e7, h⟩ := az_b h
  refine az_cV (rest := [.int 4, .ref (az_ad V 58)]) (st2 := [.int q6, .int 4, .ref (az_ad V 58)]) C [.int x3, .int 0] (c_X12_ofPlace C.hL x3 0 (az_l (az_l M 58 s1.toNatClampNeg s0) 58 3 x3.toInt64) e7) (by decide) li_X12_221 o40 (by decide) rfl rfl (Nat.le_of_ble_eq_true rfl) dX12_tells_79 rfl ?_
  refine az_i2l C dX12_tells_82 ?_
  refine az_lst (k := 4) C a58 (az_vin (by decide)) (by decide) dX12_tells_83 ?_
  refine az_aload_n C 0 dX12_tells_84 rfl ?_
  refine az_getr (r := 58) C o40 fl_X12_107 rfl rfl dX12_tells_85 ?_
  refine az_iconst (v := 5) C dX12_tells_88 (by decide) ?_
  refine az_aload_n C 0 dX12_tells_89 rfl ?_
  refine az_iload_n C 2 dX12_tells_90 rfl ?_
  refine az_iconst (v := 1) C dX12_tells_91 (by decide) ?_
  obtain ⟨q8, e9, h⟩ := az_b h
  refine az_cV (rest := [.int 5, .ref (az_ad V 58)]) (st2 := [.int q8, .int 5, .ref (az_ad V 58)]) C [.int x3, .int 1] (c_X12_ofPlace C.hL x3 1 (az_l (az_l (az_l M 58 s1.toNatClampNeg s0) 58 3 x3.toInt64) 58 4 q6.toInt64) e9) (by decide) li_X12_221 o40 (by decide) rfl rfl (Nat.le_of_ble_eq_true rfl) dX12_tells_92 rfl ?_
  refine az_i2l C dX12_tells_95 ?_
  refine az_lst (k := 5) C a58 (az_vin (by decide)) (by decide) dX12_tells_96 ?_
  refine az_aload_n C 0 dX12_tells_97 rfl ?_
  refine az_getr (r := 58) C o40 fl_X12_107 rfl rfl dX12_tells_98 ?_
  refine az_bipush (v := 6) C dX12_tells_101 (by decide) ?_
  refine az_aload_n C 0 dX12_tells_103 rfl ?_
  refine az_iload_n C 2 dX12_tells_104 rfl ?_
  refine az_iconst (v := 3) C dX12_tells_105 (by decide) ?_
  obtain ⟨q10, e11, h⟩ := az_b h
  refine az_cV (rest := [.int 6, .ref (az_ad V 58)]) (st2 := [.int q10, .int 6, .ref (az_ad V 58)]) C [.int x3, .int 3] (c_X12_ofPlace C.hL x3 3 (az_l (az_l (az_l (az_l M 58 s1.toNatClampNeg s0) 58 3 x3.toInt64) 58 4 q6.toInt64) 58 5 q8.toInt64) e11) (by decide) li_X12_221 o40 (by decide) rfl rfl (Nat.le_of_ble_eq_true rfl) dX12_tells_106 rfl ?_
  refine az_i2l C dX12_tells_109 ?_
  refine az_lst (k := 6) C a58 (az_vin (by decide)) (by decide) dX12_tells_110 ?_
  refine az_aload_n C 0 dX12_tells_111 rfl ?_
  refine az_getr (r := 58) C o40 fl_X12_107 rfl rfl dX12_tells_112 ?_
  refine az_bipush (v := 7) C dX12_tells_115 (by decide) ?_
  refine az_iload C 3 dX12_tells_117 rfl ?_
  refine az_i2l C dX12_tells_119 ?_
  refine az_lst (k := 7) C a58 (az_vin (by decide)) (by decide) dX12_tells_120 ?_
  refine az_aload_n C 0 dX12_tells_121 rfl ?_
  refine az_getr (r := 58) C o40 fl_X12_107 rfl rfl dX12_tells_122 ?_
  refine az_bipush (v := 8) C dX12_tells_125 (by decide) ?_
  refine az_aload_n C 0 dX12_tells_127 rfl ?_
  refine az_iconst (v := 1) C dX12_tells_128 (by decide) ?_
  obtain ⟨q12, e13, h⟩ := az_b h
  refine az_cV (rest := [.int 8, .ref (az_ad V 58)]) (st2 := [.int q12, .int 8, .ref (az_ad V 58)]) C [.int 1] (c_X12_bulletOf C.hL 1 (az_l (az_l (az_l (az_l (az_l (az_l M 58 s1.toNatClampNeg s0) 58 3 x3.toInt64) 58 4 q6.toInt64) 58 5 q8.toInt64) 58 6 q10.toInt64) 58 7 x4.toInt64) e13) (by decide) li_X12_186 o40 (by decide) rfl rfl (Nat.le_of_ble_eq_true rfl) dX12_tells_129 rfl ?_
  refine az_i2l C dX12_tells_132 ?_
  refine az_lst (k := 8) C a58 (az_vin (by decide)) (by decide) dX12_tells_133 ?_
  refine az_aload_n C 0 dX12_tells_134 rfl ?_
  refine az_getr (r := 58) C o40 fl_X12_107 rfl rfl dX12_tells_135 ?_
  refine az_bipush (v := 9) C dX12_tells_138 (by decide) ?_
  refine az_aload_n C 0 dX12_tells_140 rfl ?_
  refine az_iconst (v := 2) C dX12_tells_141 (by decide) ?_
  obtain ⟨q14, e15, h⟩ := az_b h
  refine az_cV (rest := [.int 9, .ref (az_ad V 58)]) (st2 := [.int q14, .int 9, .ref (az_ad V 58)]) C [.int 2] (c_X12_bulletOf C.hL 2 (az_l (az_l (az_l (az_l (az_l (az_l (az_l M 58 s1.toNatClampNeg s0) 58 3 x3.toInt64) 58 4 q6.toInt64) 58 5 q8.toInt64) 58 6 q10.toInt64) 58 7 x4.toInt64) 58 8 q12.toInt64) e15) (by decide) li_X12_186 o40 (by decide) rfl rfl (Nat.le_of_ble_eq_true rfl) dX12_tells_142 rfl ?_
  refine az_i2l C dX12_tells_145 ?_
  refine az_lst (k := 9) C a58 (az_vin (by decide)) (by decide) dX12_tells_146 ?_
  refine az_aload_n C 0 dX12_tells_147 rfl ?_
  refine az_getr (r := 58) C o40 fl_X12_107 rfl rfl dX12_tells_148 ?_
  refine az_bipush (v := 10) C dX12_tells_151 (by decide) ?_
  refine az_aload_n C 0 dX12_tells_153 rfl ?_
  refine az_iconst (v := 0) C dX12_tells_154 (by decide) ?_
  obtain ⟨q16, e17, h⟩ := az_b h
  refine az_cV (rest := [.int 10, .ref (az_ad V 58)]) (st2 := [.int q16, .int 10, .ref (az_ad V 58)]) C [.int 0] (c_X12_term C.hL 0 (az_l (az_l (az_l (az_l (az_l (az_l (az_l (az_l M 58 s1.toNatClampNeg s0) 58 3 x3.toInt64) 58 4 q6.toInt64) 58 5 q8.toInt64) 58 6 q10.toInt64) 58 7 x4.toInt64) 58 8 q12.toInt64) 58 9 q14.toInt64) e17) (by decide) li_X12_189 o40 (by decide) rfl rfl (Nat.le_of_ble_eq_true rfl) dX12_tells_155 rfl ?_
  refine az_i2l C dX12_tells_158 ?_
  refine az_lst (k := 10) C a58 (az_vin (by decide)) (by decide) dX12_tells_159 ?_
  refine az_aload_n C 0 dX12_tells_160 rfl ?_
  refine az_getr (r := 58) C o40 fl_X12_107 rfl rfl dX12_tells_161 ?_
  refine az_bipush (v := 11) C dX12_tells_164 (by decide) ?_
  refine az_aload_n C 0 dX12_tells_166 rfl ?_
  refine az_iconst (v := 4) C dX12_tells_167 (by decide) ?_
  obtain ⟨q18, e19, h⟩ := az_b h
  refine az_cV (rest := [.int 11, .ref (az_ad V 58)]) (st2 := [.int q18, .int 11, .ref (az_ad V 58)]) C [.int 4] (c_X12_term C.hL 4 (az_l (az_l (az_l (az_l (az_l (az_l (az_l (az_l (az_l M 58 s1.toNatClampNeg s0) 58 3 x3.toInt64) 58 4 q6.toInt64) 58 5 q8.toInt64) 58 6 q10.toInt64) 58 7 x4.toInt64) 58 8 q12.toInt64) 58 9 q14.toInt64) 58 10 q16.toInt64) e19) (by decide) li_X12_189 o40 (by decide) rfl rfl (Nat.le_of_ble_eq_true rfl) dX12_tells_168 rfl ?_
  refine az_i2l C dX12_tells_171 ?_
  refine az_lst (k := 11) C a58 (az_vin (by decide)) (by decide) dX12_tells_172 ?_
  refine az_lload C 4 dX12_tells_173 rfl ?_
  refine az_lstore C dX12_tells_175 (by decide) rfl ?_
  refine az_iconst (v := 0) C dX12_tells_177 (by decide) ?_
  refine az_istore C dX12_tells_178 (by decide) rfl ?_
  refine az_sub [2, 3, 1, 0] rfl ?_
  exact s_X12_tells_180 C G G x1 x5 0 (az_l (az_l (az_l (az_l (az_l (az_l (az_l (az_l (az_l (az_l M 58 s1.toNatClampNeg s0) 58 3 x3.toInt64) 58 4 q6.toInt64) 58 5 q8.toInt64) 58 6 q10.toInt64) 58 7 x4.toInt64) 58 8 q12.toInt64) 58 9 q14.toInt64) 58 10 q16.toInt64) 58 11 q18.toInt64) r h hp
set_option maxHeartbeats 4000000 in
set_option maxRecDepth 100000 in
theorem s_X12_tells_e {Y : az_Y} {V : az_V} {post : Option Value → az_M → Prop} (C : az_C Y V cX12_tells 11 RX12 (some .long) 5) (G : Nat) (p0 : Int32) (p1 : Int32) (p2 : Int32) (p3 : Int32) (p4 : Int64) (M : az_M) (r : (Int64 × az_M)) (h : f_X12_tells G p0 p1 p2 p3 p4 M = some r) (hp : post (some (.long r.1)) r.2) : AW Y V (az_end Y V post) 11 M 0 [(0, .ref (az_ad V 40)), (1, .int p0), (2, .int p1), (3, .int p2), (4, .int p3), (5, .long p4)] [] := by
  have o40 := C.hL.at 40 (ci := 12) rfl
  have a42 := C.hL.ar 42 (t := 0) (len := 5550) rfl
  have a58 := C.hL.ar 58 (t := 1) (len := 13) rfl
  unfold f_X12_tells at h
  refine az_aload_n C 0 dX12_tells_0 rfl ?_
  refine az_getr (r := 42) C o40 fl_X12_13 rfl rfl dX12_tells_1 ?_
  refine az_iconst (v := 5) C dX12_tells_4 (by decide) ?_
  refine az_ild (k := 5) C a42 (az_vin (by decide)) (by decide) dX12_tells_5 ?_
  refine az_iconst (v := (-1)) C dX12_tells_6 (by decide) ?_
  refine az_icmp_ne C 13 dX12_tells_7 (by decide) (fun c1 => ?_) (fun c1 => ?_)
  · have h := az_f c1 h
    refine az_aload_n C 0 dX12_tells_13 rfl ?_
    refine az_sipush (v := 150) C dX12_tells_14 (by decide) ?_
    refine az_sipush (v := 900) C dX12_tells_17 (by decide) ?_
    refine az_aload_n C 0 dX12_tells_20 rfl ?_
    refine az_getr (r := 42) C o40 fl_X12_13 rfl rfl dX12_tells_21 ?_
    refine az_iconst (v := 5) C dX12_tells_24 (by decide) ?_
    refine az_ild (k := 5) C a42 (az_vin (by decide)) (by decide) dX12_tells_25 ?_
    refine az_imul C dX12_tells_26 ?_
    refine az_iadd C dX12_tells_27 ?_
    refine az_puti C o40 fl_X12_418 rfl rfl rfl rfl dX12_tells_28 ?_
    refine az_aload_n C 0 dX12_tells_31 rfl ?_
    refine az_getr (r := 58) C o40 fl_X12_107 rfl rfl dX12_tells_32 ?_
    refine az_iconst (v := 1) C dX12_tells_35 (by decide) ?_
    refine az_iload_n C 2 dX12_tells_36 rfl ?_
    refine az_i2l C dX12_tells_37 ?_
    refine az_lst (k := 1) C a58 (az_vin (by decide)) (by decide) dX12_tells_38 ?_
    refine az_aload_n C 0 dX12_tells_39 rfl ?_
    refine az_getr (r := 58) C o40 fl_X12_107 rfl rfl dX12_tells_40 ?_
    refine az_iconst (v := 2) C dX12_tells_43 (by decide) ?_
    refine az_iload_n C 2 dX12_tells_44 rfl ?_
    refine az_iconst (v := (-1)) C dX12_tells_45 (by decide) ?_
    refine az_icmp_ne C 55 dX12_tells_46 (by decide) (fun c2 => ?_) (fun c2 => ?_)
    · have h := az_f c2 h
      refine az_aload_n C 0 dX12_tells_55 rfl ?_
      refine az_iload_n C 2 dX12_tells_56 rfl ?_
      refine az_iconst (v := 0) C dX12_tells_57 (by decide) ?_
      obtain ⟨q3, e4, h⟩ := az_b h
      refine az_cV (rest := [.int 2, .ref (az_ad V 58)]) (st2 := [.int q3, .int 2, .ref (az_ad V 58)]) C [.int p1, .int 0] (c_X12_ofPerson C.hL p1 0 (az_l (az_i M 40 34 (150 + (900 * (M.1 42 5)))) 58 1 p1.toInt64) e4) (by decide) li_X12_226 o40 (by decide) rfl rfl (Nat.le_of_ble_eq_true rfl) dX12_tells_58 rfl ?_
      refine az_i2l C dX12_tells_61 ?_
      refine az_sub [0, 1, 3, 4, 5] rfl ?_
      exact s_X12_tells_62 C G p0 p2 p3 p4 q3.toInt64 2 (az_l (az_i M 40 34 (150 + (900 * (M.1 42 5)))) 58 1 p1.toInt64) r h hp
    · have h := az_t c2 h
      refine az_ldc2 C ck_X12_297 dX12_tells_49 ?_
      refine az_goto C 62 dX12_tells_52 (by decide) ?_
      refine az_sub [0, 1, 3, 4, 5] rfl ?_
      exact s_X12_tells_62 C G p0 p2 p3 p4 (-1) 2 (az_l (az_i M 40 34 (150 + (900 * (M.1 42 5)))) 58 1 p1.toInt64) r h hp
  · have h := az_t c1 h
    refine az_lload C 5 dX12_tells_10 rfl ?_
    obtain rfl := Option.some.inj h
    exact az_lret C dX12_tells_12 hp
theorem c_X12_tells {l : Launch} {V : az_V} (hL : az_L V) (G : Nat) (p0 : Int32) (p1 : Int32) (p2 : Int32) (p3 : Int32) (p4 : Int64) (M : az_M) {r : (Int64 × az_M)} (h : f_X12_tells G p0 p1 p2 p3 p4 M = some r) : az_Ct l V yX12_tells cX12_tells 11 (some .long) 5 [.ref (az_ad V 40), .int p0, .int p1, .int p2, .int p3, .long p4] M (fun v M' => v = some (.long r.1) ∧ M' = r.2) :=
  az_Ct.of (by decide) (Nat.le_of_ble_eq_true rfl) (fun Y _ _ C => s_X12_tells_e C G p0 p1 p2 p3 p4 M r h ⟨rfl, rfl⟩)
set_option maxHeartbeats 4000000 in
set_option maxRecDepth 100000 in
theorem s_X12_flattensOf_e {Y : az_Y} {V : az_V} {post : Option Value → az_M → Prop} (C : az_C Y V cX12_flattensOf 2 RX12 (some .int) 6) (G : Nat) (p0 : Int32) (M : az_M) (r : (Int32 × az_M)) (h : f_X12_flattensOf G p0 M = some r) (hp : post (some (.int r.1)) r.2) : AW Y V (az_end Y V post) 2 M 0 [(0, .ref (az_ad V 40)), (1, .int p0)] [] := by
  have o40 := C.hL.at 40 (ci := 12) rfl
  unfold f_X12_flattensOf at h
  refine az_aload_n C 0 dX12_flattensOf_0 rfl ?_
  refine az_iconst (v := 2) C dX12_flattensOf_1 (by decide) ?_
  refine az_iconst (v := (-1)) C dX12_flattensOf_2 (by decide) ?_
  refine az_iload_n C 1 dX12_flattensOf_3 rfl ?_
  refine az_aload_n C 0 dX12_flattensOf_4 rfl ?_
  refine az_iconst (v := 0) C dX12_flattensOf_5 (by decide) ?_
  obtain ⟨q1, e2, h⟩ := az_b h
  refine az_cV (rest := [.int p0, .int (-1), .int 2, .ref (az_ad V 40)]) (st2 := [.int q1, .int p0, .int (-1), .int 2, .ref (az_ad V 40)]) C [.int 0] (c_X12_bulletOf C.hL 0 M e2) (by decide) li_X12_186 o40 (by decide) rfl rfl (Nat.le_of_ble_eq_true rfl) dX12_flattensOf_6 rfl ?_
  refine az_aload_n C 0 dX12_flattensOf_9 rfl ?_
  refine az_iload_n C 1 dX12_flattensOf_10 rfl ?_
  refine az_iconst (v := 1) C dX12_flattensOf_11 (by decide) ?_
  obtain ⟨q3, e4, h⟩ := az_b h
  refine az_cV (rest := [.int q1, .int p0, .int (-1), .int 2, .ref (az_ad V 40)]) (st2 := [.int q3, .int q1, .int p0, .int (-1), .int 2, .ref (az_ad V 40)]) C [.int p0, .int 1] (c_X12_ofPlace C.hL p0 1 M e4) (by decide) li_X12_221 o40 (by decide) rfl rfl (Nat.le_of_ble_eq_true rfl) dX12_flattensOf_12 rfl ?_
  refine az_bipush (v := 20) C dX12_flattensOf_15 (by decide) ?_
  refine az_idiv C dX12_flattensOf_17 (by decide) ?_
  refine az_i2l C dX12_flattensOf_18 ?_
  obtain ⟨q5, e6, h⟩ := az_b h
  refine az_cV (rest := []) (st2 := [.long q5.1]) C [.int 2, .int (-1), .int p0, .int q1, .long ((q3 / 20).toInt64)] (c_X12_tells C.hL G 2 (-1) p0 q1 ((q3 / 20).toInt64) M e6) (by decide) li_X12_441 o40 (by decide) rfl rfl (Nat.le_of_ble_eq_true rfl) dX12_flattensOf_19 rfl ?_
  refine az_iconst (v := 0) C dX12_flattensOf_22 (by decide) ?_
  refine az_bipush (v := 99) C dX12_flattensOf_23 (by decide) ?_
  obtain ⟨q7, e8, h⟩ := az_b h
  refine az_cS (rest := []) (st2 := [.int q7]) C [.long q5.1, .int 0, .int 99] (c_X12_within C.hL q5.1 0 99 q5.2 e8) (by decide) li_X12_445 rfl rfl (Nat.le_of_ble_eq_true rfl) dX12_flattensOf_25 rfl ?_
  obtain rfl := Option.some.inj h
  exact az_iret C dX12_flattensOf_28 hp
theorem c_X12_flattensOf {l : Launch} {V : az_V} (hL : az_L V) (G : Nat) (p0 : Int32) (M : az_M) {r : (Int32 × az_M)} (h : f_X12_flattensOf G p0 M = some r) : az_Ct l V yX12_flattensOf cX12_flattensOf 2 (some .int) 6 [.ref (az_ad V 40), .int p0] M (fun v M' => v = some (.int r.1) ∧ M' = r.2) :=
  az_Ct.of (by decide) (Nat.le_of_ble_eq_true rfl) (fun Y _ _ C => s_X12_flattensOf_e C G p0 M r h ⟨rfl, rfl⟩)
set_option maxHeartbeats 4000000 in
set_option maxRecDepth 100000 in
theorem s_X12_pricesOf_44 {Y : az_Y} {V : az_V} {post : Option Value → az_M → Prop} (C : az_C Y V cX12_pricesOf 4 RX12 (some .int) 6) (G : Nat) (s0 : Int32) (M : az_M) (r : (Int32 × az_M)) (h : f_X12_pricesOf_44 G s0 M = some r) (hp : post (some (.int r.1)) r.2) : AW Y V (az_end Y V post) 4 M 44 [] [.int s0] := by
  unfold f_X12_pricesOf_44 at h
  obtain rfl := Option.some.inj h
  exact az_iret C dX12_pricesOf_44 hp
set_option maxHeartbeats 4000000 in
set_option maxRecDepth 100000 in
theorem s_X12_pricesOf_e {Y : az_Y} {V : az_V} {post : Option Value → az_M → Prop} (C : az_C Y V cX12_pricesOf 4 RX12 (some .int) 6) (G : Nat) (p0 : Int32) (M : az_M) (r : (Int32 × az_M)) (h : f_X12_pricesOf G p0 M = some r) (hp : post (some (.int r.1)) r.2) : AW Y V (az_end Y V post) 4 M 0 [(0, .ref (az_ad V 40)), (1, .int p0)] [] := by
  have o40 := C.hL.at 40 (ci := 12) rfl
  unfold f_X12_pricesOf at h
  refine az_aload_n C 0 dX12_pricesOf_0 rfl ?_
  refine az_iconst (v := 3) C dX12_pricesOf_1 (by decide) ?_
  refine az_iconst (v := (-1)) C dX12_pricesOf_2 (by decide) ?_
  refine az_iload_n C 1 dX12_pricesOf_3 rfl ?_
  refine az_aload_n C 0 dX12_pricesOf_4 rfl ?_
  refine az_iconst (v := 0) C dX12_pricesOf_5 (by decide) ?_
  obtain ⟨q1, e2, h⟩ := az_b h
  refine az_cV (rest := [.int p0, .int (-1), .int 3, .ref (az_ad V 40)]) (st2 := [.int q1, .int p0, .int (-1), .int 3, .ref (az_ad V 40)]) C [.int 0] (c_X12_bulletOf C.hL 0 M e2) (by decide) li_X12_186 o40 (by decide) rfl rfl (Nat.le_of_ble_eq_true rfl) dX12_pricesOf_6 rfl ?_
  refine az_ldc2 C ck_X12_449 dX12_pricesOf_9 ?_
  obtain ⟨q3, e4, h⟩ := az_b h
  refine az_cV (rest := []) (st2 := [.long q3.1]) C [.int 3, .int (-1), .int p0, .int q1, .long 2000000000] (c_X12_tells C.hL G 3 (-1) p0 q1 2000000000 M e4) (by decide) li_X12_441 o40 (by decide) rfl rfl (Nat.le_of_ble_eq_true rfl) dX12_pricesOf_12 rfl ?_
  refine az_lstore_n C dX12_pricesOf_15 rfl (by decide) rfl ?_
  refine az_lload_n C 0 dX12_pricesOf_16 rfl ?_
  refine az_ldc2 C ck_X12_449 dX12_pricesOf_17 ?_
  refine az_lcmp C dX12_pricesOf_20 ?_
  refine az_if_ne C 36 dX12_pricesOf_21 (by decide) (fun c5 => ?_) (fun c5 => ?_)
  · have h := az_f (fun z => c5 (az_c_eq.mpr z)) h
    refine az_lload_n C 0 dX12_pricesOf_36 rfl ?_
    refine az_iconst (v := 0) C dX12_pricesOf_37 (by decide) ?_
    refine az_sipush (v := 9999) C dX12_pricesOf_38 (by decide) ?_
    obtain ⟨q6, e7, h⟩ := az_b h
    refine az_cS (rest := []) (st2 := [.int q6]) C [.long q3.1, .int 0, .int 9999] (c_X12_within C.hL q3.1 0 9999 q3.2 e7) (by decide) li_X12_445 rfl rfl (Nat.le_of_ble_eq_true rfl) dX12_pricesOf_41 rfl ?_
    refine az_sub [] rfl ?_
    exact s_X12_pricesOf_44 C G q6 q3.2 r h hp
  · have h := az_t (az_c_eq.mp c5) h
    refine az_bipush (v := 10) C dX12_pricesOf_24 (by decide) ?_
    refine az_aload_n C 1 dX12_pricesOf_26 rfl ?_
    refine az_iload_n C 2 dX12_pricesOf_27 rfl ?_
    refine az_iconst (v := 3) C dX12_pricesOf_28 (by decide) ?_
    obtain ⟨q8, e9, h⟩ := az_b h
    refine az_cV (rest := [.int 10]) (st2 := [.int q8, .int 10]) C [.int p0, .int 3] (c_X12_ofPlace C.hL p0 3 q3.2 e9) (by decide) li_X12_221 o40 (by decide) rfl rfl (Nat.le_of_ble_eq_true rfl) dX12_pricesOf_29 rfl ?_
    refine az_imul C dX12_pricesOf_32 ?_
    refine az_goto C 44 dX12_pricesOf_33 (by decide) ?_
    refine az_sub [] rfl ?_
    exact s_X12_pricesOf_44 C G (10 * q8) q3.2 r h hp
theorem c_X12_pricesOf {l : Launch} {V : az_V} (hL : az_L V) (G : Nat) (p0 : Int32) (M : az_M) {r : (Int32 × az_M)} (h : f_X12_pricesOf G p0 M = some r) : az_Ct l V yX12_pricesOf cX12_pricesOf 4 (some .int) 6 [.ref (az_ad V 40), .int p0] M (fun v M' => v = some (.int r.1) ∧ M' = r.2) :=
  az_Ct.of (by decide) (Nat.le_of_ble_eq_true rfl) (fun Y _ _ C => s_X12_pricesOf_e C G p0 M r h ⟨rfl, rfl⟩)
set_option maxHeartbeats 4000000 in
set_option maxRecDepth 100000 in
theorem s_X12_wearsOf_e {Y : az_Y} {V : az_V} {post : Option Value → az_M → Prop} (C : az_C Y V cX12_wearsOf 3 RX12 (some .int) 6) (G : Nat) (p0 : Int32) (p1 : Int32) (M : az_M) (r : (Int32 × az_M)) (h : f_X12_wearsOf G p0 p1 M = some r) (hp : post (some (.int r.1)) r.2) : AW Y V (az_end Y V post) 3 M 0 [(0, .ref (az_ad V 40)), (1, .int p0), (2, .int p1)] [] := by
  have o40 := C.hL.at 40 (ci := 12) rfl
  unfold f_X12_wearsOf at h
  refine az_aload_n C 0 dX12_wearsOf_0 rfl ?_
  refine az_iconst (v := 1) C dX12_wearsOf_1 (by decide) ?_
  refine az_iconst (v := (-1)) C dX12_wearsOf_2 (by decide) ?_
  refine az_iload_n C 1 dX12_wearsOf_3 rfl ?_
  refine az_iload_n C 2 dX12_wearsOf_4 rfl ?_
  refine az_aload_n C 0 dX12_wearsOf_5 rfl ?_
  refine az_iload_n C 1 dX12_wearsOf_6 rfl ?_
  refine az_iconst (v := 1) C dX12_wearsOf_7 (by decide) ?_
  obtain ⟨q1, e2, h⟩ := az_b h
  refine az_cV (rest := [.int p1, .int p0, .int (-1), .int 1, .ref (az_ad V 40)]) (st2 := [.int q1, .int p1, .int p0, .int (-1), .int 1, .ref (az_ad V 40)]) C [.int p0, .int 1] (c_X12_ofPlace C.hL p0 1 M e2) (by decide) li_X12_221 o40 (by decide) rfl rfl (Nat.le_of_ble_eq_true rfl) dX12_wearsOf_8 rfl ?_
  refine az_bipush (v := 10) C dX12_wearsOf_11 (by decide) ?_
  refine az_idiv C dX12_wearsOf_13 (by decide) ?_
  refine az_i2l C dX12_wearsOf_14 ?_
  obtain ⟨q3, e4, h⟩ := az_b h
  refine az_cV (rest := []) (st2 := [.long q3.1]) C [.int 1, .int (-1), .int p0, .int p1, .long ((q1 / 10).toInt64)] (c_X12_tells C.hL G 1 (-1) p0 p1 ((q1 / 10).toInt64) M e4) (by decide) li_X12_441 o40 (by decide) rfl rfl (Nat.le_of_ble_eq_true rfl) dX12_wearsOf_15 rfl ?_
  refine az_iconst (v := 0) C dX12_wearsOf_18 (by decide) ?_
  refine az_bipush (v := 99) C dX12_wearsOf_19 (by decide) ?_
  obtain ⟨q5, e6, h⟩ := az_b h
  refine az_cS (rest := []) (st2 := [.int q5]) C [.long q3.1, .int 0, .int 99] (c_X12_within C.hL q3.1 0 99 q3.2 e6) (by decide) li_X12_445 rfl rfl (Nat.le_of_ble_eq_true rfl) dX12_wearsOf_21 rfl ?_
  obtain rfl := Option.some.inj h
  exact az_iret C dX12_wearsOf_24 hp
theorem c_X12_wearsOf {l : Launch} {V : az_V} (hL : az_L V) (G : Nat) (p0 : Int32) (p1 : Int32) (M : az_M) {r : (Int32 × az_M)} (h : f_X12_wearsOf G p0 p1 M = some r) : az_Ct l V yX12_wearsOf cX12_wearsOf 3 (some .int) 6 [.ref (az_ad V 40), .int p0, .int p1] M (fun v M' => v = some (.int r.1) ∧ M' = r.2) :=
  az_Ct.of (by decide) (Nat.le_of_ble_eq_true rfl) (fun Y _ _ C => s_X12_wearsOf_e C G p0 p1 M r h ⟨rfl, rfl⟩)
set_option maxHeartbeats 4000000 in
set_option maxRecDepth 100000 in
theorem s_X12_at_25 {Y : az_Y} {V : az_V} {post : Option Value → az_M → Prop} (C : az_C Y V cX12_at 3 RX12 (some .int) 7) (G : Nat)  (M : az_M) (r : (Int32 × az_M)) (h : f_X12_at_25 G M = some r) (hp : post (some (.int r.1)) r.2) : AW Y V (az_end Y V post) 3 M 25 [] [] := by
  unfold f_X12_at_25 at h
  refine az_iconst (v := (-1)) C dX12_at_25 (by decide) ?_
  obtain rfl := Option.some.inj h
  exact az_iret C dX12_at_26 hp
set_option maxHeartbeats 4000000 in
set_option maxRecDepth 100000 in
theorem s_X12_at_e {Y : az_Y} {V : az_V} {post : Option Value → az_M → Prop} (C : az_C Y V cX12_at 3 RX12 (some .int) 7) (G : Nat) (p0 : Int32) (p1 : Int32) (M : az_M) (r : (Int32 × az_M)) (h : f_X12_at G p0 p1 M = some r) (hp : post (some (.int r.1)) r.2) : AW Y V (az_end Y V post) 3 M 0 [(0, .ref (az_ad V 40)), (1, .int p0), (2, .int p1)] [] := by
  have o40 := C.hL.at 40 (ci := 12) rfl
  unfold f_X12_at at h
  refine az_aload_n C 0 dX12_at_0 rfl ?_
  refine az_iconst (v := 0) C dX12_at_1 (by decide) ?_
  refine az_puti C o40 fl_X12_149 rfl rfl rfl rfl dX12_at_2 ?_
  refine az_aload_n C 0 dX12_at_5 rfl ?_
  refine az_iload_n C 1 dX12_at_6 rfl ?_
  obtain ⟨q1, e2, h⟩ := az_b h
  refine az_cV (rest := []) (st2 := [.int q1]) C [.int p0] (c_X12_isPlace C.hL p0 (az_i M 40 0 0) e2) (by decide) li_X12_206 o40 (by decide) rfl rfl (Nat.le_of_ble_eq_true rfl) dX12_at_7 rfl ?_
  refine az_if_eq C 25 dX12_at_10 (by decide) (fun c3 => ?_) (fun c3 => ?_)
  · have h := az_t c3 h
    refine az_sub [] rfl ?_
    exact s_X12_at_25 C G (az_i M 40 0 0) r h hp
  · have h := az_f c3 h
    refine az_iload_n C 2 dX12_at_13 rfl ?_
    refine az_i2l C dX12_at_14 ?_
    refine az_lconst (v := 0) C dX12_at_15 (by decide) ?_
    refine az_ldc2 C ck_X12_210 dX12_at_16 ?_
    obtain ⟨q4, e5, h⟩ := az_b h
    refine az_cS (rest := []) (st2 := [.int q4]) C [.long p1.toInt64, .long 0, .long 6] (c_X12_in C.hL p1.toInt64 0 6 (az_i M 40 0 0) e5) (by decide) li_X12_169 rfl rfl (Nat.le_of_ble_eq_true rfl) dX12_at_19 rfl ?_
    refine az_if_ne C 27 dX12_at_22 (by decide) (fun c6 => ?_) (fun c6 => ?_)
    · have h := az_f c6 h
      refine az_iload_n C 2 dX12_at_27 rfl ?_
      by_cases c7 : p1 = 4
      · have h := az_t c7 h
        refine az_tabIn (off := 28) C 56 dX12_at_28 (by rw [c7]; decide) (by rw [c7]; decide) (by rw [c7]; decide) (by decide) ?_
        refine az_aload_n C 0 dX12_at_56 rfl ?_
        refine az_iload_n C 1 dX12_at_57 rfl ?_
        refine az_aload_n C 0 dX12_at_58 rfl ?_
        refine az_iconst (v := 0) C dX12_at_59 (by decide) ?_
        obtain ⟨q8, e9, h⟩ := az_b h
        refine az_cV (rest := [.int p0, .ref (az_ad V 40)]) (st2 := [.int q8, .int p0, .ref (az_ad V 40)]) C [.int 0] (c_X12_bulletOf C.hL 0 (az_i M 40 0 0) e9) (by decide) li_X12_186 o40 (by decide) rfl rfl (Nat.le_of_ble_eq_true rfl) dX12_at_60 rfl ?_
        obtain ⟨q10, e11, h⟩ := az_b h
        refine az_cV (rest := []) (st2 := [.int q10.1]) C [.int p0, .int q8] (c_X12_wearsOf C.hL G p0 q8 (az_i M 40 0 0) e11) (by decide) li_X12_212 o40 (by decide) rfl rfl (Nat.le_of_ble_eq_true rfl) dX12_at_63 rfl ?_
        obtain rfl := Option.some.inj h
        exact az_iret C dX12_at_66 hp
      have h := az_f c7 h
      have nc7 := lv_neT c7 (a := 4) (by decide)
      by_cases c12 : p1 = 5
      · have h := az_t c12 h
        refine az_tabIn (off := 39) C 67 dX12_at_28 (by rw [c12]; decide) (by rw [c12]; decide) (by rw [c12]; decide) (by decide) ?_
        refine az_aload_n C 0 dX12_at_67 rfl ?_
        refine az_iload_n C 1 dX12_at_68 rfl ?_
        obtain ⟨q13, e14, h⟩ := az_b h
        refine az_cV (rest := []) (st2 := [.int q13.1]) C [.int p0] (c_X12_flattensOf C.hL G p0 (az_i M 40 0 0) e14) (by decide) li_X12_215 o40 (by decide) rfl rfl (Nat.le_of_ble_eq_true rfl) dX12_at_69 rfl ?_
        obtain rfl := Option.some.inj h
        exact az_iret C dX12_at_72 hp
      have h := az_f c12 h
      have nc12 := lv_neT c12 (a := 5) (by decide)
      by_cases c15 : p1 = 6
      · have h := az_t c15 h
        refine az_tabIn (off := 45) C 73 dX12_at_28 (by rw [c15]; decide) (by rw [c15]; decide) (by rw [c15]; decide) (by decide) ?_
        refine az_aload_n C 0 dX12_at_73 rfl ?_
        refine az_iload_n C 1 dX12_at_74 rfl ?_
        obtain ⟨q16, e17, h⟩ := az_b h
        refine az_cV (rest := []) (st2 := [.int q16.1]) C [.int p0] (c_X12_pricesOf C.hL G p0 (az_i M 40 0 0) e17) (by decide) li_X12_218 o40 (by decide) rfl rfl (Nat.le_of_ble_eq_true rfl) dX12_at_75 rfl ?_
        obtain rfl := Option.some.inj h
        exact az_iret C dX12_at_78 hp
      have h := az_f c15 h
      have nc15 := lv_neT c15 (a := 6) (by decide)
      refine az_tabOut C 79 dX12_at_28 (by omega) (by decide) ?_
      refine az_aload_n C 0 dX12_at_79 rfl ?_
      refine az_iload_n C 1 dX12_at_80 rfl ?_
      refine az_iload_n C 2 dX12_at_81 rfl ?_
      obtain ⟨q18, e19, h⟩ := az_b h
      refine az_cV (rest := []) (st2 := [.int q18]) C [.int p0, .int p1] (c_X12_ofPlace C.hL p0 p1 (az_i M 40 0 0) e19) (by decide) li_X12_221 o40 (by decide) rfl rfl (Nat.le_of_ble_eq_true rfl) dX12_at_82 rfl ?_
      obtain rfl := Option.some.inj h
      exact az_iret C dX12_at_85 hp
    · have h := az_t c6 h
      refine az_sub [] rfl ?_
      exact s_X12_at_25 C G (az_i M 40 0 0) r h hp
theorem c_X12_at {l : Launch} {V : az_V} (hL : az_L V) (G : Nat) (p0 : Int32) (p1 : Int32) (M : az_M) {r : (Int32 × az_M)} (h : f_X12_at G p0 p1 M = some r) : az_Ct l V yX12_at cX12_at 3 (some .int) 7 [.ref (az_ad V 40), .int p0, .int p1] M (fun v M' => v = some (.int r.1) ∧ M' = r.2) :=
  az_Ct.of (by decide) (Nat.le_of_ble_eq_true rfl) (fun Y _ _ C => s_X12_at_e C G p0 p1 M r h ⟨rfl, rfl⟩)
set_option maxHeartbeats 4000000 in
set_option maxRecDepth 100000 in
theorem s_X12_person_27 {Y : az_Y} {V : az_V} {post : Option Value → az_M → Prop} (C : az_C Y V cX12_person 4 RX12 (some .int) 3)  (M : az_M) (r : (Int32 × az_M)) (h : f_X12_person_27 M = some r) (hp : post (some (.int r.1)) r.2) : AW Y V (az_end Y V post) 4 M 27 [(0, .ref (az_ad V 40))] [] := by
  have o40 := C.hL.at 40 (ci := 12) rfl
  unfold f_X12_person_27 at h
  refine az_aload_n C 0 dX12_person_27 rfl ?_
  refine az_iconst (v := (-1)) C dX12_person_28 (by decide) ?_
  obtain ⟨q15, e16, h⟩ := az_b h
  refine az_cV (rest := []) (st2 := [.int q15.1]) C [.int (-1)] (c_X12_tell C.hL (-1) M e16) (by decide) li_X12_158 o40 (by decide) rfl rfl (Nat.le_of_ble_eq_true rfl) dX12_person_29 rfl ?_
  obtain rfl := Option.some.inj h
  exact az_iret C dX12_person_32 hp
set_option maxHeartbeats 4000000 in
set_option maxRecDepth 100000 in
theorem s_X12_person_e {Y : az_Y} {V : az_V} {post : Option Value → az_M → Prop} (C : az_C Y V cX12_person 4 RX12 (some .int) 3) (p0 : Int32) (p1 : Int32) (M : az_M) (r : (Int32 × az_M)) (h : f_X12_person p0 p1 M = some r) (hp : post (some (.int r.1)) r.2) : AW Y V (az_end Y V post) 4 M 0 [(0, .ref (az_ad V 40)), (1, .int p0), (2, .int p1)] [] := by
  have o40 := C.hL.at 40 (ci := 12) rfl
  have a42 := C.hL.ar 42 (t := 0) (len := 5550) rfl
  unfold f_X12_person at h
  refine az_aload_n C 0 dX12_person_0 rfl ?_
  refine az_iconst (v := 0) C dX12_person_1 (by decide) ?_
  refine az_puti C o40 fl_X12_149 rfl rfl rfl rfl dX12_person_2 ?_
  refine az_iload_n C 1 dX12_person_5 rfl ?_
  refine az_i2l C dX12_person_6 ?_
  refine az_lconst (v := 0) C dX12_person_7 (by decide) ?_
  refine az_ldc2 C ck_X12_224 dX12_person_8 ?_
  obtain ⟨q1, e2, h⟩ := az_b h
  refine az_cS (rest := []) (st2 := [.int q1]) C [.long p0.toInt64, .long 0, .long 10] (c_X12_in C.hL p0.toInt64 0 10 (az_i M 40 0 0) e2) (by decide) li_X12_169 rfl rfl (Nat.le_of_ble_eq_true rfl) dX12_person_11 rfl ?_
  refine az_if_eq C 27 dX12_person_14 (by decide) (fun c3 => ?_) (fun c3 => ?_)
  · have h := az_t c3 h
    refine az_sub [0] rfl ?_
    exact s_X12_person_27 C (az_i M 40 0 0) r h hp
  · have h := az_f c3 h
    refine az_iload_n C 2 dX12_person_17 rfl ?_
    refine az_i2l C dX12_person_18 ?_
    refine az_lconst (v := 0) C dX12_person_19 (by decide) ?_
    refine az_lconst (v := 1) C dX12_person_20 (by decide) ?_
    obtain ⟨q4, e5, h⟩ := az_b h
    refine az_cS (rest := []) (st2 := [.int q4]) C [.long p1.toInt64, .long 0, .long 1] (c_X12_in C.hL p1.toInt64 0 1 (az_i M 40 0 0) e5) (by decide) li_X12_169 rfl rfl (Nat.le_of_ble_eq_true rfl) dX12_person_21 rfl ?_
    refine az_if_ne C 33 dX12_person_24 (by decide) (fun c6 => ?_) (fun c6 => ?_)
    · have h := az_f c6 h
      refine az_aload_n C 0 dX12_person_33 rfl ?_
      refine az_getr (r := 42) C o40 fl_X12_13 rfl rfl dX12_person_34 ?_
      refine az_iconst (v := 1) C dX12_person_37 (by decide) ?_
      refine az_ild (k := 1) C a42 (az_vin (by decide)) (by decide) dX12_person_38 ?_
      refine az_istore_n C dX12_person_39 rfl (by decide) rfl ?_
      refine az_iload_n C 0 dX12_person_40 rfl ?_
      refine az_bipush (v := 10) C dX12_person_41 (by decide) ?_
      refine az_icmp_ne C 53 dX12_person_43 (by decide) (fun c7 => ?_) (fun c7 => ?_)
      · have h := az_f c7 h
        refine az_aload_n C 1 dX12_person_53 rfl ?_
        refine az_getr (r := 42) C o40 fl_X12_13 rfl rfl dX12_person_54 ?_
        refine az_bipush (v := 65) C dX12_person_57 (by decide) ?_
        refine az_iconst (v := 3) C dX12_person_59 (by decide) ?_
        refine az_iload_n C 0 dX12_person_60 rfl ?_
        refine az_imul C dX12_person_61 ?_
        refine az_iadd C dX12_person_62 ?_
        refine az_iload_n C 2 dX12_person_63 rfl ?_
        obtain ⟨g8, h⟩ := az_g h
        refine az_ist (k := (65 + (3 * ((az_i M 40 0 0).1 42 1))).toNatClampNeg) C a42 g8 rfl dX12_person_64 ?_
        refine az_aload_n C 1 dX12_person_65 rfl ?_
        refine az_getr (r := 42) C o40 fl_X12_13 rfl rfl dX12_person_66 ?_
        refine az_bipush (v := 65) C dX12_person_69 (by decide) ?_
        refine az_iconst (v := 3) C dX12_person_71 (by decide) ?_
        refine az_iload_n C 0 dX12_person_72 rfl ?_
        refine az_imul C dX12_person_73 ?_
        refine az_iadd C dX12_person_74 ?_
        refine az_iconst (v := 1) C dX12_person_75 (by decide) ?_
        refine az_iadd C dX12_person_76 ?_
        refine az_iload_n C 3 dX12_person_77 rfl ?_
        obtain ⟨g9, h⟩ := az_g h
        refine az_ist (k := ((65 + (3 * ((az_i M 40 0 0).1 42 1))) + 1).toNatClampNeg) C a42 g9 rfl dX12_person_78 ?_
        refine az_aload_n C 1 dX12_person_79 rfl ?_
        refine az_getr (r := 42) C o40 fl_X12_13 rfl rfl dX12_person_80 ?_
        refine az_bipush (v := 65) C dX12_person_83 (by decide) ?_
        refine az_iconst (v := 3) C dX12_person_85 (by decide) ?_
        refine az_iload_n C 0 dX12_person_86 rfl ?_
        refine az_imul C dX12_person_87 ?_
        refine az_iadd C dX12_person_88 ?_
        refine az_iconst (v := 2) C dX12_person_89 (by decide) ?_
        refine az_iadd C dX12_person_90 ?_
        refine az_iconst (v := 0) C dX12_person_91 (by decide) ?_
        obtain ⟨g10, h⟩ := az_g h
        refine az_ist (k := ((65 + (3 * ((az_i M 40 0 0).1 42 1))) + 2).toNatClampNeg) C a42 g10 rfl dX12_person_92 ?_
        refine az_aload_n C 1 dX12_person_93 rfl ?_
        refine az_getr (r := 42) C o40 fl_X12_13 rfl rfl dX12_person_94 ?_
        refine az_iconst (v := 1) C dX12_person_97 (by decide) ?_
        refine az_dup2 C dX12_person_98 rfl rfl ?_
        refine az_ild (k := 1) C a42 (az_vin (by decide)) (by decide) dX12_person_99 ?_
        refine az_iconst (v := 1) C dX12_person_100 (by decide) ?_
        refine az_iadd C dX12_person_101 ?_
        refine az_ist (k := 1) C a42 (az_vin (by decide)) (by decide) dX12_person_102 ?_
        refine az_aload_n C 1 dX12_person_103 rfl ?_
        refine az_iload_n C 0 dX12_person_104 rfl ?_
        obtain ⟨q11, e12, h⟩ := az_b h
        refine az_cV (rest := []) (st2 := [.int q11.1]) C [.int ((az_i M 40 0 0).1 42 1)] (c_X12_settled C.hL ((az_i M 40 0 0).1 42 1) (az_i (az_i (az_i (az_i (az_i M 40 0 0) 42 ((65 + (3 * ((az_i M 40 0 0).1 42 1))).toNatClampNeg) p0) 42 (((65 + (3 * ((az_i M 40 0 0).1 42 1))) + 1).toNatClampNeg) p1) 42 (((65 + (3 * ((az_i M 40 0 0).1 42 1))) + 2).toNatClampNeg) 0) 42 1 (((az_i (az_i (az_i (az_i M 40 0 0) 42 ((65 + (3 * ((az_i M 40 0 0).1 42 1))).toNatClampNeg) p0) 42 (((65 + (3 * ((az_i M 40 0 0).1 42 1))) + 1).toNatClampNeg) p1) 42 (((65 + (3 * ((az_i M 40 0 0).1 42 1))) + 2).toNatClampNeg) 0).1 42 1) + 1)) e12) (by decide) li_X12_173 o40 (by decide) rfl rfl (Nat.le_of_ble_eq_true rfl) dX12_person_105 rfl ?_
        obtain rfl := Option.some.inj h
        exact az_iret C dX12_person_108 hp
      · have h := az_t c7 h
        refine az_aload_n C 1 dX12_person_46 rfl ?_
        refine az_bipush (v := (-5)) C dX12_person_47 (by decide) ?_
        obtain ⟨q13, e14, h⟩ := az_b h
        refine az_cV (rest := []) (st2 := [.int q13.1]) C [.int (-5)] (c_X12_tell C.hL (-5) (az_i M 40 0 0) e14) (by decide) li_X12_158 o40 (by decide) rfl rfl (Nat.le_of_ble_eq_true rfl) dX12_person_49 rfl ?_
        obtain rfl := Option.some.inj h
        exact az_iret C dX12_person_52 hp
    · have h := az_t c6 h
      refine az_sub [0] rfl ?_
      exact s_X12_person_27 C (az_i M 40 0 0) r h hp
theorem c_X12_person {l : Launch} {V : az_V} (hL : az_L V) (p0 : Int32) (p1 : Int32) (M : az_M) {r : (Int32 × az_M)} (h : f_X12_person p0 p1 M = some r) : az_Ct l V yX12_person cX12_person 4 (some .int) 3 [.ref (az_ad V 40), .int p0, .int p1] M (fun v M' => v = some (.int r.1) ∧ M' = r.2) :=
  az_Ct.of (by decide) (Nat.le_of_ble_eq_true rfl) (fun Y _ _ C => s_X12_person_e C p0 p1 M r h ⟨rfl, rfl⟩)
set_option maxHeartbeats 4000000 in
set_option maxRecDepth 100000 in
theorem s_X12_isHurt_19 {Y : az_Y} {V : az_V} {post : Option Value → az_M → Prop} (C : az_C Y V cX12_isHurt 2 RX12 (some .boolean) 2) (s0 : Int32) (M : az_M) (r : Int32) (h : f_X12_isHurt_19 s0 M = some r) (hp : post (some (.int r)) M) : AW Y V (az_end Y V post) 2 M 19 [] [.int s0] := by
  unfold f_X12_isHurt_19 at h
  obtain ⟨g6, h⟩ := az_g2 h
  obtain rfl := Option.some.inj h
  exact az_zret C dX12_isHurt_19 (az_nz g6) hp
set_option maxHeartbeats 4000000 in
set_option maxRecDepth 100000 in
theorem s_X12_isHurt_e {Y : az_Y} {V : az_V} {post : Option Value → az_M → Prop} (C : az_C Y V cX12_isHurt 2 RX12 (some .boolean) 2) (p0 : Int32) (M : az_M) (r : Int32) (h : f_X12_isHurt p0 M = some r) (hp : post (some (.int r)) M) : AW Y V (az_end Y V post) 2 M 0 [(0, .ref (az_ad V 40)), (1, .int p0)] [] := by
  have o40 := C.hL.at 40 (ci := 12) rfl
  unfold f_X12_isHurt at h
  refine az_aload_n C 0 dX12_isHurt_0 rfl ?_
  refine az_iconst (v := 0) C dX12_isHurt_1 (by decide) ?_
  obtain ⟨q1, e2, h⟩ := az_b h
  refine az_cV (rest := []) (st2 := [.int q1]) C [.int 0] (c_X12_term C.hL 0 M e2) (by decide) li_X12_189 o40 (by decide) rfl rfl (Nat.le_of_ble_eq_true rfl) dX12_isHurt_2 rfl ?_
  refine az_aload_n C 0 dX12_isHurt_5 rfl ?_
  refine az_iload_n C 1 dX12_isHurt_6 rfl ?_
  refine az_iconst (v := 2) C dX12_isHurt_7 (by decide) ?_
  obtain ⟨q3, e4, h⟩ := az_b h
  refine az_cV (rest := [.int q1]) (st2 := [.int q3, .int q1]) C [.int p0, .int 2] (c_X12_ofPerson C.hL p0 2 M e4) (by decide) li_X12_226 o40 (by decide) rfl rfl (Nat.le_of_ble_eq_true rfl) dX12_isHurt_8 rfl ?_
  refine az_icmp_ge C 18 dX12_isHurt_11 (by decide) (fun c5 => ?_) (fun c5 => ?_)
  · have h := az_t c5 h
    refine az_iconst (v := 0) C dX12_isHurt_18 (by decide) ?_
    refine az_sub [] rfl ?_
    exact s_X12_isHurt_19 C 0 M r h hp
  · have h := az_f c5 h
    refine az_iconst (v := 1) C dX12_isHurt_14 (by decide) ?_
    refine az_goto C 19 dX12_isHurt_15 (by decide) ?_
    refine az_sub [] rfl ?_
    exact s_X12_isHurt_19 C 1 M r h hp
theorem c_X12_isHurt {l : Launch} {V : az_V} (hL : az_L V) (p0 : Int32) (M : az_M) {r : Int32} (h : f_X12_isHurt p0 M = some r) : az_Ct l V yX12_isHurt cX12_isHurt 2 (some .boolean) 2 [.ref (az_ad V 40), .int p0] M (fun v M' => v = some (.int r) ∧ M' = M) :=
  az_Ct.of (by decide) (Nat.le_of_ble_eq_true rfl) (fun Y _ _ C => s_X12_isHurt_e C p0 M r h ⟨rfl, rfl⟩)
set_option maxHeartbeats 4000000 in
set_option maxRecDepth 100000 in
theorem s_X12_aimsOf_e {Y : az_Y} {V : az_V} {post : Option Value → az_M → Prop} (C : az_C Y V cX12_aimsOf 3 RX12 (some .int) 6) (G : Nat) (p0 : Int32) (p1 : Int32) (M : az_M) (r : (Int32 × az_M)) (h : f_X12_aimsOf G p0 p1 M = some r) (hp : post (some (.int r.1)) r.2) : AW Y V (az_end Y V post) 3 M 0 [(0, .ref (az_ad V 40)), (1, .int p0), (2, .int p1)] [] := by
  have o40 := C.hL.at 40 (ci := 12) rfl
  unfold f_X12_aimsOf at h
  refine az_aload_n C 0 dX12_aimsOf_0 rfl ?_
  refine az_iconst (v := 0) C dX12_aimsOf_1 (by decide) ?_
  refine az_iload_n C 1 dX12_aimsOf_2 rfl ?_
  refine az_iload_n C 2 dX12_aimsOf_3 rfl ?_
  refine az_aload_n C 0 dX12_aimsOf_4 rfl ?_
  refine az_iconst (v := 0) C dX12_aimsOf_5 (by decide) ?_
  obtain ⟨q1, e2, h⟩ := az_b h
  refine az_cV (rest := [.int p1, .int p0, .int 0, .ref (az_ad V 40)]) (st2 := [.int q1, .int p1, .int p0, .int 0, .ref (az_ad V 40)]) C [.int 0] (c_X12_bulletOf C.hL 0 M e2) (by decide) li_X12_186 o40 (by decide) rfl rfl (Nat.le_of_ble_eq_true rfl) dX12_aimsOf_6 rfl ?_
  refine az_aload_n C 0 dX12_aimsOf_9 rfl ?_
  refine az_iload_n C 1 dX12_aimsOf_10 rfl ?_
  refine az_iconst (v := 0) C dX12_aimsOf_11 (by decide) ?_
  obtain ⟨q3, e4, h⟩ := az_b h
  refine az_cV (rest := [.int q1, .int p1, .int p0, .int 0, .ref (az_ad V 40)]) (st2 := [.int q3, .int q1, .int p1, .int p0, .int 0, .ref (az_ad V 40)]) C [.int p0, .int 0] (c_X12_ofPerson C.hL p0 0 M e4) (by decide) li_X12_226 o40 (by decide) rfl rfl (Nat.le_of_ble_eq_true rfl) dX12_aimsOf_12 rfl ?_
  refine az_i2l C dX12_aimsOf_15 ?_
  obtain ⟨q5, e6, h⟩ := az_b h
  refine az_cV (rest := []) (st2 := [.long q5.1]) C [.int 0, .int p0, .int p1, .int q1, .long q3.toInt64] (c_X12_tells C.hL G 0 p0 p1 q1 q3.toInt64 M e6) (by decide) li_X12_441 o40 (by decide) rfl rfl (Nat.le_of_ble_eq_true rfl) dX12_aimsOf_16 rfl ?_
  refine az_iconst (v := 0) C dX12_aimsOf_19 (by decide) ?_
  refine az_bipush (v := 10) C dX12_aimsOf_20 (by decide) ?_
  obtain ⟨q7, e8, h⟩ := az_b h
  refine az_cS (rest := []) (st2 := [.int q7]) C [.long q5.1, .int 0, .int 10] (c_X12_within C.hL q5.1 0 10 q5.2 e8) (by decide) li_X12_445 rfl rfl (Nat.le_of_ble_eq_true rfl) dX12_aimsOf_22 rfl ?_
  obtain rfl := Option.some.inj h
  exact az_iret C dX12_aimsOf_25 hp
theorem c_X12_aimsOf {l : Launch} {V : az_V} (hL : az_L V) (G : Nat) (p0 : Int32) (p1 : Int32) (M : az_M) {r : (Int32 × az_M)} (h : f_X12_aimsOf G p0 p1 M = some r) : az_Ct l V yX12_aimsOf cX12_aimsOf 3 (some .int) 6 [.ref (az_ad V 40), .int p0, .int p1] M (fun v M' => v = some (.int r.1) ∧ M' = r.2) :=
  az_Ct.of (by decide) (Nat.le_of_ble_eq_true rfl) (fun Y _ _ C => s_X12_aimsOf_e C G p0 p1 M r h ⟨rfl, rfl⟩)
