set_option maxHeartbeats 4000000 in
set_option maxRecDepth 100000 in
theorem s_X12_in_18 {Y : az_Y} {V : az_V} {post : Option Value → az_M → Prop} (C : az_C Y V cX12_in 6 RX12 (some .boolean) 1) (s0 : Int32) (M : az_M) (r : Int32) (h : f_X12_in_18 s0 M = some r) (hp : post (some (.int r)) M) : AW Y V (az_end Y V post) 6 M 18 [] [.int s0] := by
  unfold f_X12_in_18 at h
  obtain ⟨g3, h⟩ := az_g2 h
  obtain rfl := Option.some.inj h
  exact az_zret C dX12_in_18 (az_nz g3) hp
set_option maxHeartbeats 4000000 in
set_option maxRecDepth 100000 in
theorem s_X12_in_17 {Y : az_Y} {V : az_V} {post : Option Value → az_M → Prop} (C : az_C Y V cX12_in 6 RX12 (some .boolean) 1)  (M : az_M) (r : Int32) (h : f_X12_in_17 M = some r) (hp : post (some (.int r)) M) : AW Y V (az_end Y V post) 6 M 17 [] [] := by
  unfold f_X12_in_17 at h
  refine az_iconst (v := 0) C dX12_in_17 (by decide) ?_
  exact s_X12_in_18 C 0 M r h hp
set_option maxHeartbeats 4000000 in
set_option maxRecDepth 100000 in
theorem s_X12_in_e {Y : az_Y} {V : az_V} {post : Option Value → az_M → Prop} (C : az_C Y V cX12_in 6 RX12 (some .boolean) 1) (p0 : Int64) (p1 : Int64) (p2 : Int64) (M : az_M) (r : Int32) (h : f_X12_in p0 p1 p2 M = some r) (hp : post (some (.int r)) M) : AW Y V (az_end Y V post) 6 M 0 [(0, .long p0), (2, .long p1), (4, .long p2)] [] := by
  unfold f_X12_in at h
  refine az_lload_n C 0 dX12_in_0 rfl ?_
  refine az_lload_n C 1 dX12_in_1 rfl ?_
  refine az_lcmp C dX12_in_2 ?_
  refine az_if_lt C 17 dX12_in_3 (by decide) (fun c1 => ?_) (fun c1 => ?_)
  · have h := az_t (az_c_lt.mp c1) h
    refine az_sub [] rfl ?_
    exact s_X12_in_17 C M r h hp
  · have h := az_f (fun z => c1 (az_c_lt.mpr z)) h
    refine az_lload_n C 0 dX12_in_6 rfl ?_
    refine az_lload C 2 dX12_in_7 rfl ?_
    refine az_lcmp C dX12_in_9 ?_
    refine az_if_gt C 17 dX12_in_10 (by decide) (fun c2 => ?_) (fun c2 => ?_)
    · have h := az_t (az_c_gt.mp c2) h
      refine az_sub [] rfl ?_
      exact s_X12_in_17 C M r h hp
    · have h := az_f (fun z => c2 (az_c_gt.mpr z)) h
      refine az_iconst (v := 1) C dX12_in_13 (by decide) ?_
      refine az_goto C 18 dX12_in_14 (by decide) ?_
      refine az_sub [] rfl ?_
      exact s_X12_in_18 C 1 M r h hp
theorem c_X12_in {l : Launch} {V : az_V} (hL : az_L V) (p0 : Int64) (p1 : Int64) (p2 : Int64) (M : az_M) {r : Int32} (h : f_X12_in p0 p1 p2 M = some r) : az_Ct l V yX12_in cX12_in 6 (some .boolean) 1 [.long p0, .long p1, .long p2] M (fun v M' => v = some (.int r) ∧ M' = M) :=
  az_Ct.of (by decide) (Nat.le_of_ble_eq_true rfl) (fun Y _ _ C => s_X12_in_e C p0 p1 p2 M r h ⟨rfl, rfl⟩)
set_option maxHeartbeats 4000000 in
set_option maxRecDepth 100000 in
theorem s_X12_is_14 {Y : az_Y} {V : az_V} {post : Option Value → az_M → Prop} (C : az_C Y V cX12_is 2 RX12 (some .boolean) 1) (s0 : Int32) (M : az_M) (r : Int32) (h : f_X12_is_14 s0 M = some r) (hp : post (some (.int r)) M) : AW Y V (az_end Y V post) 2 M 14 [] [.int s0] := by
  unfold f_X12_is_14 at h
  obtain ⟨g2, h⟩ := az_g2 h
  obtain rfl := Option.some.inj h
  exact az_zret C dX12_is_14 (az_nz g2) hp
set_option maxHeartbeats 4000000 in
set_option maxRecDepth 100000 in
theorem s_X12_is_e {Y : az_Y} {V : az_V} {post : Option Value → az_M → Prop} (C : az_C Y V cX12_is 2 RX12 (some .boolean) 1) (p0 : Int32) (p1 : Int32) (M : az_M) (r : Int32) (h : f_X12_is p0 p1 M = some r) (hp : post (some (.int r)) M) : AW Y V (az_end Y V post) 2 M 0 [(0, .int p0), (1, .int p1)] [] := by
  unfold f_X12_is at h
  refine az_iload_n C 0 dX12_is_0 rfl ?_
  refine az_iload_n C 1 dX12_is_1 rfl ?_
  refine az_ishr C dX12_is_2 ?_
  refine az_iconst (v := 1) C dX12_is_3 (by decide) ?_
  refine az_iand C dX12_is_4 ?_
  refine az_iconst (v := 1) C dX12_is_5 (by decide) ?_
  refine az_icmp_ne C 13 dX12_is_6 (by decide) (fun c1 => ?_) (fun c1 => ?_)
  · have h := az_f c1 h
    refine az_iconst (v := 0) C dX12_is_13 (by decide) ?_
    refine az_sub [] rfl ?_
    exact s_X12_is_14 C 0 M r h hp
  · have h := az_t c1 h
    refine az_iconst (v := 1) C dX12_is_9 (by decide) ?_
    refine az_goto C 14 dX12_is_10 (by decide) ?_
    refine az_sub [] rfl ?_
    exact s_X12_is_14 C 1 M r h hp
theorem c_X12_is {l : Launch} {V : az_V} (hL : az_L V) (p0 : Int32) (p1 : Int32) (M : az_M) {r : Int32} (h : f_X12_is p0 p1 M = some r) : az_Ct l V yX12_is cX12_is 2 (some .boolean) 1 [.int p0, .int p1] M (fun v M' => v = some (.int r) ∧ M' = M) :=
  az_Ct.of (by decide) (Nat.le_of_ble_eq_true rfl) (fun Y _ _ C => s_X12_is_e C p0 p1 M r h ⟨rfl, rfl⟩)
set_option maxHeartbeats 4000000 in
set_option maxRecDepth 100000 in
theorem s_X12_within_24 {Y : az_Y} {V : az_V} {post : Option Value → az_M → Prop} (C : az_C Y V cX12_within 4 RX12 (some .int) 1) (s0 : Int32) (M : az_M) (r : Int32) (h : f_X12_within_24 s0 M = some r) (hp : post (some (.int r)) M) : AW Y V (az_end Y V post) 4 M 24 [] [.int s0] := by
  unfold f_X12_within_24 at h
  obtain rfl := Option.some.inj h
  exact az_iret C dX12_within_24 hp
set_option maxHeartbeats 4000000 in
set_option maxRecDepth 100000 in
theorem s_X12_within_e {Y : az_Y} {V : az_V} {post : Option Value → az_M → Prop} (C : az_C Y V cX12_within 4 RX12 (some .int) 1) (p0 : Int64) (p1 : Int32) (p2 : Int32) (M : az_M) (r : Int32) (h : f_X12_within p0 p1 p2 M = some r) (hp : post (some (.int r)) M) : AW Y V (az_end Y V post) 4 M 0 [(0, .long p0), (2, .int p1), (3, .int p2)] [] := by
  unfold f_X12_within at h
  refine az_lload_n C 0 dX12_within_0 rfl ?_
  refine az_iload_n C 1 dX12_within_1 rfl ?_
  refine az_i2l C dX12_within_2 ?_
  refine az_lcmp C dX12_within_3 ?_
  refine az_if_ge C 11 dX12_within_4 (by decide) (fun c1 => ?_) (fun c1 => ?_)
  · have h := az_t (az_c_ge.mp c1) h
    refine az_lload_n C 0 dX12_within_11 rfl ?_
    refine az_iload_n C 2 dX12_within_12 rfl ?_
    refine az_i2l C dX12_within_13 ?_
    refine az_lcmp C dX12_within_14 ?_
    refine az_if_le C 22 dX12_within_15 (by decide) (fun c2 => ?_) (fun c2 => ?_)
    · have h := az_t (az_c_le.mp c2) h
      refine az_lload_n C 0 dX12_within_22 rfl ?_
      refine az_l2i C dX12_within_23 ?_
      refine az_sub [] rfl ?_
      exact s_X12_within_24 C p0.toInt32 M r h hp
    · have h := az_f (fun z => c2 (az_c_le.mpr z)) h
      refine az_iload_n C 2 dX12_within_18 rfl ?_
      refine az_goto C 24 dX12_within_19 (by decide) ?_
      refine az_sub [] rfl ?_
      exact s_X12_within_24 C p2 M r h hp
  · have h := az_f (fun z => c1 (az_c_ge.mpr z)) h
    refine az_iload_n C 1 dX12_within_7 rfl ?_
    refine az_goto C 24 dX12_within_8 (by decide) ?_
    refine az_sub [] rfl ?_
    exact s_X12_within_24 C p1 M r h hp
theorem c_X12_within {l : Launch} {V : az_V} (hL : az_L V) (p0 : Int64) (p1 : Int32) (p2 : Int32) (M : az_M) {r : Int32} (h : f_X12_within p0 p1 p2 M = some r) : az_Ct l V yX12_within cX12_within 4 (some .int) 1 [.long p0, .int p1, .int p2] M (fun v M' => v = some (.int r) ∧ M' = M) :=
  az_Ct.of (by decide) (Nat.le_of_ble_eq_true rfl) (fun Y _ _ C => s_X12_within_e C p0 p1 p2 M r h ⟨rfl, rfl⟩)
set_option maxHeartbeats 4000000 in
set_option maxRecDepth 100000 in
theorem s_X12_ones_4 {Y : az_Y} {V : az_V} {post : Option Value → az_M → Prop} (C : az_C Y V cX12_ones 3 RX12 (some .int) 1) (G : Nat) : ∀ (F : Nat) (x0 : Int32) (x1 : Int32) (x2 : Int32) (M : az_M) (r : Int32), f_X12_ones_4 G F x0 x1 x2 M = some r → post (some (.int r)) M → AW Y V (az_end Y V post) 3 M 4 [(0, .int x0), (1, .int x1), (2, .int x2)] [] := by
  intro F
  induction F with
  | zero =>
    intro x0 x1 x2 M r h
    exact absurd (show (none : Option Int32) = some r from h) (fun q => by cases q)
  | succ F ih =>
    intro x0 x1 x2 M r h hp
    rw [f_X12_ones_4] at h
    refine az_iload_n C 2 dX12_ones_4 rfl ?_
    refine az_bipush (v := 12) C dX12_ones_5 (by decide) ?_
    refine az_icmp_ge C 24 dX12_ones_7 (by decide) (fun c1 => ?_) (fun c1 => ?_)
    · have h := az_t c1 h
      refine az_iload_n C 1 dX12_ones_24 rfl ?_
      obtain rfl := Option.some.inj h
      exact az_iret C dX12_ones_25 hp
    · have h := az_f c1 h
      refine az_iload_n C 1 dX12_ones_10 rfl ?_
      refine az_iload_n C 0 dX12_ones_11 rfl ?_
      refine az_iload_n C 2 dX12_ones_12 rfl ?_
      refine az_ishr C dX12_ones_13 ?_
      refine az_iconst (v := 1) C dX12_ones_14 (by decide) ?_
      refine az_iand C dX12_ones_15 ?_
      refine az_iadd C dX12_ones_16 ?_
      refine az_istore_n C dX12_ones_17 rfl (by decide) rfl ?_
      refine az_iinc (v := (x2 + 1)) C 2 dX12_ones_18 rfl rfl (by decide) rfl ?_
      refine az_goto C 4 dX12_ones_21 (by decide) ?_
      refine az_sub [2, 1, 0] rfl ?_
      exact ih x0 (x1 + ((x0 >>> (x2 &&& 31)) &&& 1)) (x2 + 1) M r h hp
set_option maxHeartbeats 4000000 in
set_option maxRecDepth 100000 in
theorem s_X12_ones_e {Y : az_Y} {V : az_V} {post : Option Value → az_M → Prop} (C : az_C Y V cX12_ones 3 RX12 (some .int) 1) (G : Nat) (p0 : Int32) (M : az_M) (r : Int32) (h : f_X12_ones G p0 M = some r) (hp : post (some (.int r)) M) : AW Y V (az_end Y V post) 3 M 0 [(0, .int p0)] [] := by
  unfold f_X12_ones at h
  refine az_iconst (v := 0) C dX12_ones_0 (by decide) ?_
  refine az_istore_n C dX12_ones_1 rfl (by decide) rfl ?_
  refine az_iconst (v := 0) C dX12_ones_2 (by decide) ?_
  refine az_istore_n C dX12_ones_3 rfl (by decide) rfl ?_
  refine az_sub [2, 1, 0] rfl ?_
  exact s_X12_ones_4 C G G p0 0 0 M r h hp
theorem c_X12_ones {l : Launch} {V : az_V} (hL : az_L V) (G : Nat) (p0 : Int32) (M : az_M) {r : Int32} (h : f_X12_ones G p0 M = some r) : az_Ct l V yX12_ones cX12_ones 3 (some .int) 1 [.int p0] M (fun v M' => v = some (.int r) ∧ M' = M) :=
  az_Ct.of (by decide) (Nat.le_of_ble_eq_true rfl) (fun Y _ _ C => s_X12_ones_e C G p0 M r h ⟨rfl, rfl⟩)
set_option maxHeartbeats 4000000 in
set_option maxRecDepth 100000 in
theorem s_X12_tell_28 {Y : az_Y} {V : az_V} {post : Option Value → az_M → Prop} (C : az_C Y V cX12_tell 2 RX12 (some .int) 1) (x1 : Int32) (M : az_M) (r : (Int32 × az_M)) (h : f_X12_tell_28 x1 M = some r) (hp : post (some (.int r.1)) r.2) : AW Y V (az_end Y V post) 2 M 28 [(1, .int x1)] [] := by
  unfold f_X12_tell_28 at h
  refine az_iload_n C 0 dX12_tell_28 rfl ?_
  obtain rfl := Option.some.inj h
  exact az_iret C dX12_tell_29 hp
set_option maxHeartbeats 4000000 in
set_option maxRecDepth 100000 in
theorem s_X12_tell_10 {Y : az_Y} {V : az_V} {post : Option Value → az_M → Prop} (C : az_C Y V cX12_tell 2 RX12 (some .int) 1) (x1 : Int32) (s0 : Int32) (M : az_M) (r : (Int32 × az_M)) (h : f_X12_tell_10 x1 s0 M = some r) (hp : post (some (.int r.1)) r.2) : AW Y V (az_end Y V post) 2 M 10 [(0, .ref (az_ad V 40)), (1, .int x1)] [.int s0, .ref (az_ad V 40)] := by
  have o40 := C.hL.at 40 (ci := 12) rfl
  have a41 := C.hL.ar 41 (t := 0) (len := 7) rfl
  unfold f_X12_tell_10 at h
  refine az_puti C o40 fl_X12_152 rfl rfl rfl rfl dX12_tell_10 ?_
  refine az_iload_n C 1 dX12_tell_13 rfl ?_
  refine az_if_ge C 28 dX12_tell_14 (by decide) (fun c2 => ?_) (fun c2 => ?_)
  · have h := az_t c2 h
    refine az_sub [1] rfl ?_
    exact s_X12_tell_28 C x1 (az_i M 40 1 s0) r h hp
  · have h := az_f c2 h
    refine az_aload_n C 0 dX12_tell_17 rfl ?_
    refine az_getr (r := 41) C o40 fl_X12_7 rfl rfl dX12_tell_18 ?_
    refine az_iload_n C 1 dX12_tell_21 rfl ?_
    refine az_ineg C dX12_tell_22 ?_
    refine az_dup2 C dX12_tell_23 rfl rfl ?_
    obtain ⟨g3, h⟩ := az_g h
    refine az_ild (k := (-x1).toNatClampNeg) C a41 g3 rfl dX12_tell_24 ?_
    refine az_iconst (v := 1) C dX12_tell_25 (by decide) ?_
    refine az_iadd C dX12_tell_26 ?_
    obtain ⟨g4, h⟩ := az_g h
    refine az_ist (k := (-x1).toNatClampNeg) C a41 g4 rfl dX12_tell_27 ?_
    refine az_sub [1] rfl ?_
    exact s_X12_tell_28 C x1 (az_i (az_i M 40 1 s0) 41 ((-x1).toNatClampNeg) (((az_i M 40 1 s0).1 41 ((-x1).toNatClampNeg)) + 1)) r h hp
set_option maxHeartbeats 4000000 in
set_option maxRecDepth 100000 in
theorem s_X12_tell_e {Y : az_Y} {V : az_V} {post : Option Value → az_M → Prop} (C : az_C Y V cX12_tell 2 RX12 (some .int) 1) (p0 : Int32) (M : az_M) (r : (Int32 × az_M)) (h : f_X12_tell p0 M = some r) (hp : post (some (.int r.1)) r.2) : AW Y V (az_end Y V post) 2 M 0 [(0, .ref (az_ad V 40)), (1, .int p0)] [] := by
  unfold f_X12_tell at h
  refine az_aload_n C 0 dX12_tell_0 rfl ?_
  refine az_iload_n C 1 dX12_tell_1 rfl ?_
  refine az_if_ge C 9 dX12_tell_2 (by decide) (fun c1 => ?_) (fun c1 => ?_)
  · have h := az_t c1 h
    refine az_iconst (v := 0) C dX12_tell_9 (by decide) ?_
    exact s_X12_tell_10 C p0 0 M r h hp
  · have h := az_f c1 h
    refine az_iload_n C 1 dX12_tell_5 rfl ?_
    refine az_goto C 10 dX12_tell_6 (by decide) ?_
    exact s_X12_tell_10 C p0 p0 M r h hp
theorem c_X12_tell {l : Launch} {V : az_V} (hL : az_L V) (p0 : Int32) (M : az_M) {r : (Int32 × az_M)} (h : f_X12_tell p0 M = some r) : az_Ct l V yX12_tell cX12_tell 2 (some .int) 1 [.ref (az_ad V 40), .int p0] M (fun v M' => v = some (.int r.1) ∧ M' = r.2) :=
  az_Ct.of (by decide) (Nat.le_of_ble_eq_true rfl) (fun Y _ _ C => s_X12_tell_e C p0 M r h ⟨rfl, rfl⟩)
set_option maxHeartbeats 4000000 in
set_option maxRecDepth 100000 in
theorem s_X12_change_e {Y : az_Y} {V : az_V} {post : Option Value → az_M → Prop} (C : az_C Y V cX12_change 4 RX12 (some .int) 1) (p0 : Int32) (p1 : Int32) (M : az_M) (r : (Int32 × az_M)) (h : f_X12_change p0 p1 M = some r) (hp : post (some (.int r.1)) r.2) : AW Y V (az_end Y V post) 4 M 0 [(0, .ref (az_ad V 40)), (1, .int p0), (2, .int p1)] [] := by
  have o40 := C.hL.at 40 (ci := 12) rfl
  have a42 := C.hL.ar 42 (t := 0) (len := 5550) rfl
  unfold f_X12_change at h
  refine az_aload_n C 0 dX12_change_0 rfl ?_
  refine az_getr (r := 42) C o40 fl_X12_13 rfl rfl dX12_change_1 ?_
  refine az_iload_n C 1 dX12_change_4 rfl ?_
  obtain ⟨g1, h⟩ := az_g h
  refine az_ild (k := p0.toNatClampNeg) C a42 g1 rfl dX12_change_5 ?_
  refine az_istore_n C dX12_change_6 rfl (by decide) rfl ?_
  refine az_aload_n C 1 dX12_change_7 rfl ?_
  refine az_getr (r := 42) C o40 fl_X12_13 rfl rfl dX12_change_8 ?_
  refine az_iload_n C 2 dX12_change_11 rfl ?_
  refine az_iload_n C 3 dX12_change_12 rfl ?_
  obtain ⟨g2, h⟩ := az_g h
  refine az_ist (k := p0.toNatClampNeg) C a42 g2 rfl dX12_change_13 ?_
  refine az_aload_n C 1 dX12_change_14 rfl ?_
  refine az_iconst (v := 0) C dX12_change_15 (by decide) ?_
  refine az_puti C o40 fl_X12_152 rfl rfl rfl rfl dX12_change_16 ?_
  refine az_iload_n C 0 dX12_change_19 rfl ?_
  obtain rfl := Option.some.inj h
  exact az_iret C dX12_change_20 hp
theorem c_X12_change {l : Launch} {V : az_V} (hL : az_L V) (p0 : Int32) (p1 : Int32) (M : az_M) {r : (Int32 × az_M)} (h : f_X12_change p0 p1 M = some r) : az_Ct l V yX12_change cX12_change 4 (some .int) 1 [.ref (az_ad V 40), .int p0, .int p1] M (fun v M' => v = some (.int r.1) ∧ M' = r.2) :=
  az_Ct.of (by decide) (Nat.le_of_ble_eq_true rfl) (fun Y _ _ C => s_X12_change_e C p0 p1 M r h ⟨rfl, rfl⟩)
set_option maxHeartbeats 4000000 in
set_option maxRecDepth 100000 in
theorem s_X12_settled_13 {Y : az_Y} {V : az_V} {post : Option Value → az_M → Prop} (C : az_C Y V cX12_settled 2 RX12 (some .int) 2) (x1 : Int32) (s0 : Int32) (M : az_M) (r : (Int32 × az_M)) (h : f_X12_settled_13 x1 s0 M = some r) (hp : post (some (.int r.1)) r.2) : AW Y V (az_end Y V post) 2 M 13 [(0, .ref (az_ad V 40)), (1, .int x1)] [.int s0, .ref (az_ad V 40)] := by
  have o40 := C.hL.at 40 (ci := 12) rfl
  unfold f_X12_settled_13 at h
  refine az_puti C o40 fl_X12_155 rfl rfl rfl rfl dX12_settled_13 ?_
  refine az_aload_n C 0 dX12_settled_16 rfl ?_
  refine az_iload_n C 1 dX12_settled_17 rfl ?_
  obtain ⟨q2, e3, h⟩ := az_b h
  refine az_cV (rest := []) (st2 := [.int q2.1]) C [.int x1] (c_X12_tell C.hL x1 (az_i M 40 8 s0) e3) (by decide) li_X12_158 o40 (by decide) rfl rfl (Nat.le_of_ble_eq_true rfl) dX12_settled_18 rfl ?_
  obtain rfl := Option.some.inj h
  exact az_iret C dX12_settled_21 hp
set_option maxHeartbeats 4000000 in
set_option maxRecDepth 100000 in
theorem s_X12_settled_e {Y : az_Y} {V : az_V} {post : Option Value → az_M → Prop} (C : az_C Y V cX12_settled 2 RX12 (some .int) 2) (p0 : Int32) (M : az_M) (r : (Int32 × az_M)) (h : f_X12_settled p0 M = some r) (hp : post (some (.int r.1)) r.2) : AW Y V (az_end Y V post) 2 M 0 [(0, .ref (az_ad V 40)), (1, .int p0)] [] := by
  have o40 := C.hL.at 40 (ci := 12) rfl
  unfold f_X12_settled at h
  refine az_aload_n C 0 dX12_settled_0 rfl ?_
  refine az_iload_n C 1 dX12_settled_1 rfl ?_
  refine az_if_ge C 12 dX12_settled_2 (by decide) (fun c1 => ?_) (fun c1 => ?_)
  · have h := az_t c1 h
    refine az_iconst (v := 0) C dX12_settled_12 (by decide) ?_
    exact s_X12_settled_13 C p0 0 M r h hp
  · have h := az_f c1 h
    refine az_aload_n C 0 dX12_settled_5 rfl ?_
    refine az_geti C o40 fl_X12_155 rfl dX12_settled_6 ?_
    refine az_goto C 13 dX12_settled_9 (by decide) ?_
    exact s_X12_settled_13 C p0 (M.1 40 8) M r h hp
theorem c_X12_settled {l : Launch} {V : az_V} (hL : az_L V) (p0 : Int32) (M : az_M) {r : (Int32 × az_M)} (h : f_X12_settled p0 M = some r) : az_Ct l V yX12_settled cX12_settled 2 (some .int) 2 [.ref (az_ad V 40), .int p0] M (fun v M' => v = some (.int r.1) ∧ M' = r.2) :=
  az_Ct.of (by decide) (Nat.le_of_ble_eq_true rfl) (fun Y _ _ C => s_X12_settled_e C p0 M r h ⟨rfl, rfl⟩)
set_option maxHeartbeats 4000000 in
set_option maxRecDepth 100000 in
theorem s_X12_keepAll_2 {Y : az_Y} {V : az_V} {post : Option Value → az_M → Prop} (C : az_C Y V cX12_keepAll 3 RX12 none 1) (G : Nat) : ∀ (F : Nat) (x1 : Int32) (x2 : Int32) (M : az_M) (r : az_M), f_X12_keepAll_2 G F x1 x2 M = some r → post none r → AW Y V (az_end Y V post) 3 M 2 [(0, .ref (az_ad V 40)), (1, .int x1), (2, .int x2)] [] := by
  have o40 := C.hL.at 40 (ci := 12) rfl
  have a42 := C.hL.ar 42 (t := 0) (len := 5550) rfl
  have a45 := C.hL.ar 45 (t := 0) (len := 3150) rfl
  intro F
  induction F with
  | zero =>
    intro x1 x2 M r h
    exact absurd (show (none : Option az_M) = some r from h) (fun q => by cases q)
  | succ F ih =>
    intro x1 x2 M r h hp
    rw [f_X12_keepAll_2] at h
    refine az_iload_n C 2 dX12_keepAll_2 rfl ?_
    refine az_sipush (v := 150) C dX12_keepAll_3 (by decide) ?_
    refine az_icmp_ge C 33 dX12_keepAll_6 (by decide) (fun c1 => ?_) (fun c1 => ?_)
    · have h := az_t c1 h
      obtain rfl := Option.some.inj h
      exact az_vret C rfl dX12_keepAll_33 hp
    · have h := az_f c1 h
      refine az_aload_n C 0 dX12_keepAll_9 rfl ?_
      refine az_getr (r := 45) C o40 fl_X12_23 rfl rfl dX12_keepAll_10 ?_
      refine az_sipush (v := 150) C dX12_keepAll_13 (by decide) ?_
      refine az_iload_n C 1 dX12_keepAll_16 rfl ?_
      refine az_imul C dX12_keepAll_17 ?_
      refine az_iload_n C 2 dX12_keepAll_18 rfl ?_
      refine az_iadd C dX12_keepAll_19 ?_
      refine az_aload_n C 0 dX12_keepAll_20 rfl ?_
      refine az_getr (r := 42) C o40 fl_X12_13 rfl rfl dX12_keepAll_21 ?_
      refine az_iload_n C 2 dX12_keepAll_24 rfl ?_
      obtain ⟨g2, h⟩ := az_g h
      refine az_ild (k := x2.toNatClampNeg) C a42 g2 rfl dX12_keepAll_25 ?_
      obtain ⟨g3, h⟩ := az_g h
      refine az_ist (k := ((150 * x1) + x2).toNatClampNeg) C a45 g3 rfl dX12_keepAll_26 ?_
      refine az_iinc (v := (x2 + 1)) C 2 dX12_keepAll_27 rfl rfl (by decide) rfl ?_
      refine az_goto C 2 dX12_keepAll_30 (by decide) ?_
      refine az_sub [1, 2, 0] rfl ?_
      exact ih x1 (x2 + 1) (az_i M 45 (((150 * x1) + x2).toNatClampNeg) (M.1 42 x2.toNatClampNeg)) r h hp
set_option maxHeartbeats 4000000 in
set_option maxRecDepth 100000 in
theorem s_X12_keepAll_e {Y : az_Y} {V : az_V} {post : Option Value → az_M → Prop} (C : az_C Y V cX12_keepAll 3 RX12 none 1) (G : Nat) (p0 : Int32) (M : az_M) (r : az_M) (h : f_X12_keepAll G p0 M = some r) (hp : post none r) : AW Y V (az_end Y V post) 3 M 0 [(0, .ref (az_ad V 40)), (1, .int p0)] [] := by
  unfold f_X12_keepAll at h
  refine az_iconst (v := 0) C dX12_keepAll_0 (by decide) ?_
  refine az_istore_n C dX12_keepAll_1 rfl (by decide) rfl ?_
  refine az_sub [1, 2, 0] rfl ?_
  exact s_X12_keepAll_2 C G G p0 0 M r h hp
theorem c_X12_keepAll {l : Launch} {V : az_V} (hL : az_L V) (G : Nat) (p0 : Int32) (M : az_M) {r : az_M} (h : f_X12_keepAll G p0 M = some r) : az_Ct l V yX12_keepAll cX12_keepAll 3 none 1 [.ref (az_ad V 40), .int p0] M (fun v M' => v = none ∧ M' = r) :=
  az_Ct.of (by decide) (Nat.le_of_ble_eq_true rfl) (fun Y _ _ C => s_X12_keepAll_e C G p0 M r h ⟨rfl, rfl⟩)
set_option maxHeartbeats 4000000 in
set_option maxRecDepth 100000 in
theorem s_X12_putBack_45 {Y : az_Y} {V : az_V} {post : Option Value → az_M → Prop} (C : az_C Y V cX12_putBack 3 RX12 none 1) (G : Nat) (K2 : (Int32 → Int32 → az_M → Option az_M)) (hK2 : ∀ (x1 : Int32) (x2 : Int32) (M : az_M) (r : az_M), K2 x1 x2 M = some r → post none r → AW Y V (az_end Y V post) 3 M 2 [(0, .ref (az_ad V 40)), (1, .int x1), (2, .int x2)] []) (x1 : Int32) (x2 : Int32) (s0 : Int32) (s1 : Int32) (M : az_M) (r : az_M) (h : f_X12_putBack_45 G K2 x1 x2 s0 s1 M = some r) (hp : post none r) : AW Y V (az_end Y V post) 3 M 45 [(0, .ref (az_ad V 40)), (1, .int x1), (2, .int x2)] [.int s0, .int s1, .ref (az_ad V 42)] := by
  have a42 := C.hL.ar 42 (t := 0) (len := 5550) rfl
  unfold f_X12_putBack_45 at h
  obtain ⟨g5, h⟩ := az_g h
  refine az_ist (k := s1.toNatClampNeg) C a42 g5 rfl dX12_putBack_45 ?_
  refine az_iinc (v := (x2 + 1)) C 2 dX12_putBack_46 rfl rfl (by decide) rfl ?_
  refine az_goto C 2 dX12_putBack_49 (by decide) ?_
  refine az_sub [1, 2, 0] rfl ?_
  exact hK2 x1 (x2 + 1) (az_i M 42 s1.toNatClampNeg s0) r h hp
set_option maxHeartbeats 4000000 in
set_option maxRecDepth 100000 in
theorem s_X12_putBack_24 {Y : az_Y} {V : az_V} {post : Option Value → az_M → Prop} (C : az_C Y V cX12_putBack 3 RX12 none 1) (G : Nat) (K2 : (Int32 → Int32 → az_M → Option az_M)) (hK2 : ∀ (x1 : Int32) (x2 : Int32) (M : az_M) (r : az_M), K2 x1 x2 M = some r → post none r → AW Y V (az_end Y V post) 3 M 2 [(0, .ref (az_ad V 40)), (1, .int x1), (2, .int x2)] []) (x1 : Int32) (x2 : Int32) (s0 : Int32) (M : az_M) (r : az_M) (h : f_X12_putBack_24 G K2 x1 x2 s0 M = some r) (hp : post none r) : AW Y V (az_end Y V post) 3 M 24 [(0, .ref (az_ad V 40)), (1, .int x1), (2, .int x2)] [.int s0, .ref (az_ad V 42)] := by
  have o40 := C.hL.at 40 (ci := 12) rfl
  have a42 := C.hL.ar 42 (t := 0) (len := 5550) rfl
  unfold f_X12_putBack_24 at h
  refine az_aload_n C 0 dX12_putBack_24 rfl ?_
  refine az_getr (r := 42) C o40 fl_X12_13 rfl rfl dX12_putBack_25 ?_
  refine az_iload_n C 2 dX12_putBack_28 rfl ?_
  obtain ⟨g6, h⟩ := az_g h
  refine az_ild (k := x2.toNatClampNeg) C a42 g6 rfl dX12_putBack_29 ?_
  refine az_goto C 45 dX12_putBack_30 (by decide) ?_
  exact s_X12_putBack_45 C G K2 hK2 x1 x2 (M.1 42 x2.toNatClampNeg) s0 M r h hp
set_option maxHeartbeats 4000000 in
set_option maxRecDepth 100000 in
theorem s_X12_putBack_2 {Y : az_Y} {V : az_V} {post : Option Value → az_M → Prop} (C : az_C Y V cX12_putBack 3 RX12 none 1) (G : Nat) : ∀ (F : Nat) (x1 : Int32) (x2 : Int32) (M : az_M) (r : az_M), f_X12_putBack_2 G F x1 x2 M = some r → post none r → AW Y V (az_end Y V post) 3 M 2 [(0, .ref (az_ad V 40)), (1, .int x1), (2, .int x2)] [] := by
  have o40 := C.hL.at 40 (ci := 12) rfl
  have a45 := C.hL.ar 45 (t := 0) (len := 3150) rfl
  intro F
  induction F with
  | zero =>
    intro x1 x2 M r h
    exact absurd (show (none : Option az_M) = some r from h) (fun q => by cases q)
  | succ F ih =>
    intro x1 x2 M r h hp
    rw [f_X12_putBack_2] at h
    refine az_iload_n C 2 dX12_putBack_2 rfl ?_
    refine az_sipush (v := 150) C dX12_putBack_3 (by decide) ?_
    refine az_icmp_ge C 52 dX12_putBack_6 (by decide) (fun c1 => ?_) (fun c1 => ?_)
    · have h := az_t c1 h
      obtain rfl := Option.some.inj h
      exact az_vret C rfl dX12_putBack_52 hp
    · have h := az_f c1 h
      refine az_aload_n C 0 dX12_putBack_9 rfl ?_
      refine az_getr (r := 42) C o40 fl_X12_13 rfl rfl dX12_putBack_10 ?_
      refine az_iload_n C 2 dX12_putBack_13 rfl ?_
      refine az_iload_n C 2 dX12_putBack_14 rfl ?_
      refine az_iconst (v := 4) C dX12_putBack_15 (by decide) ?_
      refine az_icmp_eq C 24 dX12_putBack_16 (by decide) (fun c2 => ?_) (fun c2 => ?_)
      · have h := az_t c2 h
        exact s_X12_putBack_24 C G (f_X12_putBack_2 G F) ih x1 x2 x2 M r h hp
      · have h := az_f c2 h
        refine az_iload_n C 2 dX12_putBack_19 rfl ?_
        refine az_iconst (v := 5) C dX12_putBack_20 (by decide) ?_
        refine az_icmp_ne C 33 dX12_putBack_21 (by decide) (fun c3 => ?_) (fun c3 => ?_)
        · have h := az_f c3 h
          refine az_aload_n C 0 dX12_putBack_33 rfl ?_
          refine az_getr (r := 45) C o40 fl_X12_23 rfl rfl dX12_putBack_34 ?_
          refine az_sipush (v := 150) C dX12_putBack_37 (by decide) ?_
          refine az_iload_n C 1 dX12_putBack_40 rfl ?_
          refine az_imul C dX12_putBack_41 ?_
          refine az_iload_n C 2 dX12_putBack_42 rfl ?_
          refine az_iadd C dX12_putBack_43 ?_
          obtain ⟨g4, h⟩ := az_g h
          refine az_ild (k := ((150 * x1) + x2).toNatClampNeg) C a45 g4 rfl dX12_putBack_44 ?_
          exact s_X12_putBack_45 C G (f_X12_putBack_2 G F) ih x1 x2 (M.1 45 (((150 * x1) + x2).toNatClampNeg)) x2 M r h hp
        · have h := az_t c3 h
          exact s_X12_putBack_24 C G (f_X12_putBack_2 G F) ih x1 x2 x2 M r h hp
set_option maxHeartbeats 4000000 in
set_option maxRecDepth 100000 in
theorem s_X12_putBack_e {Y : az_Y} {V : az_V} {post : Option Value → az_M → Prop} (C : az_C Y V cX12_putBack 3 RX12 none 1) (G : Nat) (p0 : Int32) (M : az_M) (r : az_M) (h : f_X12_putBack G p0 M = some r) (hp : post none r) : AW Y V (az_end Y V post) 3 M 0 [(0, .ref (az_ad V 40)), (1, .int p0)] [] := by
  unfold f_X12_putBack at h
  refine az_iconst (v := 0) C dX12_putBack_0 (by decide) ?_
  refine az_istore_n C dX12_putBack_1 rfl (by decide) rfl ?_
  refine az_sub [1, 2, 0] rfl ?_
  exact s_X12_putBack_2 C G G p0 0 M r h hp
theorem c_X12_putBack {l : Launch} {V : az_V} (hL : az_L V) (G : Nat) (p0 : Int32) (M : az_M) {r : az_M} (h : f_X12_putBack G p0 M = some r) : az_Ct l V yX12_putBack cX12_putBack 3 none 1 [.ref (az_ad V 40), .int p0] M (fun v M' => v = none ∧ M' = r) :=
  az_Ct.of (by decide) (Nat.le_of_ble_eq_true rfl) (fun Y _ _ C => s_X12_putBack_e C G p0 M r h ⟨rfl, rfl⟩)
set_option maxHeartbeats 4000000 in
set_option maxRecDepth 100000 in
theorem s_X12_remember_78 {Y : az_Y} {V : az_V} {post : Option Value → az_M → Prop} (C : az_C Y V cX12_remember 3 RX12 none 2) (G : Nat) (x1 : Int32) (M : az_M) (r : az_M) (h : f_X12_remember_78 G x1 M = some r) (hp : post none r) : AW Y V (az_end Y V post) 3 M 78 [(0, .ref (az_ad V 40)), (1, .int x1)] [] := by
  have o40 := C.hL.at 40 (ci := 12) rfl
  have a46 := C.hL.ar 46 (t := 0) (len := 16) rfl
  unfold f_X12_remember_78 at h
  refine az_aload_n C 0 dX12_remember_78 rfl ?_
  refine az_aload_n C 0 dX12_remember_79 rfl ?_
  refine az_geti C o40 fl_X12_155 rfl dX12_remember_80 ?_
  obtain ⟨q8, e9, h⟩ := az_b h
  refine az_cV (rest := []) (st2 := []) C [.int (M.1 40 8)] (c_X12_keepAll C.hL G (M.1 40 8) M e9) (by decide) li_X12_162 o40 (by decide) rfl rfl (Nat.le_of_ble_eq_true rfl) dX12_remember_83 rfl ?_
  refine az_aload_n C 0 dX12_remember_86 rfl ?_
  refine az_getr (r := 46) C o40 fl_X12_26 rfl rfl dX12_remember_87 ?_
  refine az_aload_n C 0 dX12_remember_90 rfl ?_
  refine az_geti C o40 fl_X12_155 rfl dX12_remember_91 ?_
  refine az_iload_n C 1 dX12_remember_94 rfl ?_
  obtain ⟨g10, h⟩ := az_g h
  refine az_ist (k := (q8.1 40 8).toNatClampNeg) C a46 g10 rfl dX12_remember_95 ?_
  refine az_aload_n C 0 dX12_remember_96 rfl ?_
  refine az_dup C dX12_remember_97 rfl ?_
  refine az_geti C o40 fl_X12_155 rfl dX12_remember_98 ?_
  refine az_iconst (v := 1) C dX12_remember_101 (by decide) ?_
  refine az_iadd C dX12_remember_102 ?_
  refine az_puti C o40 fl_X12_155 rfl rfl rfl rfl dX12_remember_103 ?_
  obtain rfl := Option.some.inj h
  exact az_vret C rfl dX12_remember_106 hp
set_option maxHeartbeats 4000000 in
set_option maxRecDepth 100000 in
theorem s_X12_remember_42 {Y : az_Y} {V : az_V} {post : Option Value → az_M → Prop} (C : az_C Y V cX12_remember 3 RX12 none 2) (G : Nat) : ∀ (F : Nat) (x1 : Int32) (x2 : Int32) (M : az_M) (r : az_M), f_X12_remember_42 G F x1 x2 M = some r → post none r → AW Y V (az_end Y V post) 3 M 42 [(0, .ref (az_ad V 40)), (1, .int x1), (2, .int x2)] [] := by
  have o40 := C.hL.at 40 (ci := 12) rfl
  have a46 := C.hL.ar 46 (t := 0) (len := 16) rfl
  intro F
  induction F with
  | zero =>
    intro x1 x2 M r h
    exact absurd (show (none : Option az_M) = some r from h) (fun q => by cases q)
  | succ F ih =>
    intro x1 x2 M r h hp
    rw [f_X12_remember_42] at h
    refine az_iload_n C 2 dX12_remember_42 rfl ?_
    refine az_bipush (v := 15) C dX12_remember_43 (by decide) ?_
    refine az_icmp_ge C 68 dX12_remember_45 (by decide) (fun c5 => ?_) (fun c5 => ?_)
    · have h := az_t c5 h
      refine az_aload_n C 0 dX12_remember_68 rfl ?_
      refine az_dup C dX12_remember_69 rfl ?_
      refine az_geti C o40 fl_X12_155 rfl dX12_remember_70 ?_
      refine az_iconst (v := 1) C dX12_remember_73 (by decide) ?_
      refine az_isub C dX12_remember_74 ?_
      refine az_puti C o40 fl_X12_155 rfl rfl rfl rfl dX12_remember_75 ?_
      refine az_sub [0, 1] rfl ?_
      exact s_X12_remember_78 C G x1 (az_i M 40 8 ((M.1 40 8) - 1)) r h hp
    · have h := az_f c5 h
      refine az_aload_n C 0 dX12_remember_48 rfl ?_
      refine az_getr (r := 46) C o40 fl_X12_26 rfl rfl dX12_remember_49 ?_
      refine az_iload_n C 2 dX12_remember_52 rfl ?_
      refine az_aload_n C 0 dX12_remember_53 rfl ?_
      refine az_getr (r := 46) C o40 fl_X12_26 rfl rfl dX12_remember_54 ?_
      refine az_iload_n C 2 dX12_remember_57 rfl ?_
      refine az_iconst (v := 1) C dX12_remember_58 (by decide) ?_
      refine az_iadd C dX12_remember_59 ?_
      obtain ⟨g6, h⟩ := az_g h
      refine az_ild (k := (x2 + 1).toNatClampNeg) C a46 g6 rfl dX12_remember_60 ?_
      obtain ⟨g7, h⟩ := az_g h
      refine az_ist (k := x2.toNatClampNeg) C a46 g7 rfl dX12_remember_61 ?_
      refine az_iinc (v := (x2 + 1)) C 2 dX12_remember_62 rfl rfl (by decide) rfl ?_
      refine az_goto C 42 dX12_remember_65 (by decide) ?_
      refine az_sub [1, 2, 0] rfl ?_
      exact ih x1 (x2 + 1) (az_i M 46 x2.toNatClampNeg (M.1 46 ((x2 + 1).toNatClampNeg))) r h hp
set_option maxHeartbeats 4000000 in
set_option maxRecDepth 100000 in
theorem s_X12_remember_11 {Y : az_Y} {V : az_V} {post : Option Value → az_M → Prop} (C : az_C Y V cX12_remember 3 RX12 none 2) (G : Nat) : ∀ (F : Nat) (x1 : Int32) (x2 : Int32) (M : az_M) (r : az_M), f_X12_remember_11 G F x1 x2 M = some r → post none r → AW Y V (az_end Y V post) 3 M 11 [(0, .ref (az_ad V 40)), (1, .int x1), (2, .int x2)] [] := by
  have o40 := C.hL.at 40 (ci := 12) rfl
  have a45 := C.hL.ar 45 (t := 0) (len := 3150) rfl
  intro F
  induction F with
  | zero =>
    intro x1 x2 M r h
    exact absurd (show (none : Option az_M) = some r from h) (fun q => by cases q)
  | succ F ih =>
    intro x1 x2 M r h hp
    rw [f_X12_remember_11] at h
    refine az_iload_n C 2 dX12_remember_11 rfl ?_
    refine az_sipush (v := 2250) C dX12_remember_12 (by decide) ?_
    refine az_icmp_ge C 40 dX12_remember_15 (by decide) (fun c2 => ?_) (fun c2 => ?_)
    · have h := az_t c2 h
      refine az_iconst (v := 0) C dX12_remember_40 (by decide) ?_
      refine az_istore_n C dX12_remember_41 rfl (by decide) rfl ?_
      refine az_sub [1, 2, 0] rfl ?_
      exact s_X12_remember_42 C G G x1 0 M r h hp
    · have h := az_f c2 h
      refine az_aload_n C 0 dX12_remember_18 rfl ?_
      refine az_getr (r := 45) C o40 fl_X12_23 rfl rfl dX12_remember_19 ?_
      refine az_iload_n C 2 dX12_remember_22 rfl ?_
      refine az_aload_n C 0 dX12_remember_23 rfl ?_
      refine az_getr (r := 45) C o40 fl_X12_23 rfl rfl dX12_remember_24 ?_
      refine az_iload_n C 2 dX12_remember_27 rfl ?_
      refine az_sipush (v := 150) C dX12_remember_28 (by decide) ?_
      refine az_iadd C dX12_remember_31 ?_
      obtain ⟨g3, h⟩ := az_g h
      refine az_ild (k := (x2 + 150).toNatClampNeg) C a45 g3 rfl dX12_remember_32 ?_
      obtain ⟨g4, h⟩ := az_g h
      refine az_ist (k := x2.toNatClampNeg) C a45 g4 rfl dX12_remember_33 ?_
      refine az_iinc (v := (x2 + 1)) C 2 dX12_remember_34 rfl rfl (by decide) rfl ?_
      refine az_goto C 11 dX12_remember_37 (by decide) ?_
      refine az_sub [1, 2, 0] rfl ?_
      exact ih x1 (x2 + 1) (az_i M 45 x2.toNatClampNeg (M.1 45 ((x2 + 150).toNatClampNeg))) r h hp
set_option maxHeartbeats 4000000 in
set_option maxRecDepth 100000 in
theorem s_X12_remember_e {Y : az_Y} {V : az_V} {post : Option Value → az_M → Prop} (C : az_C Y V cX12_remember 3 RX12 none 2) (G : Nat) (p0 : Int32) (M : az_M) (r : az_M) (h : f_X12_remember G p0 M = some r) (hp : post none r) : AW Y V (az_end Y V post) 3 M 0 [(0, .ref (az_ad V 40)), (1, .int p0)] [] := by
  have o40 := C.hL.at 40 (ci := 12) rfl
  unfold f_X12_remember at h
  refine az_aload_n C 0 dX12_remember_0 rfl ?_
  refine az_geti C o40 fl_X12_155 rfl dX12_remember_1 ?_
  refine az_bipush (v := 16) C dX12_remember_4 (by decide) ?_
  refine az_icmp_ne C 78 dX12_remember_6 (by decide) (fun c1 => ?_) (fun c1 => ?_)
  · have h := az_f c1 h
    exact s_X12_remember_78 C G p0 M r h hp
  · have h := az_t c1 h
    refine az_iconst (v := 0) C dX12_remember_9 (by decide) ?_
    refine az_istore_n C dX12_remember_10 rfl (by decide) rfl ?_
    refine az_sub [1, 2, 0] rfl ?_
    exact s_X12_remember_11 C G G p0 0 M r h hp
theorem c_X12_remember {l : Launch} {V : az_V} (hL : az_L V) (G : Nat) (p0 : Int32) (M : az_M) {r : az_M} (h : f_X12_remember G p0 M = some r) : az_Ct l V yX12_remember cX12_remember 3 none 2 [.ref (az_ad V 40), .int p0] M (fun v M' => v = none ∧ M' = r) :=
  az_Ct.of (by decide) (Nat.le_of_ble_eq_true rfl) (fun Y _ _ C => s_X12_remember_e C G p0 M r h ⟨rfl, rfl⟩)
set_option maxHeartbeats 4000000 in
set_option maxRecDepth 100000 in
theorem s_X12_undo_e {Y : az_Y} {V : az_V} {post : Option Value → az_M → Prop} (C : az_C Y V cX12_undo 1 RX12 (some .int) 2) (G : Nat)  (M : az_M) (r : (Int32 × az_M)) (h : f_X12_undo G M = some r) (hp : post (some (.int r.1)) r.2) : AW Y V (az_end Y V post) 1 M 0 [(0, .ref (az_ad V 40))] [] := by
  have o40 := C.hL.at 40 (ci := 12) rfl
  have a46 := C.hL.ar 46 (t := 0) (len := 16) rfl
  unfold f_X12_undo at h
  refine az_aload_n C 0 dX12_undo_0 rfl ?_
  refine az_iconst (v := 0) C dX12_undo_1 (by decide) ?_
  refine az_puti C o40 fl_X12_149 rfl rfl rfl rfl dX12_undo_2 ?_
  refine az_aload_n C 0 dX12_undo_5 rfl ?_
  refine az_geti C o40 fl_X12_155 rfl dX12_undo_6 ?_
  refine az_if_ne C 19 dX12_undo_9 (by decide) (fun c1 => ?_) (fun c1 => ?_)
  · have h := az_f c1 h
    refine az_aload_n C 0 dX12_undo_19 rfl ?_
    refine az_dup C dX12_undo_20 rfl ?_
    refine az_geti C o40 fl_X12_155 rfl dX12_undo_21 ?_
    refine az_iconst (v := 1) C dX12_undo_24 (by decide) ?_
    refine az_isub C dX12_undo_25 ?_
    refine az_puti C o40 fl_X12_155 rfl rfl rfl rfl dX12_undo_26 ?_
    refine az_aload_n C 0 dX12_undo_29 rfl ?_
    refine az_aload_n C 0 dX12_undo_30 rfl ?_
    refine az_geti C o40 fl_X12_155 rfl dX12_undo_31 ?_
    obtain ⟨q2, e3, h⟩ := az_b h
    refine az_cV (rest := []) (st2 := []) C [.int ((az_i (az_i M 40 0 0) 40 8 (((az_i M 40 0 0).1 40 8) - 1)).1 40 8)] (c_X12_putBack C.hL G ((az_i (az_i M 40 0 0) 40 8 (((az_i M 40 0 0).1 40 8) - 1)).1 40 8) (az_i (az_i M 40 0 0) 40 8 (((az_i M 40 0 0).1 40 8) - 1)) e3) (by decide) li_X12_166 o40 (by decide) rfl rfl (Nat.le_of_ble_eq_true rfl) dX12_undo_34 rfl ?_
    refine az_aload_n C 0 dX12_undo_37 rfl ?_
    refine az_aload_n C 0 dX12_undo_38 rfl ?_
    refine az_getr (r := 46) C o40 fl_X12_26 rfl rfl dX12_undo_39 ?_
    refine az_aload_n C 0 dX12_undo_42 rfl ?_
    refine az_geti C o40 fl_X12_155 rfl dX12_undo_43 ?_
    obtain ⟨g4, h⟩ := az_g h
    refine az_ild (k := (q2.1 40 8).toNatClampNeg) C a46 g4 rfl dX12_undo_46 ?_
    obtain ⟨q5, e6, h⟩ := az_b h
    refine az_cV (rest := []) (st2 := [.int q5.1]) C [.int (q2.1 46 ((q2.1 40 8).toNatClampNeg))] (c_X12_tell C.hL (q2.1 46 ((q2.1 40 8).toNatClampNeg)) q2 e6) (by decide) li_X12_158 o40 (by decide) rfl rfl (Nat.le_of_ble_eq_true rfl) dX12_undo_47 rfl ?_
    obtain rfl := Option.some.inj h
    exact az_iret C dX12_undo_50 hp
  · have h := az_t c1 h
    refine az_aload_n C 0 dX12_undo_12 rfl ?_
    refine az_bipush (v := (-3)) C dX12_undo_13 (by decide) ?_
    obtain ⟨q7, e8, h⟩ := az_b h
    refine az_cV (rest := []) (st2 := [.int q7.1]) C [.int (-3)] (c_X12_tell C.hL (-3) (az_i M 40 0 0) e8) (by decide) li_X12_158 o40 (by decide) rfl rfl (Nat.le_of_ble_eq_true rfl) dX12_undo_15 rfl ?_
    obtain rfl := Option.some.inj h
    exact az_iret C dX12_undo_18 hp
theorem c_X12_undo {l : Launch} {V : az_V} (hL : az_L V) (G : Nat)  (M : az_M) {r : (Int32 × az_M)} (h : f_X12_undo G M = some r) : az_Ct l V yX12_undo cX12_undo 1 (some .int) 2 [.ref (az_ad V 40)] M (fun v M' => v = some (.int r.1) ∧ M' = r.2) :=
  az_Ct.of (by decide) (Nat.le_of_ble_eq_true rfl) (fun Y _ _ C => s_X12_undo_e C G M r h ⟨rfl, rfl⟩)
set_option maxHeartbeats 4000000 in
set_option maxRecDepth 100000 in
theorem s_X12_image_23 {Y : az_Y} {V : az_V} {post : Option Value → az_M → Prop} (C : az_C Y V cX12_image 3 RX12 (some .int) 2) (G : Nat) : ∀ (F : Nat) (x1 : Int32) (x2 : Int32) (M : az_M) (r : (Int32 × az_M)), f_X12_image_23 G F x1 x2 M = some r → post (some (.int r.1)) r.2 → AW Y V (az_end Y V post) 3 M 23 [(0, .ref (az_ad V 40)), (1, .int x1), (2, .int x2)] [] := by
  have o40 := C.hL.at 40 (ci := 12) rfl
  have a42 := C.hL.ar 42 (t := 0) (len := 5550) rfl
  have a43 := C.hL.ar 43 (t := 0) (len := 11100) rfl
  have a44 := C.hL.ar 44 (t := 2) (len := 2) rfl
  intro F
  induction F with
  | zero =>
    intro x1 x2 M r h
    exact absurd (show (none : Option (Int32 × az_M)) = some r from h) (fun q => by cases q)
  | succ F ih =>
    intro x1 x2 M r h hp
    rw [f_X12_image_23] at h
    refine az_iload_n C 2 dX12_image_23 rfl ?_
    refine az_sipush (v := 5550) C dX12_image_24 (by decide) ?_
    refine az_icmp_ge C 54 dX12_image_27 (by decide) (fun c6 => ?_) (fun c6 => ?_)
    · have h := az_t c6 h
      refine az_aload_n C 0 dX12_image_54 rfl ?_
      refine az_getr (r := 44) C o40 fl_X12_19 rfl rfl dX12_image_55 ?_
      refine az_iload_n C 1 dX12_image_58 rfl ?_
      refine az_iconst (v := 1) C dX12_image_59 (by decide) ?_
      obtain ⟨g7, h⟩ := az_g h
      refine az_zst (k := x1.toNatClampNeg) C a44 g7 rfl (by decide) dX12_image_60 ?_
      refine az_aload_n C 0 dX12_image_61 rfl ?_
      refine az_iconst (v := 0) C dX12_image_62 (by decide) ?_
      obtain ⟨q8, e9, h⟩ := az_b h
      refine az_cV (rest := []) (st2 := [.int q8.1]) C [.int 0] (c_X12_tell C.hL 0 (az_i M 44 x1.toNatClampNeg 1) e9) (by decide) li_X12_158 o40 (by decide) rfl rfl (Nat.le_of_ble_eq_true rfl) dX12_image_63 rfl ?_
      obtain rfl := Option.some.inj h
      exact az_iret C dX12_image_66 hp
    · have h := az_f c6 h
      refine az_aload_n C 0 dX12_image_30 rfl ?_
      refine az_getr (r := 43) C o40 fl_X12_16 rfl rfl dX12_image_31 ?_
      refine az_sipush (v := 5550) C dX12_image_34 (by decide) ?_
      refine az_iload_n C 1 dX12_image_37 rfl ?_
      refine az_imul C dX12_image_38 ?_
      refine az_iload_n C 2 dX12_image_39 rfl ?_
      refine az_iadd C dX12_image_40 ?_
      refine az_aload_n C 0 dX12_image_41 rfl ?_
      refine az_getr (r := 42) C o40 fl_X12_13 rfl rfl dX12_image_42 ?_
      refine az_iload_n C 2 dX12_image_45 rfl ?_
      obtain ⟨g10, h⟩ := az_g h
      refine az_ild (k := x2.toNatClampNeg) C a42 g10 rfl dX12_image_46 ?_
      obtain ⟨g11, h⟩ := az_g h
      refine az_ist (k := ((5550 * x1) + x2).toNatClampNeg) C a43 g11 rfl dX12_image_47 ?_
      refine az_iinc (v := (x2 + 1)) C 2 dX12_image_48 rfl rfl (by decide) rfl ?_
      refine az_goto C 23 dX12_image_51 (by decide) ?_
      refine az_sub [1, 2, 0] rfl ?_
      exact ih x1 (x2 + 1) (az_i M 43 (((5550 * x1) + x2).toNatClampNeg) (M.1 42 x2.toNatClampNeg)) r h hp
set_option maxHeartbeats 4000000 in
set_option maxRecDepth 100000 in
theorem s_X12_image_e {Y : az_Y} {V : az_V} {post : Option Value → az_M → Prop} (C : az_C Y V cX12_image 3 RX12 (some .int) 2) (G : Nat) (p0 : Int32) (M : az_M) (r : (Int32 × az_M)) (h : f_X12_image G p0 M = some r) (hp : post (some (.int r.1)) r.2) : AW Y V (az_end Y V post) 3 M 0 [(0, .ref (az_ad V 40)), (1, .int p0)] [] := by
  have o40 := C.hL.at 40 (ci := 12) rfl
  unfold f_X12_image at h
  refine az_aload_n C 0 dX12_image_0 rfl ?_
  refine az_iconst (v := 0) C dX12_image_1 (by decide) ?_
  refine az_puti C o40 fl_X12_149 rfl rfl rfl rfl dX12_image_2 ?_
  refine az_iload_n C 1 dX12_image_5 rfl ?_
  refine az_i2l C dX12_image_6 ?_
  refine az_lconst (v := 0) C dX12_image_7 (by decide) ?_
  refine az_lconst (v := 1) C dX12_image_8 (by decide) ?_
  obtain ⟨q1, e2, h⟩ := az_b h
  refine az_cS (rest := []) (st2 := [.int q1]) C [.long p0.toInt64, .long 0, .long 1] (c_X12_in C.hL p0.toInt64 0 1 (az_i M 40 0 0) e2) (by decide) li_X12_169 rfl rfl (Nat.le_of_ble_eq_true rfl) dX12_image_9 rfl ?_
  refine az_if_ne C 21 dX12_image_12 (by decide) (fun c3 => ?_) (fun c3 => ?_)
  · have h := az_f c3 h
    refine az_iconst (v := 0) C dX12_image_21 (by decide) ?_
    refine az_istore_n C dX12_image_22 rfl (by decide) rfl ?_
    refine az_sub [1, 2, 0] rfl ?_
    exact s_X12_image_23 C G G p0 0 (az_i M 40 0 0) r h hp
  · have h := az_t c3 h
    refine az_aload_n C 0 dX12_image_15 rfl ?_
    refine az_iconst (v := (-1)) C dX12_image_16 (by decide) ?_
    obtain ⟨q4, e5, h⟩ := az_b h
    refine az_cV (rest := []) (st2 := [.int q4.1]) C [.int (-1)] (c_X12_tell C.hL (-1) (az_i M 40 0 0) e5) (by decide) li_X12_158 o40 (by decide) rfl rfl (Nat.le_of_ble_eq_true rfl) dX12_image_17 rfl ?_
    obtain rfl := Option.some.inj h
    exact az_iret C dX12_image_20 hp
theorem c_X12_image {l : Launch} {V : az_V} (hL : az_L V) (G : Nat) (p0 : Int32) (M : az_M) {r : (Int32 × az_M)} (h : f_X12_image G p0 M = some r) : az_Ct l V yX12_image cX12_image 3 (some .int) 2 [.ref (az_ad V 40), .int p0] M (fun v M' => v = some (.int r.1) ∧ M' = r.2) :=
  az_Ct.of (by decide) (Nat.le_of_ble_eq_true rfl) (fun Y _ _ C => s_X12_image_e C G p0 M r h ⟨rfl, rfl⟩)
set_option maxHeartbeats 4000000 in
set_option maxRecDepth 100000 in
theorem s_X12_back_39 {Y : az_Y} {V : az_V} {post : Option Value → az_M → Prop} (C : az_C Y V cX12_back 3 RX12 (some .int) 3) (G : Nat) : ∀ (F : Nat) (x1 : Int32) (x2 : Int32) (M : az_M) (r : (Int32 × az_M)), f_X12_back_39 G F x1 x2 M = some r → post (some (.int r.1)) r.2 → AW Y V (az_end Y V post) 3 M 39 [(0, .ref (az_ad V 40)), (1, .int x1), (2, .int x2)] [] := by
  have o40 := C.hL.at 40 (ci := 12) rfl
  have a42 := C.hL.ar 42 (t := 0) (len := 5550) rfl
  have a43 := C.hL.ar 43 (t := 0) (len := 11100) rfl
  intro F
  induction F with
  | zero =>
    intro x1 x2 M r h
    exact absurd (show (none : Option (Int32 × az_M)) = some r from h) (fun q => by cases q)
  | succ F ih =>
    intro x1 x2 M r h hp
    rw [f_X12_back_39] at h
    refine az_iload_n C 2 dX12_back_39 rfl ?_
    refine az_sipush (v := 5550) C dX12_back_40 (by decide) ?_
    refine az_icmp_ge C 70 dX12_back_43 (by decide) (fun c10 => ?_) (fun c10 => ?_)
    · have h := az_t c10 h
      refine az_aload_n C 0 dX12_back_70 rfl ?_
      refine az_iconst (v := 0) C dX12_back_71 (by decide) ?_
      obtain ⟨q11, e12, h⟩ := az_b h
      refine az_cV (rest := []) (st2 := [.int q11.1]) C [.int 0] (c_X12_settled C.hL 0 M e12) (by decide) li_X12_173 o40 (by decide) rfl rfl (Nat.le_of_ble_eq_true rfl) dX12_back_72 rfl ?_
      obtain rfl := Option.some.inj h
      exact az_iret C dX12_back_75 hp
    · have h := az_f c10 h
      refine az_aload_n C 0 dX12_back_46 rfl ?_
      refine az_getr (r := 42) C o40 fl_X12_13 rfl rfl dX12_back_47 ?_
      refine az_iload_n C 2 dX12_back_50 rfl ?_
      refine az_aload_n C 0 dX12_back_51 rfl ?_
      refine az_getr (r := 43) C o40 fl_X12_16 rfl rfl dX12_back_52 ?_
      refine az_sipush (v := 5550) C dX12_back_55 (by decide) ?_
      refine az_iload_n C 1 dX12_back_58 rfl ?_
      refine az_imul C dX12_back_59 ?_
      refine az_iload_n C 2 dX12_back_60 rfl ?_
      refine az_iadd C dX12_back_61 ?_
      obtain ⟨g13, h⟩ := az_g h
      refine az_ild (k := ((5550 * x1) + x2).toNatClampNeg) C a43 g13 rfl dX12_back_62 ?_
      obtain ⟨g14, h⟩ := az_g h
      refine az_ist (k := x2.toNatClampNeg) C a42 g14 rfl dX12_back_63 ?_
      refine az_iinc (v := (x2 + 1)) C 2 dX12_back_64 rfl rfl (by decide) rfl ?_
      refine az_goto C 39 dX12_back_67 (by decide) ?_
      refine az_sub [1, 2, 0] rfl ?_
      exact ih x1 (x2 + 1) (az_i M 42 x2.toNatClampNeg (M.1 43 (((5550 * x1) + x2).toNatClampNeg))) r h hp
set_option maxHeartbeats 4000000 in
set_option maxRecDepth 100000 in
theorem s_X12_back_e {Y : az_Y} {V : az_V} {post : Option Value → az_M → Prop} (C : az_C Y V cX12_back 3 RX12 (some .int) 3) (G : Nat) (p0 : Int32) (M : az_M) (r : (Int32 × az_M)) (h : f_X12_back G p0 M = some r) (hp : post (some (.int r.1)) r.2) : AW Y V (az_end Y V post) 3 M 0 [(0, .ref (az_ad V 40)), (1, .int p0)] [] := by
  have o40 := C.hL.at 40 (ci := 12) rfl
  have a44 := C.hL.ar 44 (t := 2) (len := 2) rfl
  unfold f_X12_back at h
  refine az_aload_n C 0 dX12_back_0 rfl ?_
  refine az_iconst (v := 0) C dX12_back_1 (by decide) ?_
  refine az_puti C o40 fl_X12_149 rfl rfl rfl rfl dX12_back_2 ?_
  refine az_iload_n C 1 dX12_back_5 rfl ?_
  refine az_i2l C dX12_back_6 ?_
  refine az_lconst (v := 0) C dX12_back_7 (by decide) ?_
  refine az_lconst (v := 1) C dX12_back_8 (by decide) ?_
  obtain ⟨q1, e2, h⟩ := az_b h
  refine az_cS (rest := []) (st2 := [.int q1]) C [.long p0.toInt64, .long 0, .long 1] (c_X12_in C.hL p0.toInt64 0 1 (az_i M 40 0 0) e2) (by decide) li_X12_169 rfl rfl (Nat.le_of_ble_eq_true rfl) dX12_back_9 rfl ?_
  refine az_if_ne C 21 dX12_back_12 (by decide) (fun c3 => ?_) (fun c3 => ?_)
  · have h := az_f c3 h
    refine az_aload_n C 0 dX12_back_21 rfl ?_
    refine az_getr (r := 44) C o40 fl_X12_19 rfl rfl dX12_back_22 ?_
    refine az_iload_n C 1 dX12_back_25 rfl ?_
    obtain ⟨g4, h⟩ := az_g h
    refine az_zld (k := p0.toNatClampNeg) C a44 g4 rfl dX12_back_26 ?_
    refine az_if_ne C 37 dX12_back_27 (by decide) (fun c5 => ?_) (fun c5 => ?_)
    · have h := az_f c5 h
      refine az_iconst (v := 0) C dX12_back_37 (by decide) ?_
      refine az_istore_n C dX12_back_38 rfl (by decide) rfl ?_
      refine az_sub [1, 2, 0] rfl ?_
      exact s_X12_back_39 C G G p0 0 (az_i M 40 0 0) r h hp
    · have h := az_t c5 h
      refine az_aload_n C 0 dX12_back_30 rfl ?_
      refine az_bipush (v := (-2)) C dX12_back_31 (by decide) ?_
      obtain ⟨q6, e7, h⟩ := az_b h
      refine az_cV (rest := []) (st2 := [.int q6.1]) C [.int (-2)] (c_X12_tell C.hL (-2) (az_i M 40 0 0) e7) (by decide) li_X12_158 o40 (by decide) rfl rfl (Nat.le_of_ble_eq_true rfl) dX12_back_33 rfl ?_
      obtain rfl := Option.some.inj h
      exact az_iret C dX12_back_36 hp
  · have h := az_t c3 h
    refine az_aload_n C 0 dX12_back_15 rfl ?_
    refine az_iconst (v := (-1)) C dX12_back_16 (by decide) ?_
    obtain ⟨q8, e9, h⟩ := az_b h
    refine az_cV (rest := []) (st2 := [.int q8.1]) C [.int (-1)] (c_X12_tell C.hL (-1) (az_i M 40 0 0) e9) (by decide) li_X12_158 o40 (by decide) rfl rfl (Nat.le_of_ble_eq_true rfl) dX12_back_17 rfl ?_
    obtain rfl := Option.some.inj h
    exact az_iret C dX12_back_20 hp
theorem c_X12_back {l : Launch} {V : az_V} (hL : az_L V) (G : Nat) (p0 : Int32) (M : az_M) {r : (Int32 × az_M)} (h : f_X12_back G p0 M = some r) : az_Ct l V yX12_back cX12_back 3 (some .int) 3 [.ref (az_ad V 40), .int p0] M (fun v M' => v = some (.int r.1) ∧ M' = r.2) :=
  az_Ct.of (by decide) (Nat.le_of_ble_eq_true rfl) (fun Y _ _ C => s_X12_back_e C G p0 M r h ⟨rfl, rfl⟩)
set_option maxHeartbeats 4000000 in
set_option maxRecDepth 100000 in
theorem s_X12_term_e {Y : az_Y} {V : az_V} {post : Option Value → az_M → Prop} (C : az_C Y V cX12_term 2 RX12 (some .int) 1) (p0 : Int32) (M : az_M) (r : Int32) (h : f_X12_term p0 M = some r) (hp : post (some (.int r)) M) : AW Y V (az_end Y V post) 2 M 0 [(0, .ref (az_ad V 40)), (1, .int p0)] [] := by
  have o40 := C.hL.at 40 (ci := 12) rfl
  have a42 := C.hL.ar 42 (t := 0) (len := 5550) rfl
  unfold f_X12_term at h
  refine az_aload_n C 0 dX12_term_0 rfl ?_
  refine az_getr (r := 42) C o40 fl_X12_13 rfl rfl dX12_term_1 ?_
  refine az_bipush (v := 6) C dX12_term_4 (by decide) ?_
  refine az_iload_n C 1 dX12_term_6 rfl ?_
  refine az_iadd C dX12_term_7 ?_
  obtain ⟨g1, h⟩ := az_g h
  refine az_ild (k := (6 + p0).toNatClampNeg) C a42 g1 rfl dX12_term_8 ?_
  obtain rfl := Option.some.inj h
  exact az_iret C dX12_term_9 hp
theorem c_X12_term {l : Launch} {V : az_V} (hL : az_L V) (p0 : Int32) (M : az_M) {r : Int32} (h : f_X12_term p0 M = some r) : az_Ct l V yX12_term cX12_term 2 (some .int) 1 [.ref (az_ad V 40), .int p0] M (fun v M' => v = some (.int r) ∧ M' = M) :=
  az_Ct.of (by decide) (Nat.le_of_ble_eq_true rfl) (fun Y _ _ C => s_X12_term_e C p0 M r h ⟨rfl, rfl⟩)
set_option maxHeartbeats 4000000 in
set_option maxRecDepth 100000 in
theorem s_X12_bulletOf_e {Y : az_Y} {V : az_V} {post : Option Value → az_M → Prop} (C : az_C Y V cX12_bulletOf 2 RX12 (some .int) 1) (p0 : Int32) (M : az_M) (r : Int32) (h : f_X12_bulletOf p0 M = some r) (hp : post (some (.int r)) M) : AW Y V (az_end Y V post) 2 M 0 [(0, .ref (az_ad V 40)), (1, .int p0)] [] := by
  have o40 := C.hL.at 40 (ci := 12) rfl
  have a42 := C.hL.ar 42 (t := 0) (len := 5550) rfl
  unfold f_X12_bulletOf at h
  refine az_aload_n C 0 dX12_bulletOf_0 rfl ?_
  refine az_getr (r := 42) C o40 fl_X12_13 rfl rfl dX12_bulletOf_1 ?_
  refine az_bipush (v := 11) C dX12_bulletOf_4 (by decide) ?_
  refine az_iload_n C 1 dX12_bulletOf_6 rfl ?_
  refine az_iadd C dX12_bulletOf_7 ?_
  obtain ⟨g1, h⟩ := az_g h
  refine az_ild (k := (11 + p0).toNatClampNeg) C a42 g1 rfl dX12_bulletOf_8 ?_
  obtain rfl := Option.some.inj h
  exact az_iret C dX12_bulletOf_9 hp
theorem c_X12_bulletOf {l : Launch} {V : az_V} (hL : az_L V) (p0 : Int32) (M : az_M) {r : Int32} (h : f_X12_bulletOf p0 M = some r) : az_Ct l V yX12_bulletOf cX12_bulletOf 2 (some .int) 1 [.ref (az_ad V 40), .int p0] M (fun v M' => v = some (.int r) ∧ M' = M) :=
  az_Ct.of (by decide) (Nat.le_of_ble_eq_true rfl) (fun Y _ _ C => s_X12_bulletOf_e C p0 M r h ⟨rfl, rfl⟩)
set_option maxHeartbeats 4000000 in
set_option maxRecDepth 100000 in
theorem s_X12_ofPlace_e {Y : az_Y} {V : az_V} {post : Option Value → az_M → Prop} (C : az_C Y V cX12_ofPlace 3 RX12 (some .int) 1) (p0 : Int32) (p1 : Int32) (M : az_M) (r : Int32) (h : f_X12_ofPlace p0 p1 M = some r) (hp : post (some (.int r)) M) : AW Y V (az_end Y V post) 3 M 0 [(0, .ref (az_ad V 40)), (1, .int p0), (2, .int p1)] [] := by
  have o40 := C.hL.at 40 (ci := 12) rfl
  have a42 := C.hL.ar 42 (t := 0) (len := 5550) rfl
  unfold f_X12_ofPlace at h
  refine az_aload_n C 0 dX12_ofPlace_0 rfl ?_
  refine az_getr (r := 42) C o40 fl_X12_13 rfl rfl dX12_ofPlace_1 ?_
  refine az_bipush (v := 17) C dX12_ofPlace_4 (by decide) ?_
  refine az_iconst (v := 4) C dX12_ofPlace_6 (by decide) ?_
  refine az_iload_n C 1 dX12_ofPlace_7 rfl ?_
  refine az_imul C dX12_ofPlace_8 ?_
  refine az_iadd C dX12_ofPlace_9 ?_
  refine az_iload_n C 2 dX12_ofPlace_10 rfl ?_
  refine az_iadd C dX12_ofPlace_11 ?_
  obtain ⟨g1, h⟩ := az_g h
  refine az_ild (k := ((17 + (4 * p0)) + p1).toNatClampNeg) C a42 g1 rfl dX12_ofPlace_12 ?_
  obtain rfl := Option.some.inj h
  exact az_iret C dX12_ofPlace_13 hp
theorem c_X12_ofPlace {l : Launch} {V : az_V} (hL : az_L V) (p0 : Int32) (p1 : Int32) (M : az_M) {r : Int32} (h : f_X12_ofPlace p0 p1 M = some r) : az_Ct l V yX12_ofPlace cX12_ofPlace 3 (some .int) 1 [.ref (az_ad V 40), .int p0, .int p1] M (fun v M' => v = some (.int r) ∧ M' = M) :=
  az_Ct.of (by decide) (Nat.le_of_ble_eq_true rfl) (fun Y _ _ C => s_X12_ofPlace_e C p0 p1 M r h ⟨rfl, rfl⟩)
set_option maxHeartbeats 4000000 in
set_option maxRecDepth 100000 in
theorem s_X12_ofPerson_e {Y : az_Y} {V : az_V} {post : Option Value → az_M → Prop} (C : az_C Y V cX12_ofPerson 3 RX12 (some .int) 1) (p0 : Int32) (p1 : Int32) (M : az_M) (r : Int32) (h : f_X12_ofPerson p0 p1 M = some r) (hp : post (some (.int r)) M) : AW Y V (az_end Y V post) 3 M 0 [(0, .ref (az_ad V 40)), (1, .int p0), (2, .int p1)] [] := by
  have o40 := C.hL.at 40 (ci := 12) rfl
  have a42 := C.hL.ar 42 (t := 0) (len := 5550) rfl
  unfold f_X12_ofPerson at h
  refine az_aload_n C 0 dX12_ofPerson_0 rfl ?_
  refine az_getr (r := 42) C o40 fl_X12_13 rfl rfl dX12_ofPerson_1 ?_
  refine az_bipush (v := 65) C dX12_ofPerson_4 (by decide) ?_
  refine az_iconst (v := 3) C dX12_ofPerson_6 (by decide) ?_
  refine az_iload_n C 1 dX12_ofPerson_7 rfl ?_
  refine az_imul C dX12_ofPerson_8 ?_
  refine az_iadd C dX12_ofPerson_9 ?_
  refine az_iload_n C 2 dX12_ofPerson_10 rfl ?_
  refine az_iadd C dX12_ofPerson_11 ?_
  obtain ⟨g1, h⟩ := az_g h
  refine az_ild (k := ((65 + (3 * p0)) + p1).toNatClampNeg) C a42 g1 rfl dX12_ofPerson_12 ?_
  obtain rfl := Option.some.inj h
  exact az_iret C dX12_ofPerson_13 hp
theorem c_X12_ofPerson {l : Launch} {V : az_V} (hL : az_L V) (p0 : Int32) (p1 : Int32) (M : az_M) {r : Int32} (h : f_X12_ofPerson p0 p1 M = some r) : az_Ct l V yX12_ofPerson cX12_ofPerson 3 (some .int) 1 [.ref (az_ad V 40), .int p0, .int p1] M (fun v M' => v = some (.int r) ∧ M' = M) :=
  az_Ct.of (by decide) (Nat.le_of_ble_eq_true rfl) (fun Y _ _ C => s_X12_ofPerson_e C p0 p1 M r h ⟨rfl, rfl⟩)
set_option maxHeartbeats 4000000 in
set_option maxRecDepth 100000 in
theorem s_X12_ofQuarrel_e {Y : az_Y} {V : az_V} {post : Option Value → az_M → Prop} (C : az_C Y V cX12_ofQuarrel 3 RX12 (some .int) 1) (p0 : Int32) (p1 : Int32) (M : az_M) (r : Int32) (h : f_X12_ofQuarrel p0 p1 M = some r) (hp : post (some (.int r)) M) : AW Y V (az_end Y V post) 3 M 0 [(0, .ref (az_ad V 40)), (1, .int p0), (2, .int p1)] [] := by
  have o40 := C.hL.at 40 (ci := 12) rfl
  have a42 := C.hL.ar 42 (t := 0) (len := 5550) rfl
  unfold f_X12_ofQuarrel at h
  refine az_aload_n C 0 dX12_ofQuarrel_0 rfl ?_
  refine az_getr (r := 42) C o40 fl_X12_13 rfl rfl dX12_ofQuarrel_1 ?_
  refine az_bipush (v := 95) C dX12_ofQuarrel_4 (by decide) ?_
  refine az_iconst (v := 4) C dX12_ofQuarrel_6 (by decide) ?_
  refine az_iload_n C 1 dX12_ofQuarrel_7 rfl ?_
  refine az_imul C dX12_ofQuarrel_8 ?_
  refine az_iadd C dX12_ofQuarrel_9 ?_
  refine az_iload_n C 2 dX12_ofQuarrel_10 rfl ?_
  refine az_iadd C dX12_ofQuarrel_11 ?_
  obtain ⟨g1, h⟩ := az_g h
  refine az_ild (k := ((95 + (4 * p0)) + p1).toNatClampNeg) C a42 g1 rfl dX12_ofQuarrel_12 ?_
  obtain rfl := Option.some.inj h
  exact az_iret C dX12_ofQuarrel_13 hp
theorem c_X12_ofQuarrel {l : Launch} {V : az_V} (hL : az_L V) (p0 : Int32) (p1 : Int32) (M : az_M) {r : Int32} (h : f_X12_ofQuarrel p0 p1 M = some r) : az_Ct l V yX12_ofQuarrel cX12_ofQuarrel 3 (some .int) 1 [.ref (az_ad V 40), .int p0, .int p1] M (fun v M' => v = some (.int r) ∧ M' = M) :=
  az_Ct.of (by decide) (Nat.le_of_ble_eq_true rfl) (fun Y _ _ C => s_X12_ofQuarrel_e C p0 p1 M r h ⟨rfl, rfl⟩)
set_option maxHeartbeats 4000000 in
set_option maxRecDepth 100000 in
theorem s_X12_isPlace_e {Y : az_Y} {V : az_V} {post : Option Value → az_M → Prop} (C : az_C Y V cX12_isPlace 2 RX12 (some .boolean) 2) (p0 : Int32) (M : az_M) (r : Int32) (h : f_X12_isPlace p0 M = some r) (hp : post (some (.int r)) M) : AW Y V (az_end Y V post) 2 M 0 [(0, .ref (az_ad V 40)), (1, .int p0)] [] := by
  have o40 := C.hL.at 40 (ci := 12) rfl
  have a42 := C.hL.ar 42 (t := 0) (len := 5550) rfl
  unfold f_X12_isPlace at h
  refine az_iload_n C 1 dX12_isPlace_0 rfl ?_
  refine az_i2l C dX12_isPlace_1 ?_
  refine az_lconst (v := 0) C dX12_isPlace_2 (by decide) ?_
  refine az_aload_n C 0 dX12_isPlace_3 rfl ?_
  refine az_getr (r := 42) C o40 fl_X12_13 rfl rfl dX12_isPlace_4 ?_
  refine az_iconst (v := 0) C dX12_isPlace_7 (by decide) ?_
  refine az_ild (k := 0) C a42 (az_vin (by decide)) (by decide) dX12_isPlace_8 ?_
  refine az_i2l C dX12_isPlace_9 ?_
  refine az_lconst (v := 1) C dX12_isPlace_10 (by decide) ?_
  refine az_lsub C dX12_isPlace_11 ?_
  obtain ⟨q1, e2, h⟩ := az_b h
  refine az_cS (rest := []) (st2 := [.int q1]) C [.long p0.toInt64, .long 0, .long ((M.1 42 0).toInt64 - 1)] (c_X12_in C.hL p0.toInt64 0 ((M.1 42 0).toInt64 - 1) M e2) (by decide) li_X12_169 rfl rfl (Nat.le_of_ble_eq_true rfl) dX12_isPlace_12 rfl ?_
  obtain ⟨g3, h⟩ := az_g2 h
  obtain rfl := Option.some.inj h
  exact az_zret C dX12_isPlace_15 (az_nz g3) hp
theorem c_X12_isPlace {l : Launch} {V : az_V} (hL : az_L V) (p0 : Int32) (M : az_M) {r : Int32} (h : f_X12_isPlace p0 M = some r) : az_Ct l V yX12_isPlace cX12_isPlace 2 (some .boolean) 2 [.ref (az_ad V 40), .int p0] M (fun v M' => v = some (.int r) ∧ M' = M) :=
  az_Ct.of (by decide) (Nat.le_of_ble_eq_true rfl) (fun Y _ _ C => s_X12_isPlace_e C p0 M r h ⟨rfl, rfl⟩)
set_option maxHeartbeats 4000000 in
set_option maxRecDepth 100000 in
theorem s_X12_isPerson_e {Y : az_Y} {V : az_V} {post : Option Value → az_M → Prop} (C : az_C Y V cX12_isPerson 2 RX12 (some .boolean) 2) (p0 : Int32) (M : az_M) (r : Int32) (h : f_X12_isPerson p0 M = some r) (hp : post (some (.int r)) M) : AW Y V (az_end Y V post) 2 M 0 [(0, .ref (az_ad V 40)), (1, .int p0)] [] := by
  have o40 := C.hL.at 40 (ci := 12) rfl
  have a42 := C.hL.ar 42 (t := 0) (len := 5550) rfl
  unfold f_X12_isPerson at h
  refine az_iload_n C 1 dX12_isPerson_0 rfl ?_
  refine az_i2l C dX12_isPerson_1 ?_
  refine az_lconst (v := 0) C dX12_isPerson_2 (by decide) ?_
  refine az_aload_n C 0 dX12_isPerson_3 rfl ?_
  refine az_getr (r := 42) C o40 fl_X12_13 rfl rfl dX12_isPerson_4 ?_
  refine az_iconst (v := 1) C dX12_isPerson_7 (by decide) ?_
  refine az_ild (k := 1) C a42 (az_vin (by decide)) (by decide) dX12_isPerson_8 ?_
  refine az_i2l C dX12_isPerson_9 ?_
  refine az_lconst (v := 1) C dX12_isPerson_10 (by decide) ?_
  refine az_lsub C dX12_isPerson_11 ?_
  obtain ⟨q1, e2, h⟩ := az_b h
  refine az_cS (rest := []) (st2 := [.int q1]) C [.long p0.toInt64, .long 0, .long ((M.1 42 1).toInt64 - 1)] (c_X12_in C.hL p0.toInt64 0 ((M.1 42 1).toInt64 - 1) M e2) (by decide) li_X12_169 rfl rfl (Nat.le_of_ble_eq_true rfl) dX12_isPerson_12 rfl ?_
  obtain ⟨g3, h⟩ := az_g2 h
  obtain rfl := Option.some.inj h
  exact az_zret C dX12_isPerson_15 (az_nz g3) hp
theorem c_X12_isPerson {l : Launch} {V : az_V} (hL : az_L V) (p0 : Int32) (M : az_M) {r : Int32} (h : f_X12_isPerson p0 M = some r) : az_Ct l V yX12_isPerson cX12_isPerson 2 (some .boolean) 2 [.ref (az_ad V 40), .int p0] M (fun v M' => v = some (.int r) ∧ M' = M) :=
  az_Ct.of (by decide) (Nat.le_of_ble_eq_true rfl) (fun Y _ _ C => s_X12_isPerson_e C p0 M r h ⟨rfl, rfl⟩)
set_option maxHeartbeats 4000000 in
set_option maxRecDepth 100000 in
theorem s_X12_isQuarrel_e {Y : az_Y} {V : az_V} {post : Option Value → az_M → Prop} (C : az_C Y V cX12_isQuarrel 2 RX12 (some .boolean) 2) (p0 : Int32) (M : az_M) (r : Int32) (h : f_X12_isQuarrel p0 M = some r) (hp : post (some (.int r)) M) : AW Y V (az_end Y V post) 2 M 0 [(0, .ref (az_ad V 40)), (1, .int p0)] [] := by
  have o40 := C.hL.at 40 (ci := 12) rfl
  have a42 := C.hL.ar 42 (t := 0) (len := 5550) rfl
  unfold f_X12_isQuarrel at h
  refine az_iload_n C 1 dX12_isQuarrel_0 rfl ?_
  refine az_i2l C dX12_isQuarrel_1 ?_
  refine az_lconst (v := 0) C dX12_isQuarrel_2 (by decide) ?_
  refine az_aload_n C 0 dX12_isQuarrel_3 rfl ?_
  refine az_getr (r := 42) C o40 fl_X12_13 rfl rfl dX12_isQuarrel_4 ?_
  refine az_iconst (v := 2) C dX12_isQuarrel_7 (by decide) ?_
  refine az_ild (k := 2) C a42 (az_vin (by decide)) (by decide) dX12_isQuarrel_8 ?_
  refine az_i2l C dX12_isQuarrel_9 ?_
  refine az_lconst (v := 1) C dX12_isQuarrel_10 (by decide) ?_
  refine az_lsub C dX12_isQuarrel_11 ?_
  obtain ⟨q1, e2, h⟩ := az_b h
  refine az_cS (rest := []) (st2 := [.int q1]) C [.long p0.toInt64, .long 0, .long ((M.1 42 2).toInt64 - 1)] (c_X12_in C.hL p0.toInt64 0 ((M.1 42 2).toInt64 - 1) M e2) (by decide) li_X12_169 rfl rfl (Nat.le_of_ble_eq_true rfl) dX12_isQuarrel_12 rfl ?_
  obtain ⟨g3, h⟩ := az_g2 h
  obtain rfl := Option.some.inj h
  exact az_zret C dX12_isQuarrel_15 (az_nz g3) hp
theorem c_X12_isQuarrel {l : Launch} {V : az_V} (hL : az_L V) (p0 : Int32) (M : az_M) {r : Int32} (h : f_X12_isQuarrel p0 M = some r) : az_Ct l V yX12_isQuarrel cX12_isQuarrel 2 (some .boolean) 2 [.ref (az_ad V 40), .int p0] M (fun v M' => v = some (.int r) ∧ M' = M) :=
  az_Ct.of (by decide) (Nat.le_of_ble_eq_true rfl) (fun Y _ _ C => s_X12_isQuarrel_e C p0 M r h ⟨rfl, rfl⟩)
set_option maxHeartbeats 4000000 in
set_option maxRecDepth 100000 in
theorem s_X12_put_39 {Y : az_Y} {V : az_V} {post : Option Value → az_M → Prop} (C : az_C Y V cX12_put 3 RX12 (some .int) 2)  (M : az_M) (r : (Int32 × az_M)) (h : f_X12_put_39 M = some r) (hp : post (some (.int r.1)) r.2) : AW Y V (az_end Y V post) 3 M 39 [(0, .ref (az_ad V 40))] [] := by
  have o40 := C.hL.at 40 (ci := 12) rfl
  unfold f_X12_put_39 at h
  refine az_aload_n C 0 dX12_put_39 rfl ?_
  refine az_iconst (v := (-1)) C dX12_put_40 (by decide) ?_
  obtain ⟨q10, e11, h⟩ := az_b h
  refine az_cV (rest := []) (st2 := [.int q10.1]) C [.int (-1)] (c_X12_tell C.hL (-1) M e11) (by decide) li_X12_158 o40 (by decide) rfl rfl (Nat.le_of_ble_eq_true rfl) dX12_put_41 rfl ?_
  obtain rfl := Option.some.inj h
  exact az_iret C dX12_put_44 hp
set_option maxHeartbeats 4000000 in
set_option maxRecDepth 100000 in
theorem s_X12_put_33 {Y : az_Y} {V : az_V} {post : Option Value → az_M → Prop} (C : az_C Y V cX12_put 3 RX12 (some .int) 2) (x1 : Int32) (x2 : Int32) (s0 : Int64) (s1 : Int64) (s2 : Int64) (M : az_M) (r : (Int32 × az_M)) (h : f_X12_put_33 x1 x2 s0 s1 s2 M = some r) (hp : post (some (.int r.1)) r.2) : AW Y V (az_end Y V post) 3 M 33 [(0, .ref (az_ad V 40)), (1, .int x1), (2, .int x2)] [.long s0, .long s1, .long s2] := by
  have o40 := C.hL.at 40 (ci := 12) rfl
  unfold f_X12_put_33 at h
  obtain ⟨q5, e6, h⟩ := az_b h
  refine az_cS (rest := []) (st2 := [.int q5]) C [.long s2, .long s1, .long s0] (c_X12_in C.hL s2 s1 s0 M e6) (by decide) li_X12_169 rfl rfl (Nat.le_of_ble_eq_true rfl) dX12_put_33 rfl ?_
  refine az_if_ne C 45 dX12_put_36 (by decide) (fun c7 => ?_) (fun c7 => ?_)
  · have h := az_f c7 h
    refine az_aload_n C 0 dX12_put_45 rfl ?_
    refine az_iconst (v := 0) C dX12_put_46 (by decide) ?_
    refine az_puti C o40 fl_X12_155 rfl rfl rfl rfl dX12_put_47 ?_
    refine az_aload_n C 0 dX12_put_50 rfl ?_
    refine az_bipush (v := 11) C dX12_put_51 (by decide) ?_
    refine az_iload_n C 1 dX12_put_53 rfl ?_
    refine az_iadd C dX12_put_54 ?_
    refine az_iload_n C 2 dX12_put_55 rfl ?_
    obtain ⟨q8, e9, h⟩ := az_b h
    refine az_cV (rest := []) (st2 := [.int q8.1]) C [.int (11 + x1), .int x2] (c_X12_change C.hL (11 + x1) x2 (az_i M 40 8 0) e9) (by decide) li_X12_182 o40 (by decide) rfl rfl (Nat.le_of_ble_eq_true rfl) dX12_put_56 rfl ?_
    obtain rfl := Option.some.inj h
    exact az_iret C dX12_put_59 hp
  · have h := az_t c7 h
    refine az_sub [0] rfl ?_
    exact s_X12_put_39 C M r h hp
set_option maxHeartbeats 4000000 in
set_option maxRecDepth 100000 in
theorem s_X12_put_e {Y : az_Y} {V : az_V} {post : Option Value → az_M → Prop} (C : az_C Y V cX12_put 3 RX12 (some .int) 2) (p0 : Int32) (p1 : Int32) (M : az_M) (r : (Int32 × az_M)) (h : f_X12_put p0 p1 M = some r) (hp : post (some (.int r.1)) r.2) : AW Y V (az_end Y V post) 3 M 0 [(0, .ref (az_ad V 40)), (1, .int p0), (2, .int p1)] [] := by
  have o40 := C.hL.at 40 (ci := 12) rfl
  unfold f_X12_put at h
  refine az_aload_n C 0 dX12_put_0 rfl ?_
  refine az_iconst (v := 0) C dX12_put_1 (by decide) ?_
  refine az_puti C o40 fl_X12_149 rfl rfl rfl rfl dX12_put_2 ?_
  refine az_iload_n C 1 dX12_put_5 rfl ?_
  refine az_i2l C dX12_put_6 ?_
  refine az_lconst (v := 0) C dX12_put_7 (by decide) ?_
  refine az_ldc2 C ck_X12_176 dX12_put_8 ?_
  obtain ⟨q1, e2, h⟩ := az_b h
  refine az_cS (rest := []) (st2 := [.int q1]) C [.long p0.toInt64, .long 0, .long 2] (c_X12_in C.hL p0.toInt64 0 2 (az_i M 40 0 0) e2) (by decide) li_X12_169 rfl rfl (Nat.le_of_ble_eq_true rfl) dX12_put_11 rfl ?_
  refine az_if_eq C 39 dX12_put_14 (by decide) (fun c3 => ?_) (fun c3 => ?_)
  · have h := az_t c3 h
    refine az_sub [0] rfl ?_
    exact s_X12_put_39 C (az_i M 40 0 0) r h hp
  · have h := az_f c3 h
    refine az_iload_n C 2 dX12_put_17 rfl ?_
    refine az_i2l C dX12_put_18 ?_
    refine az_lconst (v := 0) C dX12_put_19 (by decide) ?_
    refine az_iload_n C 1 dX12_put_20 rfl ?_
    refine az_if_ne C 30 dX12_put_21 (by decide) (fun c4 => ?_) (fun c4 => ?_)
    · have h := az_f c4 h
      refine az_ldc2 C ck_X12_180 dX12_put_30 ?_
      exact s_X12_put_33 C p0 p1 99 0 p1.toInt64 (az_i M 40 0 0) r h hp
    · have h := az_t c4 h
      refine az_ldc2 C ck_X12_178 dX12_put_24 ?_
      refine az_goto C 33 dX12_put_27 (by decide) ?_
      exact s_X12_put_33 C p0 p1 999 0 p1.toInt64 (az_i M 40 0 0) r h hp
theorem c_X12_put {l : Launch} {V : az_V} (hL : az_L V) (p0 : Int32) (p1 : Int32) (M : az_M) {r : (Int32 × az_M)} (h : f_X12_put p0 p1 M = some r) : az_Ct l V yX12_put cX12_put 3 (some .int) 2 [.ref (az_ad V 40), .int p0, .int p1] M (fun v M' => v = some (.int r.1) ∧ M' = r.2) :=
  az_Ct.of (by decide) (Nat.le_of_ble_eq_true rfl) (fun Y _ _ C => s_X12_put_e C p0 p1 M r h ⟨rfl, rfl⟩)
set_option maxHeartbeats 4000000 in
set_option maxRecDepth 100000 in
theorem s_X12_canFire_26 {Y : az_Y} {V : az_V} {post : Option Value → az_M → Prop} (C : az_C Y V cX12_canFire 1 RX12 (some .boolean) 2) (s0 : Int32) (M : az_M) (r : Int32) (h : f_X12_canFire_26 s0 M = some r) (hp : post (some (.int r)) M) : AW Y V (az_end Y V post) 1 M 26 [] [.int s0] := by
  unfold f_X12_canFire_26 at h
  obtain ⟨g9, h⟩ := az_g2 h
  obtain rfl := Option.some.inj h
  exact az_zret C dX12_canFire_26 (az_nz g9) hp
set_option maxHeartbeats 4000000 in
set_option maxRecDepth 100000 in
theorem s_X12_canFire_25 {Y : az_Y} {V : az_V} {post : Option Value → az_M → Prop} (C : az_C Y V cX12_canFire 1 RX12 (some .boolean) 2)  (M : az_M) (r : Int32) (h : f_X12_canFire_25 M = some r) (hp : post (some (.int r)) M) : AW Y V (az_end Y V post) 1 M 25 [] [] := by
  unfold f_X12_canFire_25 at h
  refine az_iconst (v := 0) C dX12_canFire_25 (by decide) ?_
  exact s_X12_canFire_26 C 0 M r h hp
set_option maxHeartbeats 4000000 in
set_option maxRecDepth 100000 in
theorem s_X12_canFire_e {Y : az_Y} {V : az_V} {post : Option Value → az_M → Prop} (C : az_C Y V cX12_canFire 1 RX12 (some .boolean) 2)  (M : az_M) (r : Int32) (h : f_X12_canFire M = some r) (hp : post (some (.int r)) M) : AW Y V (az_end Y V post) 1 M 0 [(0, .ref (az_ad V 40))] [] := by
  have o40 := C.hL.at 40 (ci := 12) rfl
  unfold f_X12_canFire at h
  refine az_aload_n C 0 dX12_canFire_0 rfl ?_
  refine az_iconst (v := 3) C dX12_canFire_1 (by decide) ?_
  obtain ⟨q1, e2, h⟩ := az_b h
  refine az_cV (rest := []) (st2 := [.int q1]) C [.int 3] (c_X12_bulletOf C.hL 3 M e2) (by decide) li_X12_186 o40 (by decide) rfl rfl (Nat.le_of_ble_eq_true rfl) dX12_canFire_2 rfl ?_
  refine az_if_ne C 25 dX12_canFire_5 (by decide) (fun c3 => ?_) (fun c3 => ?_)
  · have h := az_f c3 h
    refine az_sub [] rfl ?_
    exact s_X12_canFire_25 C M r h hp
  · have h := az_t c3 h
    refine az_aload_n C 0 dX12_canFire_8 rfl ?_
    refine az_iconst (v := 0) C dX12_canFire_9 (by decide) ?_
    obtain ⟨q4, e5, h⟩ := az_b h
    refine az_cV (rest := []) (st2 := [.int q4]) C [.int 0] (c_X12_bulletOf C.hL 0 M e5) (by decide) li_X12_186 o40 (by decide) rfl rfl (Nat.le_of_ble_eq_true rfl) dX12_canFire_10 rfl ?_
    refine az_aload_n C 0 dX12_canFire_13 rfl ?_
    refine az_iconst (v := 2) C dX12_canFire_14 (by decide) ?_
    obtain ⟨q6, e7, h⟩ := az_b h
    refine az_cV (rest := [.int q4]) (st2 := [.int q6, .int q4]) C [.int 2] (c_X12_term C.hL 2 M e7) (by decide) li_X12_189 o40 (by decide) rfl rfl (Nat.le_of_ble_eq_true rfl) dX12_canFire_15 rfl ?_
    refine az_icmp_lt C 25 dX12_canFire_18 (by decide) (fun c8 => ?_) (fun c8 => ?_)
    · have h := az_t c8 h
      refine az_sub [] rfl ?_
      exact s_X12_canFire_25 C M r h hp
    · have h := az_f c8 h
      refine az_iconst (v := 1) C dX12_canFire_21 (by decide) ?_
      refine az_goto C 26 dX12_canFire_22 (by decide) ?_
      refine az_sub [] rfl ?_
      exact s_X12_canFire_26 C 1 M r h hp
theorem c_X12_canFire {l : Launch} {V : az_V} (hL : az_L V)  (M : az_M) {r : Int32} (h : f_X12_canFire M = some r) : az_Ct l V yX12_canFire cX12_canFire 1 (some .boolean) 2 [.ref (az_ad V 40)] M (fun v M' => v = some (.int r) ∧ M' = M) :=
  az_Ct.of (by decide) (Nat.le_of_ble_eq_true rfl) (fun Y _ _ C => s_X12_canFire_e C M r h ⟨rfl, rfl⟩)
set_option maxHeartbeats 4000000 in
set_option maxRecDepth 100000 in
theorem s_X12_bullet_79 {Y : az_Y} {V : az_V} {post : Option Value → az_M → Prop} (C : az_C Y V cX12_bullet 2 RX12 (some .int) 3) (s0 : Int32) (M : az_M) (r : (Int32 × az_M)) (h : f_X12_bullet_79 s0 M = some r) (hp : post (some (.int r.1)) r.2) : AW Y V (az_end Y V post) 2 M 79 [] [.int s0] := by
  unfold f_X12_bullet_79 at h
  obtain rfl := Option.some.inj h
  exact az_iret C dX12_bullet_79 hp
set_option maxHeartbeats 4000000 in
set_option maxRecDepth 100000 in
theorem s_X12_bullet_e {Y : az_Y} {V : az_V} {post : Option Value → az_M → Prop} (C : az_C Y V cX12_bullet 2 RX12 (some .int) 3) (p0 : Int32) (M : az_M) (r : (Int32 × az_M)) (h : f_X12_bullet p0 M = some r) (hp : post (some (.int r.1)) r.2) : AW Y V (az_end Y V post) 2 M 0 [(0, .ref (az_ad V 40)), (1, .int p0)] [] := by
  have o40 := C.hL.at 40 (ci := 12) rfl
  have a42 := C.hL.ar 42 (t := 0) (len := 5550) rfl
  unfold f_X12_bullet at h
  refine az_aload_n C 0 dX12_bullet_0 rfl ?_
  refine az_iconst (v := 0) C dX12_bullet_1 (by decide) ?_
  refine az_puti C o40 fl_X12_149 rfl rfl rfl rfl dX12_bullet_2 ?_
  refine az_iload_n C 1 dX12_bullet_5 rfl ?_
  refine az_i2l C dX12_bullet_6 ?_
  refine az_lconst (v := 0) C dX12_bullet_7 (by decide) ?_
  refine az_ldc2 C ck_X12_192 dX12_bullet_8 ?_
  obtain ⟨q1, e2, h⟩ := az_b h
  refine az_cS (rest := []) (st2 := [.int q1]) C [.long p0.toInt64, .long 0, .long 5] (c_X12_in C.hL p0.toInt64 0 5 (az_i M 40 0 0) e2) (by decide) li_X12_169 rfl rfl (Nat.le_of_ble_eq_true rfl) dX12_bullet_11 rfl ?_
  refine az_if_ne C 19 dX12_bullet_14 (by decide) (fun c3 => ?_) (fun c3 => ?_)
  · have h := az_f c3 h
    refine az_iload_n C 1 dX12_bullet_19 rfl ?_
    refine az_iconst (v := 4) C dX12_bullet_20 (by decide) ?_
    refine az_icmp_ge C 30 dX12_bullet_21 (by decide) (fun c4 => ?_) (fun c4 => ?_)
    · have h := az_t c4 h
      refine az_iload_n C 1 dX12_bullet_30 rfl ?_
      refine az_iconst (v := 4) C dX12_bullet_31 (by decide) ?_
      refine az_icmp_ne C 50 dX12_bullet_32 (by decide) (fun c5 => ?_) (fun c5 => ?_)
      · have h := az_f c5 h
        refine az_aload_n C 0 dX12_bullet_50 rfl ?_
        refine az_getr (r := 42) C o40 fl_X12_13 rfl rfl dX12_bullet_51 ?_
        refine az_iconst (v := 3) C dX12_bullet_54 (by decide) ?_
        refine az_ild (k := 3) C a42 (az_vin (by decide)) (by decide) dX12_bullet_55 ?_
        refine az_if_ne C 63 dX12_bullet_56 (by decide) (fun c6 => ?_) (fun c6 => ?_)
        · have h := az_f c6 h
          refine az_aload_n C 0 dX12_bullet_63 rfl ?_
          refine az_getr (r := 42) C o40 fl_X12_13 rfl rfl dX12_bullet_64 ?_
          refine az_bipush (v := 123) C dX12_bullet_67 (by decide) ?_
          refine az_aload_n C 0 dX12_bullet_69 rfl ?_
          refine az_getr (r := 42) C o40 fl_X12_13 rfl rfl dX12_bullet_70 ?_
          refine az_iconst (v := 3) C dX12_bullet_73 (by decide) ?_
          refine az_ild (k := 3) C a42 (az_vin (by decide)) (by decide) dX12_bullet_74 ?_
          refine az_iadd C dX12_bullet_75 ?_
          refine az_iconst (v := 1) C dX12_bullet_76 (by decide) ?_
          refine az_isub C dX12_bullet_77 ?_
          obtain ⟨g7, h⟩ := az_g h
          refine az_ild (k := ((123 + ((az_i M 40 0 0).1 42 3)) - 1).toNatClampNeg) C a42 g7 rfl dX12_bullet_78 ?_
          refine az_sub [] rfl ?_
          exact s_X12_bullet_79 C ((az_i M 40 0 0).1 42 (((123 + ((az_i M 40 0 0).1 42 3)) - 1).toNatClampNeg)) (az_i M 40 0 0) r h hp
        · have h := az_t c6 h
          refine az_iconst (v := (-1)) C dX12_bullet_59 (by decide) ?_
          refine az_goto C 79 dX12_bullet_60 (by decide) ?_
          refine az_sub [] rfl ?_
          exact s_X12_bullet_79 C (-1) (az_i M 40 0 0) r h hp
      · have h := az_t c5 h
        refine az_aload_n C 0 dX12_bullet_35 rfl ?_
        obtain ⟨q8, e9, h⟩ := az_b h
        refine az_cV (rest := []) (st2 := [.int q8]) C [] (c_X12_canFire C.hL (az_i M 40 0 0) e9) (by decide) li_X12_194 o40 (by decide) rfl rfl (Nat.le_of_ble_eq_true rfl) dX12_bullet_36 rfl ?_
        refine az_if_eq C 46 dX12_bullet_39 (by decide) (fun c10 => ?_) (fun c10 => ?_)
        · have h := az_t c10 h
          refine az_iconst (v := 0) C dX12_bullet_46 (by decide) ?_
          refine az_goto C 79 dX12_bullet_47 (by decide) ?_
          refine az_sub [] rfl ?_
          exact s_X12_bullet_79 C 0 (az_i M 40 0 0) r h hp
        · have h := az_f c10 h
          refine az_iconst (v := 1) C dX12_bullet_42 (by decide) ?_
          refine az_goto C 79 dX12_bullet_43 (by decide) ?_
          refine az_sub [] rfl ?_
          exact s_X12_bullet_79 C 1 (az_i M 40 0 0) r h hp
    · have h := az_f c4 h
      refine az_aload_n C 0 dX12_bullet_24 rfl ?_
      refine az_iload_n C 1 dX12_bullet_25 rfl ?_
      obtain ⟨q11, e12, h⟩ := az_b h
      refine az_cV (rest := []) (st2 := [.int q11]) C [.int p0] (c_X12_bulletOf C.hL p0 (az_i M 40 0 0) e12) (by decide) li_X12_186 o40 (by decide) rfl rfl (Nat.le_of_ble_eq_true rfl) dX12_bullet_26 rfl ?_
      obtain rfl := Option.some.inj h
      exact az_iret C dX12_bullet_29 hp
  · have h := az_t c3 h
    refine az_iconst (v := (-1)) C dX12_bullet_17 (by decide) ?_
    obtain rfl := Option.some.inj h
    exact az_iret C dX12_bullet_18 hp
theorem c_X12_bullet {l : Launch} {V : az_V} (hL : az_L V) (p0 : Int32) (M : az_M) {r : (Int32 × az_M)} (h : f_X12_bullet p0 M = some r) : az_Ct l V yX12_bullet cX12_bullet 2 (some .int) 3 [.ref (az_ad V 40), .int p0] M (fun v M' => v = some (.int r.1) ∧ M' = r.2) :=
  az_Ct.of (by decide) (Nat.le_of_ble_eq_true rfl) (fun Y _ _ C => s_X12_bullet_e C p0 M r h ⟨rfl, rfl⟩)
set_option maxHeartbeats 4000000 in
set_option maxRecDepth 100000 in
theorem s_X12_place1_36 {Y : az_Y} {V : az_V} {post : Option Value → az_M → Prop} (C : az_C Y V cX12_place1 6 RX12 (some .int) 2)  (M : az_M) (r : (Int32 × az_M)) (h : f_X12_place1_36 M = some r) (hp : post (some (.int r.1)) r.2) : AW Y V (az_end Y V post) 6 M 36 [] [] := by
  unfold f_X12_place1_36 at h
  refine az_iconst (v := (-1)) C dX12_place1_36 (by decide) ?_
  obtain rfl := Option.some.inj h
  exact az_iret C dX12_place1_37 hp
set_option maxHeartbeats 4000000 in
set_option maxRecDepth 100000 in
theorem s_X12_place1_e {Y : az_Y} {V : az_V} {post : Option Value → az_M → Prop} (C : az_C Y V cX12_place1 6 RX12 (some .int) 2) (p0 : Int32) (p1 : Int32) (p2 : Int32) (M : az_M) (r : (Int32 × az_M)) (h : f_X12_place1 p0 p1 p2 M = some r) (hp : post (some (.int r.1)) r.2) : AW Y V (az_end Y V post) 6 M 0 [(0, .ref (az_ad V 40)), (1, .int p0), (2, .int p1), (3, .int p2)] [] := by
  have o40 := C.hL.at 40 (ci := 12) rfl
  have a42 := C.hL.ar 42 (t := 0) (len := 5550) rfl
  unfold f_X12_place1 at h
  refine az_iload_n C 1 dX12_place1_0 rfl ?_
  refine az_i2l C dX12_place1_1 ?_
  refine az_lconst (v := 0) C dX12_place1_2 (by decide) ?_
  refine az_ldc2 C ck_X12_198 dX12_place1_3 ?_
  obtain ⟨q1, e2, h⟩ := az_b h
  refine az_cS (rest := []) (st2 := [.int q1]) C [.long p0.toInt64, .long 0, .long 3] (c_X12_in C.hL p0.toInt64 0 3 M e2) (by decide) li_X12_169 rfl rfl (Nat.le_of_ble_eq_true rfl) dX12_place1_6 rfl ?_
  refine az_if_eq C 36 dX12_place1_9 (by decide) (fun c3 => ?_) (fun c3 => ?_)
  · have h := az_t c3 h
    refine az_sub [] rfl ?_
    exact s_X12_place1_36 C M r h hp
  · have h := az_f c3 h
    refine az_iload_n C 2 dX12_place1_12 rfl ?_
    refine az_i2l C dX12_place1_13 ?_
    refine az_lconst (v := 0) C dX12_place1_14 (by decide) ?_
    refine az_ldc2 C ck_X12_180 dX12_place1_15 ?_
    obtain ⟨q4, e5, h⟩ := az_b h
    refine az_cS (rest := []) (st2 := [.int q4]) C [.long p1.toInt64, .long 0, .long 99] (c_X12_in C.hL p1.toInt64 0 99 M e5) (by decide) li_X12_169 rfl rfl (Nat.le_of_ble_eq_true rfl) dX12_place1_18 rfl ?_
    refine az_if_eq C 36 dX12_place1_21 (by decide) (fun c6 => ?_) (fun c6 => ?_)
    · have h := az_t c6 h
      refine az_sub [] rfl ?_
      exact s_X12_place1_36 C M r h hp
    · have h := az_f c6 h
      refine az_iload_n C 3 dX12_place1_24 rfl ?_
      refine az_i2l C dX12_place1_25 ?_
      refine az_lconst (v := 0) C dX12_place1_26 (by decide) ?_
      refine az_ldc2 C ck_X12_200 dX12_place1_27 ?_
      obtain ⟨q7, e8, h⟩ := az_b h
      refine az_cS (rest := []) (st2 := [.int q7]) C [.long p2.toInt64, .long 0, .long 20] (c_X12_in C.hL p2.toInt64 0 20 M e8) (by decide) li_X12_169 rfl rfl (Nat.le_of_ble_eq_true rfl) dX12_place1_30 rfl ?_
      refine az_if_ne C 38 dX12_place1_33 (by decide) (fun c9 => ?_) (fun c9 => ?_)
      · have h := az_f c9 h
        refine az_aload_n C 0 dX12_place1_38 rfl ?_
        refine az_getr (r := 42) C o40 fl_X12_13 rfl rfl dX12_place1_39 ?_
        refine az_iconst (v := 0) C dX12_place1_42 (by decide) ?_
        refine az_ild (k := 0) C a42 (az_vin (by decide)) (by decide) dX12_place1_43 ?_
        refine az_istore C dX12_place1_44 (by decide) rfl ?_
        refine az_iload C 0 dX12_place1_46 rfl ?_
        refine az_bipush (v := 12) C dX12_place1_48 (by decide) ?_
        refine az_icmp_ne C 56 dX12_place1_50 (by decide) (fun c10 => ?_) (fun c10 => ?_)
        · have h := az_f c10 h
          refine az_bipush (v := 17) C dX12_place1_56 (by decide) ?_
          refine az_iconst (v := 4) C dX12_place1_58 (by decide) ?_
          refine az_iload C 0 dX12_place1_59 rfl ?_
          refine az_imul C dX12_place1_61 ?_
          refine az_iadd C dX12_place1_62 ?_
          refine az_istore C dX12_place1_63 (by decide) rfl ?_
          refine az_aload_n C 2 dX12_place1_65 rfl ?_
          refine az_getr (r := 42) C o40 fl_X12_13 rfl rfl dX12_place1_66 ?_
          refine az_iload C 0 dX12_place1_69 rfl ?_
          refine az_iload_n C 3 dX12_place1_71 rfl ?_
          obtain ⟨g11, h⟩ := az_g h
          refine az_ist (k := (17 + (4 * (M.1 42 0))).toNatClampNeg) C a42 g11 rfl dX12_place1_72 ?_
          refine az_aload_n C 2 dX12_place1_73 rfl ?_
          refine az_getr (r := 42) C o40 fl_X12_13 rfl rfl dX12_place1_74 ?_
          refine az_iload C 0 dX12_place1_77 rfl ?_
          refine az_iconst (v := 1) C dX12_place1_79 (by decide) ?_
          refine az_iadd C dX12_place1_80 ?_
          refine az_iload_n C 4 dX12_place1_81 rfl ?_
          obtain ⟨g12, h⟩ := az_g h
          refine az_ist (k := ((17 + (4 * (M.1 42 0))) + 1).toNatClampNeg) C a42 g12 rfl dX12_place1_82 ?_
          refine az_aload_n C 2 dX12_place1_83 rfl ?_
          refine az_getr (r := 42) C o40 fl_X12_13 rfl rfl dX12_place1_84 ?_
          refine az_iload C 0 dX12_place1_87 rfl ?_
          refine az_iconst (v := 2) C dX12_place1_89 (by decide) ?_
          refine az_iadd C dX12_place1_90 ?_
          refine az_iload_n C 5 dX12_place1_91 rfl ?_
          obtain ⟨g13, h⟩ := az_g h
          refine az_ist (k := ((17 + (4 * (M.1 42 0))) + 2).toNatClampNeg) C a42 g13 rfl dX12_place1_92 ?_
          refine az_aload_n C 2 dX12_place1_93 rfl ?_
          refine az_getr (r := 42) C o40 fl_X12_13 rfl rfl dX12_place1_94 ?_
          refine az_iload C 0 dX12_place1_97 rfl ?_
          refine az_iconst (v := 3) C dX12_place1_99 (by decide) ?_
          refine az_iadd C dX12_place1_100 ?_
          refine az_iconst (v := 0) C dX12_place1_101 (by decide) ?_
          obtain ⟨g14, h⟩ := az_g h
          refine az_ist (k := ((17 + (4 * (M.1 42 0))) + 3).toNatClampNeg) C a42 g14 rfl dX12_place1_102 ?_
          refine az_aload_n C 2 dX12_place1_103 rfl ?_
          refine az_getr (r := 42) C o40 fl_X12_13 rfl rfl dX12_place1_104 ?_
          refine az_iconst (v := 0) C dX12_place1_107 (by decide) ?_
          refine az_dup2 C dX12_place1_108 rfl rfl ?_
          refine az_ild (k := 0) C a42 (az_vin (by decide)) (by decide) dX12_place1_109 ?_
          refine az_iconst (v := 1) C dX12_place1_110 (by decide) ?_
          refine az_iadd C dX12_place1_111 ?_
          refine az_ist (k := 0) C a42 (az_vin (by decide)) (by decide) dX12_place1_112 ?_
          refine az_iload C 1 dX12_place1_113 rfl ?_
          obtain rfl := Option.some.inj h
          exact az_iret C dX12_place1_115 hp
        · have h := az_t c10 h
          refine az_bipush (v := (-5)) C dX12_place1_53 (by decide) ?_
          obtain rfl := Option.some.inj h
          exact az_iret C dX12_place1_55 hp
      · have h := az_t c9 h
        refine az_sub [] rfl ?_
        exact s_X12_place1_36 C M r h hp
theorem c_X12_place1 {l : Launch} {V : az_V} (hL : az_L V) (p0 : Int32) (p1 : Int32) (p2 : Int32) (M : az_M) {r : (Int32 × az_M)} (h : f_X12_place1 p0 p1 p2 M = some r) : az_Ct l V yX12_place1 cX12_place1 6 (some .int) 2 [.ref (az_ad V 40), .int p0, .int p1, .int p2] M (fun v M' => v = some (.int r.1) ∧ M' = r.2) :=
  az_Ct.of (by decide) (Nat.le_of_ble_eq_true rfl) (fun Y _ _ C => s_X12_place1_e C p0 p1 p2 M r h ⟨rfl, rfl⟩)
set_option maxHeartbeats 4000000 in
set_option maxRecDepth 100000 in
theorem s_X12_place_e {Y : az_Y} {V : az_V} {post : Option Value → az_M → Prop} (C : az_C Y V cX12_place 4 RX12 (some .int) 3) (p0 : Int32) (p1 : Int32) (p2 : Int32) (M : az_M) (r : (Int32 × az_M)) (h : f_X12_place p0 p1 p2 M = some r) (hp : post (some (.int r.1)) r.2) : AW Y V (az_end Y V post) 4 M 0 [(0, .ref (az_ad V 40)), (1, .int p0), (2, .int p1), (3, .int p2)] [] := by
  have o40 := C.hL.at 40 (ci := 12) rfl
  unfold f_X12_place at h
  refine az_aload_n C 0 dX12_place_0 rfl ?_
  refine az_iconst (v := 0) C dX12_place_1 (by decide) ?_
  refine az_puti C o40 fl_X12_149 rfl rfl rfl rfl dX12_place_2 ?_
  refine az_aload_n C 0 dX12_place_5 rfl ?_
  refine az_aload_n C 0 dX12_place_6 rfl ?_
  refine az_iload_n C 1 dX12_place_7 rfl ?_
  refine az_iload_n C 2 dX12_place_8 rfl ?_
  refine az_iload_n C 3 dX12_place_9 rfl ?_
  obtain ⟨q1, e2, h⟩ := az_b h
  refine az_cV (rest := [.ref (az_ad V 40)]) (st2 := [.int q1.1, .ref (az_ad V 40)]) C [.int p0, .int p1, .int p2] (c_X12_place1 C.hL p0 p1 p2 (az_i M 40 0 0) e2) (by decide) li_X12_202 o40 (by decide) rfl rfl (Nat.le_of_ble_eq_true rfl) dX12_place_10 rfl ?_
  obtain ⟨q3, e4, h⟩ := az_b h
  refine az_cV (rest := []) (st2 := [.int q3.1]) C [.int q1.1] (c_X12_settled C.hL q1.1 q1.2 e4) (by decide) li_X12_173 o40 (by decide) rfl rfl (Nat.le_of_ble_eq_true rfl) dX12_place_13 rfl ?_
  obtain rfl := Option.some.inj h
  exact az_iret C dX12_place_16 hp
theorem c_X12_place {l : Launch} {V : az_V} (hL : az_L V) (p0 : Int32) (p1 : Int32) (p2 : Int32) (M : az_M) {r : (Int32 × az_M)} (h : f_X12_place p0 p1 p2 M = some r) : az_Ct l V yX12_place cX12_place 4 (some .int) 3 [.ref (az_ad V 40), .int p0, .int p1, .int p2] M (fun v M' => v = some (.int r.1) ∧ M' = r.2) :=
  az_Ct.of (by decide) (Nat.le_of_ble_eq_true rfl) (fun Y _ _ C => s_X12_place_e C p0 p1 p2 M r h ⟨rfl, rfl⟩)
