set_option maxHeartbeats 4000000 in
set_option maxRecDepth 100000 in
theorem s_X5_readTest_72 {Y : az_Y} {V : az_V} {post : Option Value → az_M → Prop} {dR : Nat} (C : az_C Y V cX5_readTest 3 RX5 (some .boolean) (dR + 4)) (hdR : 50 ≤ dR) (G : Nat) (R_X5_readTest : az_M → Option (Int32 × az_M)) (hR_X5_readTest : ∀ (M : az_M) (r : (Int32 × az_M)), R_X5_readTest M = some r → az_Ct Y.2.1 V yX5_readTest cX5_readTest 3 (some .boolean) dR [.ref (az_ad V 15)] M (fun v M' => v = some (.int r.1) ∧ M' = r.2))  (M : az_M) (r : (Int32 × az_M)) (h : f_X5_readTest_72 (az_z V) G R_X5_readTest M = some r) (hp : post (some (.int r.1)) r.2) : AW Y V (az_end Y V post) 3 M 72 [] [] := by
  unfold f_X5_readTest_72 at h
  refine az_iconst (v := 1) C dX5_readTest_72 (by decide) ?_
  obtain rfl := Option.some.inj h
  exact az_zret C dX5_readTest_73 rfl hp
set_option maxHeartbeats 4000000 in
set_option maxRecDepth 100000 in
theorem s_X5_readTest_11 {Y : az_Y} {V : az_V} {post : Option Value → az_M → Prop} {dR : Nat} (C : az_C Y V cX5_readTest 3 RX5 (some .boolean) (dR + 4)) (hdR : 50 ≤ dR) (G : Nat) (R_X5_readTest : az_M → Option (Int32 × az_M)) (hR_X5_readTest : ∀ (M : az_M) (r : (Int32 × az_M)), R_X5_readTest M = some r → az_Ct Y.2.1 V yX5_readTest cX5_readTest 3 (some .boolean) dR [.ref (az_ad V 15)] M (fun v M' => v = some (.int r.1) ∧ M' = r.2)) : ∀ (F : Nat) (x1 : Int32) (M : az_M) (r : (Int32 × az_M)), f_X5_readTest_11 (az_z V) G R_X5_readTest F x1 M = some r → post (some (.int r.1)) r.2 → AW Y V (az_end Y V post) 3 M 11 [(0, .ref (az_ad V 15)), (1, .int x1)] [] := by
  have o15 := C.hL.at 15 (ci := 5) rfl
  have o16 := C.hL.at 16 (ci := 10) rfl
  intro F
  induction F with
  | zero =>
    intro x1 M r h
    exact absurd (show (none : Option (Int32 × az_M)) = some r from h) (fun q => by cases q)
  | succ F ih =>
    intro x1 M r h hp
    rw [f_X5_readTest_11] at h
    refine az_iload_n C 1 dX5_readTest_11 rfl ?_
    refine az_sipush (v := 400) C dX5_readTest_12 (by decide) ?_
    refine az_icmp_ge C 72 dX5_readTest_15 (by decide) (fun c4 => ?_) (fun c4 => ?_)
    · have h := az_t c4 h
      refine az_sub [] rfl ?_
      exact s_X5_readTest_72 C hdR G R_X5_readTest hR_X5_readTest M r h hp
    · have h := az_f c4 h
      refine az_aload_n C 0 dX5_readTest_18 rfl ?_
      refine az_lds (i := 6) C (by decide) rfl dX5_readTest_19 ?_
      obtain ⟨q5, e6, h⟩ := az_b h
      refine az_cV (rest := []) (st2 := [.int q5]) C [.ref (V.2.2.2.2.2 (10 + 6))] (c_X5_wordAmong C.hL G 6 (by decide) M e6) (by omega) li_X5_64 o15 (by decide) rfl rfl (Nat.le_of_ble_eq_true rfl) dX5_readTest_21 rfl ?_
      refine az_iconst (v := (-1)) C dX5_readTest_24 (by decide) ?_
      refine az_icmp_eq C 72 dX5_readTest_25 (by decide) (fun c7 => ?_) (fun c7 => ?_)
      · have h := az_t c7 h
        refine az_sub [] rfl ?_
        exact s_X5_readTest_72 C hdR G R_X5_readTest hR_X5_readTest M r h hp
      · have h := az_f c7 h
        refine az_aload_n C 0 dX5_readTest_28 rfl ?_
        refine az_getr (r := 16) C o15 fl_X5_12 rfl rfl dX5_readTest_29 ?_
        refine az_geti C o16 fl_X5_26 rfl dX5_readTest_32 ?_
        refine az_istore_n C dX5_readTest_35 rfl (by decide) rfl ?_
        refine az_aload_n C 1 dX5_readTest_36 rfl ?_
        refine az_getr (r := 16) C o15 fl_X5_12 rfl rfl dX5_readTest_37 ?_
        refine az_bipush (v := 11) C dX5_readTest_40 (by decide) ?_
        refine az_iconst (v := 0) C dX5_readTest_42 (by decide) ?_
        obtain ⟨q8, e9, h⟩ := az_b h
        refine az_cV (rest := []) (st2 := []) C [.int 11, .int 0] (c_X10_addStep C.hL 16 (C.hL.tx 16 rfl) 11 0 M e9) (by omega) li_X5_103 o16 (by decide) rfl rfl (Nat.le_of_ble_eq_true rfl) dX5_readTest_43 rfl ?_
        refine az_aload_n C 1 dX5_readTest_46 rfl ?_
        obtain ⟨q10, e11, h⟩ := az_b h
        refine az_cV (rest := []) (st2 := []) C [] (c_X5_nextToken C.hL G q8 e11) (by omega) li_X5_42 o15 (by decide) rfl rfl (Nat.le_of_ble_eq_true rfl) dX5_readTest_47 rfl ?_
        refine az_aload_n C 1 dX5_readTest_50 rfl ?_
        obtain ⟨q12, e13, h⟩ := az_b h
        refine az_cV (rest := []) (st2 := [.int q12.1]) C [] (c_X5_readBoth C.hL hdR G R_X5_readTest hR_X5_readTest q10 e13) (by omega) li_X5_98 o15 (by decide) rfl rfl (Nat.le_of_ble_eq_true rfl) dX5_readTest_51 rfl ?_
        refine az_if_ne C 59 dX5_readTest_54 (by decide) (fun c14 => ?_) (fun c14 => ?_)
        · have h := az_f c14 h
          refine az_aload_n C 1 dX5_readTest_59 rfl ?_
          refine az_iload_n C 0 dX5_readTest_60 rfl ?_
          refine az_bipush (v := 11) C dX5_readTest_61 (by decide) ?_
          obtain ⟨q15, e16, h⟩ := az_b h
          refine az_cV (rest := []) (st2 := []) C [.int (M.1 16 2), .int 11] (c_X5_aimJump C.hL (M.1 16 2) 11 q12.2 e16) (by omega) li_X5_107 o15 (by decide) rfl rfl (Nat.le_of_ble_eq_true rfl) dX5_readTest_63 rfl ?_
          refine az_iinc (v := (x1 + 1)) C 2 dX5_readTest_66 rfl rfl (by decide) rfl ?_
          refine az_goto C 11 dX5_readTest_69 (by decide) ?_
          refine az_sub [2, 0] rfl ?_
          exact ih (x1 + 1) q15 r h hp
        · have h := az_t c14 h
          refine az_iconst (v := 0) C dX5_readTest_57 (by decide) ?_
          obtain rfl := Option.some.inj h
          exact az_zret C dX5_readTest_58 rfl hp
set_option maxHeartbeats 4000000 in
set_option maxRecDepth 100000 in
theorem s_X5_readTest_e {Y : az_Y} {V : az_V} {post : Option Value → az_M → Prop} {dR : Nat} (C : az_C Y V cX5_readTest 3 RX5 (some .boolean) (dR + 4)) (hdR : 50 ≤ dR) (G : Nat) (R_X5_readTest : az_M → Option (Int32 × az_M)) (hR_X5_readTest : ∀ (M : az_M) (r : (Int32 × az_M)), R_X5_readTest M = some r → az_Ct Y.2.1 V yX5_readTest cX5_readTest 3 (some .boolean) dR [.ref (az_ad V 15)] M (fun v M' => v = some (.int r.1) ∧ M' = r.2))  (M : az_M) (r : (Int32 × az_M)) (h : f_X5_readTest_b (az_z V) G R_X5_readTest M = some r) (hp : post (some (.int r.1)) r.2) : AW Y V (az_end Y V post) 3 M 0 [(0, .ref (az_ad V 15))] [] := by
  have o15 := C.hL.at 15 (ci := 5) rfl
  unfold f_X5_readTest_b at h
  refine az_aload_n C 0 dX5_readTest_0 rfl ?_
  obtain ⟨q1, e2, h⟩ := az_b h
  refine az_cV (rest := []) (st2 := [.int q1.1]) C [] (c_X5_readBoth C.hL hdR G R_X5_readTest hR_X5_readTest M e2) (by omega) li_X5_98 o15 (by decide) rfl rfl (Nat.le_of_ble_eq_true rfl) dX5_readTest_1 rfl ?_
  refine az_if_ne C 9 dX5_readTest_4 (by decide) (fun c3 => ?_) (fun c3 => ?_)
  · have h := az_f c3 h
    refine az_iconst (v := 0) C dX5_readTest_9 (by decide) ?_
    refine az_istore_n C dX5_readTest_10 rfl (by decide) rfl ?_
    refine az_sub [1, 0] rfl ?_
    exact s_X5_readTest_11 C hdR G R_X5_readTest hR_X5_readTest G 0 q1.2 r h hp
  · have h := az_t c3 h
    refine az_iconst (v := 0) C dX5_readTest_7 (by decide) ?_
    obtain rfl := Option.some.inj h
    exact az_zret C dX5_readTest_8 rfl hp
theorem c_X5_readTest_b {l : Launch} {V : az_V} {dR : Nat} (hL : az_L V) (hdR : 50 ≤ dR) (G : Nat) (R_X5_readTest : az_M → Option (Int32 × az_M)) (hR_X5_readTest : ∀ (M : az_M) (r : (Int32 × az_M)), R_X5_readTest M = some r → az_Ct l V yX5_readTest cX5_readTest 3 (some .boolean) dR [.ref (az_ad V 15)] M (fun v M' => v = some (.int r.1) ∧ M' = r.2))  (M : az_M) {r : (Int32 × az_M)} (h : f_X5_readTest_b (az_z V) G R_X5_readTest M = some r) : az_Ct l V yX5_readTest cX5_readTest 3 (some .boolean) (dR + 4) [.ref (az_ad V 15)] M (fun v M' => v = some (.int r.1) ∧ M' = r.2) :=
  az_Ct.of (by decide) (Nat.le_of_ble_eq_true rfl) (fun Y hl _ C => s_X5_readTest_e C hdR G R_X5_readTest (by rw [hl]; exact hR_X5_readTest) M r h ⟨rfl, rfl⟩)
theorem c_X5_readTest {l : Launch} {V : az_V} (hL : az_L V) (G : Nat) : ∀ (D : Nat)  (M : az_M) {r : (Int32 × az_M)}, f_X5_readTest (az_z V) G D M = some r → az_Ct l V yX5_readTest cX5_readTest 3 (some .boolean) (50 + 4 * D) [.ref (az_ad V 15)] M (fun v M' => v = some (.int r.1) ∧ M' = r.2) := by
  intro D
  induction D with
  | zero =>
    intro M r h
    exact absurd (show (none : Option (Int32 × az_M)) = some r from h) (fun q => by cases q)
  | succ D ih =>
    intro M r h
    have h : f_X5_readTest_b (az_z V) G (f_X5_readTest (az_z V) G D) M = some r := h
    exact c_X5_readTest_b (dR := 50 + 4 * D) hL (Nat.le_add_right _ _) G (f_X5_readTest (az_z V) G D) (fun M r h => ih M h) M h
set_option maxHeartbeats 4000000 in
set_option maxRecDepth 100000 in
theorem s_X5_readIf_37 {Y : az_Y} {V : az_V} {post : Option Value → az_M → Prop} (C : az_C Y V cX5_readIf 3 RX5 (some .boolean) 91) (G : Nat) (x1 : Int32) (x2 : Int32) (M : az_M) (r : (Int32 × az_M)) (h : f_X5_readIf_37 (az_z V) G x1 x2 M = some r) (hp : post (some (.int r.1)) r.2) : AW Y V (az_end Y V post) 3 M 37 [(0, .ref (az_ad V 15)), (1, .int x1), (2, .int x2)] [] := by
  have o15 := C.hL.at 15 (ci := 5) rfl
  have o16 := C.hL.at 16 (ci := 10) rfl
  unfold f_X5_readIf_37 at h
  refine az_aload_n C 0 dX5_readIf_37 rfl ?_
  refine az_getr (r := 16) C o15 fl_X5_12 rfl rfl dX5_readIf_38 ?_
  refine az_iload_n C 1 dX5_readIf_41 rfl ?_
  refine az_iconst (v := 5) C dX5_readIf_42 (by decide) ?_
  refine az_aload_n C 0 dX5_readIf_43 rfl ?_
  refine az_getr (r := 16) C o15 fl_X5_12 rfl rfl dX5_readIf_44 ?_
  refine az_geti C o16 fl_X5_26 rfl dX5_readIf_47 ?_
  obtain ⟨q10, e11, h⟩ := az_b h
  refine az_cV (rest := []) (st2 := []) C [.int x1, .int 5, .int (M.1 16 2)] (c_X10_set C.hL 16 (C.hL.tx 16 rfl) x1 5 (M.1 16 2) M e11) (by decide) li_X5_68 o16 (by decide) rfl rfl (Nat.le_of_ble_eq_true rfl) dX5_readIf_50 rfl ?_
  refine az_iload_n C 2 dX5_readIf_53 rfl ?_
  obtain ⟨g12, h⟩ := az_g2 h
  obtain rfl := Option.some.inj h
  exact az_zret C dX5_readIf_54 (az_nz g12) hp
set_option maxHeartbeats 4000000 in
set_option maxRecDepth 100000 in
theorem s_X5_readIf_e {Y : az_Y} {V : az_V} {post : Option Value → az_M → Prop} (C : az_C Y V cX5_readIf 3 RX5 (some .boolean) 91) (G : Nat) (p0 : Int32) (M : az_M) (r : (Int32 × az_M)) (h : f_X5_readIf (az_z V) G p0 M = some r) (hp : post (some (.int r.1)) r.2) : AW Y V (az_end Y V post) 3 M 0 [(0, .ref (az_ad V 15)), (1, .int p0)] [] := by
  have o15 := C.hL.at 15 (ci := 5) rfl
  have o16 := C.hL.at 16 (ci := 10) rfl
  unfold f_X5_readIf at h
  refine az_aload_n C 0 dX5_readIf_0 rfl ?_
  refine az_getr (r := 16) C o15 fl_X5_12 rfl rfl dX5_readIf_1 ?_
  refine az_iload_n C 1 dX5_readIf_4 rfl ?_
  refine az_iconst (v := 4) C dX5_readIf_5 (by decide) ?_
  refine az_aload_n C 0 dX5_readIf_6 rfl ?_
  refine az_getr (r := 16) C o15 fl_X5_12 rfl rfl dX5_readIf_7 ?_
  refine az_geti C o16 fl_X5_26 rfl dX5_readIf_10 ?_
  obtain ⟨q1, e2, h⟩ := az_b h
  refine az_cV (rest := []) (st2 := []) C [.int p0, .int 4, .int (M.1 16 2)] (c_X10_set C.hL 16 (C.hL.tx 16 rfl) p0 4 (M.1 16 2) M e2) (by decide) li_X5_68 o16 (by decide) rfl rfl (Nat.le_of_ble_eq_true rfl) dX5_readIf_13 rfl ?_
  refine az_iconst (v := 1) C dX5_readIf_16 (by decide) ?_
  refine az_istore_n C dX5_readIf_17 rfl (by decide) rfl ?_
  refine az_aload_n C 1 dX5_readIf_18 rfl ?_
  refine az_lds (i := 5) C (by decide) rfl dX5_readIf_19 ?_
  obtain ⟨q3, e4, h⟩ := az_b h
  refine az_cV (rest := []) (st2 := [.int q3]) C [.ref (V.2.2.2.2.2 (10 + 5))] (c_X5_wordAmong C.hL G 5 (by decide) q1 e4) (by decide) li_X5_64 o15 (by decide) rfl rfl (Nat.le_of_ble_eq_true rfl) dX5_readIf_21 rfl ?_
  refine az_iconst (v := (-1)) C dX5_readIf_24 (by decide) ?_
  refine az_icmp_eq C 37 dX5_readIf_25 (by decide) (fun c5 => ?_) (fun c5 => ?_)
  · have h := az_t c5 h
    refine az_sub [1, 2, 0] rfl ?_
    exact s_X5_readIf_37 C G p0 1 q1 r h hp
  · have h := az_f c5 h
    refine az_aload_n C 1 dX5_readIf_28 rfl ?_
    obtain ⟨q6, e7, h⟩ := az_b h
    refine az_cV (rest := []) (st2 := []) C [] (c_X5_nextToken C.hL G q1 e7) (by decide) li_X5_42 o15 (by decide) rfl rfl (Nat.le_of_ble_eq_true rfl) dX5_readIf_29 rfl ?_
    refine az_aload_n C 1 dX5_readIf_32 rfl ?_
    obtain ⟨q8, e9, h⟩ := az_b h
    refine az_cV (rest := []) (st2 := [.int q8.1]) C [] (c_X5_readTest C.hL G 10 q6 e9) (by decide) li_X5_95 o15 (by decide) rfl rfl (Nat.le_of_ble_eq_true rfl) dX5_readIf_33 rfl ?_
    refine az_istore_n C dX5_readIf_36 rfl (by decide) rfl ?_
    refine az_sub [1, 2, 0] rfl ?_
    exact s_X5_readIf_37 C G p0 q8.1 q8.2 r h hp
theorem c_X5_readIf {l : Launch} {V : az_V} (hL : az_L V) (G : Nat) (p0 : Int32) (M : az_M) {r : (Int32 × az_M)} (h : f_X5_readIf (az_z V) G p0 M = some r) : az_Ct l V yX5_readIf cX5_readIf 3 (some .boolean) 91 [.ref (az_ad V 15), .int p0] M (fun v M' => v = some (.int r.1) ∧ M' = r.2) :=
  az_Ct.of (by decide) (Nat.le_of_ble_eq_true rfl) (fun Y _ _ C => s_X5_readIf_e C G p0 M r h ⟨rfl, rfl⟩)
set_option maxHeartbeats 4000000 in
set_option maxRecDepth 100000 in
theorem s_X5_readLawClause_68 {Y : az_Y} {V : az_V} {post : Option Value → az_M → Prop} (C : az_C Y V cX5_readLawClause 3 RX5 (some .boolean) 92) (G : Nat) (x1 : Int32) (M : az_M) (r : (Int32 × az_M)) (h : f_X5_readLawClause_68 (az_z V) G x1 M = some r) (hp : post (some (.int r.1)) r.2) : AW Y V (az_end Y V post) 3 M 68 [(0, .ref (az_ad V 15)), (1, .int x1)] [] := by
  have o15 := C.hL.at 15 (ci := 5) rfl
  have o16 := C.hL.at 16 (ci := 10) rfl
  unfold f_X5_readLawClause_68 at h
  refine az_aload_n C 0 dX5_readLawClause_68 rfl ?_
  refine az_getr (r := 16) C o15 fl_X5_12 rfl rfl dX5_readLawClause_69 ?_
  refine az_iload_n C 1 dX5_readLawClause_72 rfl ?_
  refine az_iconst (v := 3) C dX5_readLawClause_73 (by decide) ?_
  refine az_aload_n C 0 dX5_readLawClause_74 rfl ?_
  refine az_getr (r := 16) C o15 fl_X5_12 rfl rfl dX5_readLawClause_75 ?_
  refine az_geti C o16 fl_X5_26 rfl dX5_readLawClause_78 ?_
  obtain ⟨q16, e17, h⟩ := az_b h
  refine az_cV (rest := []) (st2 := []) C [.int x1, .int 3, .int (M.1 16 2)] (c_X10_set C.hL 16 (C.hL.tx 16 rfl) x1 3 (M.1 16 2) M e17) (by decide) li_X5_68 o16 (by decide) rfl rfl (Nat.le_of_ble_eq_true rfl) dX5_readLawClause_81 rfl ?_
  refine az_aload_n C 0 dX5_readLawClause_84 rfl ?_
  refine az_iload_n C 1 dX5_readLawClause_85 rfl ?_
  obtain ⟨q18, e19, h⟩ := az_b h
  refine az_cV (rest := []) (st2 := [.int q18.1]) C [.int x1] (c_X5_readIf C.hL G x1 q16 e19) (by decide) li_X5_76 o15 (by decide) rfl rfl (Nat.le_of_ble_eq_true rfl) dX5_readLawClause_86 rfl ?_
  obtain ⟨g20, h⟩ := az_g2 h
  obtain rfl := Option.some.inj h
  exact az_zret C dX5_readLawClause_89 (az_nz g20) hp
set_option maxHeartbeats 4000000 in
set_option maxRecDepth 100000 in
theorem s_X5_readLawClause_e {Y : az_Y} {V : az_V} {post : Option Value → az_M → Prop} (C : az_C Y V cX5_readLawClause 3 RX5 (some .boolean) 92) (G : Nat) (p0 : Int32) (M : az_M) (r : (Int32 × az_M)) (h : f_X5_readLawClause (az_z V) G p0 M = some r) (hp : post (some (.int r.1)) r.2) : AW Y V (az_end Y V post) 3 M 0 [(0, .ref (az_ad V 15)), (1, .int p0)] [] := by
  have o15 := C.hL.at 15 (ci := 5) rfl
  have o16 := C.hL.at 16 (ci := 10) rfl
  unfold f_X5_readLawClause at h
  refine az_aload_n C 0 dX5_readLawClause_0 rfl ?_
  refine az_lds (i := 0) C (by decide) rfl dX5_readLawClause_1 ?_
  obtain ⟨q1, e2, h⟩ := az_b h
  refine az_cV (rest := []) (st2 := [.int q1]) C [.ref (V.2.2.2.2.2 (10 + 0))] (c_X5_wordAmong C.hL G 0 (by decide) M e2) (by decide) li_X5_64 o15 (by decide) rfl rfl (Nat.le_of_ble_eq_true rfl) dX5_readLawClause_3 rfl ?_
  refine az_istore_n C dX5_readLawClause_6 rfl (by decide) rfl ?_
  refine az_iload_n C 0 dX5_readLawClause_7 rfl ?_
  refine az_iconst (v := (-1)) C dX5_readLawClause_8 (by decide) ?_
  refine az_icmp_ne C 14 dX5_readLawClause_9 (by decide) (fun c3 => ?_) (fun c3 => ?_)
  · have h := az_f c3 h
    refine az_aload_n C 1 dX5_readLawClause_14 rfl ?_
    refine az_getr (r := 16) C o15 fl_X5_12 rfl rfl dX5_readLawClause_15 ?_
    refine az_iload_n C 2 dX5_readLawClause_18 rfl ?_
    refine az_iconst (v := 0) C dX5_readLawClause_19 (by decide) ?_
    refine az_iload_n C 0 dX5_readLawClause_20 rfl ?_
    obtain ⟨q4, e5, h⟩ := az_b h
    refine az_cV (rest := []) (st2 := []) C [.int p0, .int 0, .int q1] (c_X10_set C.hL 16 (C.hL.tx 16 rfl) p0 0 q1 M e5) (by decide) li_X5_68 o16 (by decide) rfl rfl (Nat.le_of_ble_eq_true rfl) dX5_readLawClause_21 rfl ?_
    refine az_aload_n C 1 dX5_readLawClause_24 rfl ?_
    refine az_getr (r := 16) C o15 fl_X5_12 rfl rfl dX5_readLawClause_25 ?_
    refine az_iload_n C 2 dX5_readLawClause_28 rfl ?_
    refine az_iconst (v := 1) C dX5_readLawClause_29 (by decide) ?_
    refine az_iconst (v := 1) C dX5_readLawClause_30 (by decide) ?_
    obtain ⟨q6, e7, h⟩ := az_b h
    refine az_cV (rest := []) (st2 := []) C [.int p0, .int 1, .int 1] (c_X10_set C.hL 16 (C.hL.tx 16 rfl) p0 1 1 q4 e7) (by decide) li_X5_68 o16 (by decide) rfl rfl (Nat.le_of_ble_eq_true rfl) dX5_readLawClause_31 rfl ?_
    refine az_aload_n C 1 dX5_readLawClause_34 rfl ?_
    refine az_getr (r := 16) C o15 fl_X5_12 rfl rfl dX5_readLawClause_35 ?_
    refine az_iload_n C 2 dX5_readLawClause_38 rfl ?_
    refine az_iconst (v := 2) C dX5_readLawClause_39 (by decide) ?_
    refine az_aload_n C 1 dX5_readLawClause_40 rfl ?_
    refine az_getr (r := 16) C o15 fl_X5_12 rfl rfl dX5_readLawClause_41 ?_
    refine az_geti C o16 fl_X5_26 rfl dX5_readLawClause_44 ?_
    obtain ⟨q8, e9, h⟩ := az_b h
    refine az_cV (rest := []) (st2 := []) C [.int p0, .int 2, .int (q6.1 16 2)] (c_X10_set C.hL 16 (C.hL.tx 16 rfl) p0 2 (q6.1 16 2) q6 e9) (by decide) li_X5_68 o16 (by decide) rfl rfl (Nat.le_of_ble_eq_true rfl) dX5_readLawClause_47 rfl ?_
    refine az_aload_n C 1 dX5_readLawClause_50 rfl ?_
    obtain ⟨q10, e11, h⟩ := az_b h
    refine az_cV (rest := []) (st2 := []) C [] (c_X5_nextToken C.hL G q8 e11) (by decide) li_X5_42 o15 (by decide) rfl rfl (Nat.le_of_ble_eq_true rfl) dX5_readLawClause_51 rfl ?_
    refine az_iload_n C 0 dX5_readLawClause_54 rfl ?_
    refine az_iconst (v := 4) C dX5_readLawClause_55 (by decide) ?_
    refine az_icmp_eq C 68 dX5_readLawClause_56 (by decide) (fun c12 => ?_) (fun c12 => ?_)
    · have h := az_t c12 h
      refine az_sub [1, 2] rfl ?_
      exact s_X5_readLawClause_68 C G p0 q10 r h hp
    · have h := az_f c12 h
      refine az_aload_n C 1 dX5_readLawClause_59 rfl ?_
      obtain ⟨q13, e14, h⟩ := az_b h
      refine az_cV (rest := []) (st2 := [.int q13.1]) C [] (c_X5_readSum C.hL G 10 q10 e14) (by decide) li_X5_72 o15 (by decide) rfl rfl (Nat.le_of_ble_eq_true rfl) dX5_readLawClause_60 rfl ?_
      refine az_if_ne C 68 dX5_readLawClause_63 (by decide) (fun c15 => ?_) (fun c15 => ?_)
      · have h := az_f c15 h
        refine az_sub [1, 2] rfl ?_
        exact s_X5_readLawClause_68 C G p0 q13.2 r h hp
      · have h := az_t c15 h
        refine az_iconst (v := 0) C dX5_readLawClause_66 (by decide) ?_
        obtain rfl := Option.some.inj h
        exact az_zret C dX5_readLawClause_67 rfl hp
  · have h := az_t c3 h
    refine az_iconst (v := 0) C dX5_readLawClause_12 (by decide) ?_
    obtain rfl := Option.some.inj h
    exact az_zret C dX5_readLawClause_13 rfl hp
theorem c_X5_readLawClause {l : Launch} {V : az_V} (hL : az_L V) (G : Nat) (p0 : Int32) (M : az_M) {r : (Int32 × az_M)} (h : f_X5_readLawClause (az_z V) G p0 M = some r) : az_Ct l V yX5_readLawClause cX5_readLawClause 3 (some .boolean) 92 [.ref (az_ad V 15), .int p0] M (fun v M' => v = some (.int r.1) ∧ M' = r.2) :=
  az_Ct.of (by decide) (Nat.le_of_ble_eq_true rfl) (fun Y _ _ C => s_X5_readLawClause_e C G p0 M r h ⟨rfl, rfl⟩)
set_option maxHeartbeats 4000000 in
set_option maxRecDepth 100000 in
theorem s_X5_readTimes_51 {Y : az_Y} {V : az_V} {post : Option Value → az_M → Prop} (C : az_C Y V cX5_readTimes 2 RX5 (some .boolean) 9) (G : Nat)  (M : az_M) (r : (Int32 × az_M)) (h : f_X5_readTimes_51 (az_z V) G M = some r) (hp : post (some (.int r.1)) r.2) : AW Y V (az_end Y V post) 2 M 51 [] [] := by
  unfold f_X5_readTimes_51 at h
  refine az_iconst (v := 0) C dX5_readTimes_51 (by decide) ?_
  obtain rfl := Option.some.inj h
  exact az_zret C dX5_readTimes_52 rfl hp
set_option maxHeartbeats 4000000 in
set_option maxRecDepth 100000 in
theorem s_X5_readTimes_e {Y : az_Y} {V : az_V} {post : Option Value → az_M → Prop} (C : az_C Y V cX5_readTimes 2 RX5 (some .boolean) 9) (G : Nat) (p0 : Int32) (M : az_M) (r : (Int32 × az_M)) (h : f_X5_readTimes (az_z V) G p0 M = some r) (hp : post (some (.int r.1)) r.2) : AW Y V (az_end Y V post) 2 M 0 [(0, .ref (az_ad V 15)), (1, .int p0)] [] := by
  have o15 := C.hL.at 15 (ci := 5) rfl
  have o16 := C.hL.at 16 (ci := 10) rfl
  unfold f_X5_readTimes at h
  refine az_aload_n C 0 dX5_readTimes_0 rfl ?_
  refine az_getr (r := 16) C o15 fl_X5_12 rfl rfl dX5_readTimes_1 ?_
  refine az_iload_n C 1 dX5_readTimes_4 rfl ?_
  refine az_iconst (v := 1) C dX5_readTimes_5 (by decide) ?_
  refine az_iconst (v := 1) C dX5_readTimes_6 (by decide) ?_
  obtain ⟨q1, e2, h⟩ := az_b h
  refine az_cV (rest := []) (st2 := []) C [.int p0, .int 1, .int 1] (c_X10_set C.hL 16 (C.hL.tx 16 rfl) p0 1 1 M e2) (by decide) li_X5_68 o16 (by decide) rfl rfl (Nat.le_of_ble_eq_true rfl) dX5_readTimes_7 rfl ?_
  refine az_aload_n C 0 dX5_readTimes_10 rfl ?_
  refine az_lds (i := 4) C (by decide) rfl dX5_readTimes_11 ?_
  obtain ⟨q3, e4, h⟩ := az_b h
  refine az_cV (rest := []) (st2 := [.int q3]) C [.ref (V.2.2.2.2.2 (10 + 4))] (c_X5_wordAmong C.hL G 4 (by decide) q1 e4) (by decide) li_X5_64 o15 (by decide) rfl rfl (Nat.le_of_ble_eq_true rfl) dX5_readTimes_13 rfl ?_
  refine az_iconst (v := (-1)) C dX5_readTimes_16 (by decide) ?_
  refine az_icmp_ne C 22 dX5_readTimes_17 (by decide) (fun c5 => ?_) (fun c5 => ?_)
  · have h := az_f c5 h
    refine az_aload_n C 0 dX5_readTimes_22 rfl ?_
    obtain ⟨q6, e7, h⟩ := az_b h
    refine az_cV (rest := []) (st2 := []) C [] (c_X5_nextToken C.hL G q1 e7) (by decide) li_X5_42 o15 (by decide) rfl rfl (Nat.le_of_ble_eq_true rfl) dX5_readTimes_23 rfl ?_
    refine az_aload_n C 0 dX5_readTimes_26 rfl ?_
    refine az_geti C o15 fl_X5_55 rfl dX5_readTimes_27 ?_
    refine az_iconst (v := 2) C dX5_readTimes_30 (by decide) ?_
    refine az_icmp_ne C 51 dX5_readTimes_31 (by decide) (fun c8 => ?_) (fun c8 => ?_)
    · have h := az_f c8 h
      refine az_sub [] rfl ?_
      exact s_X5_readTimes_51 C G q6 r h hp
    · have h := az_t c8 h
      refine az_aload_n C 0 dX5_readTimes_34 rfl ?_
      refine az_geti C o15 fl_X5_90 rfl dX5_readTimes_35 ?_
      refine az_iconst (v := 1) C dX5_readTimes_38 (by decide) ?_
      refine az_icmp_lt C 51 dX5_readTimes_39 (by decide) (fun c9 => ?_) (fun c9 => ?_)
      · have h := az_t c9 h
        refine az_sub [] rfl ?_
        exact s_X5_readTimes_51 C G q6 r h hp
      · have h := az_f c9 h
        refine az_aload_n C 0 dX5_readTimes_42 rfl ?_
        refine az_geti C o15 fl_X5_90 rfl dX5_readTimes_43 ?_
        refine az_bipush (v := 20) C dX5_readTimes_46 (by decide) ?_
        refine az_icmp_le C 53 dX5_readTimes_48 (by decide) (fun c10 => ?_) (fun c10 => ?_)
        · have h := az_t c10 h
          refine az_aload_n C 0 dX5_readTimes_53 rfl ?_
          refine az_getr (r := 16) C o15 fl_X5_12 rfl rfl dX5_readTimes_54 ?_
          refine az_iload_n C 1 dX5_readTimes_57 rfl ?_
          refine az_iconst (v := 1) C dX5_readTimes_58 (by decide) ?_
          refine az_aload_n C 0 dX5_readTimes_59 rfl ?_
          refine az_geti C o15 fl_X5_90 rfl dX5_readTimes_60 ?_
          obtain ⟨q11, e12, h⟩ := az_b h
          refine az_cV (rest := []) (st2 := []) C [.int p0, .int 1, .int (q6.1 15 6)] (c_X10_set C.hL 16 (C.hL.tx 16 rfl) p0 1 (q6.1 15 6) q6 e12) (by decide) li_X5_68 o16 (by decide) rfl rfl (Nat.le_of_ble_eq_true rfl) dX5_readTimes_63 rfl ?_
          refine az_aload_n C 0 dX5_readTimes_66 rfl ?_
          obtain ⟨q13, e14, h⟩ := az_b h
          refine az_cV (rest := []) (st2 := []) C [] (c_X5_nextToken C.hL G q11 e14) (by decide) li_X5_42 o15 (by decide) rfl rfl (Nat.le_of_ble_eq_true rfl) dX5_readTimes_67 rfl ?_
          refine az_iconst (v := 1) C dX5_readTimes_70 (by decide) ?_
          obtain rfl := Option.some.inj h
          exact az_zret C dX5_readTimes_71 rfl hp
        · have h := az_f c10 h
          refine az_sub [] rfl ?_
          exact s_X5_readTimes_51 C G q6 r h hp
  · have h := az_t c5 h
    refine az_iconst (v := 1) C dX5_readTimes_20 (by decide) ?_
    obtain rfl := Option.some.inj h
    exact az_zret C dX5_readTimes_21 rfl hp
theorem c_X5_readTimes {l : Launch} {V : az_V} (hL : az_L V) (G : Nat) (p0 : Int32) (M : az_M) {r : (Int32 × az_M)} (h : f_X5_readTimes (az_z V) G p0 M = some r) : az_Ct l V yX5_readTimes cX5_readTimes 2 (some .boolean) 9 [.ref (az_ad V 15), .int p0] M (fun v M' => v = some (.int r.1) ∧ M' = r.2) :=
  az_Ct.of (by decide) (Nat.le_of_ble_eq_true rfl) (fun Y _ _ C => s_X5_readTimes_e C G p0 M r h ⟨rfl, rfl⟩)
set_option maxHeartbeats 4000000 in
set_option maxRecDepth 100000 in
theorem s_X5_readOrder_129 {Y : az_Y} {V : az_V} {post : Option Value → az_M → Prop} (C : az_C Y V cX5_readOrder 3 RX5 (some .boolean) 92) (G : Nat) (s0 : Int32) (M : az_M) (r : (Int32 × az_M)) (h : f_X5_readOrder_129 (az_z V) G s0 M = some r) (hp : post (some (.int r.1)) r.2) : AW Y V (az_end Y V post) 3 M 129 [] [.int s0] := by
  unfold f_X5_readOrder_129 at h
  obtain ⟨g31, h⟩ := az_g2 h
  obtain rfl := Option.some.inj h
  exact az_zret C dX5_readOrder_129 (az_nz g31) hp
set_option maxHeartbeats 4000000 in
set_option maxRecDepth 100000 in
theorem s_X5_readOrder_128 {Y : az_Y} {V : az_V} {post : Option Value → az_M → Prop} (C : az_C Y V cX5_readOrder 3 RX5 (some .boolean) 92) (G : Nat)  (M : az_M) (r : (Int32 × az_M)) (h : f_X5_readOrder_128 (az_z V) G M = some r) (hp : post (some (.int r.1)) r.2) : AW Y V (az_end Y V post) 3 M 128 [] [] := by
  unfold f_X5_readOrder_128 at h
  refine az_iconst (v := 0) C dX5_readOrder_128 (by decide) ?_
  exact s_X5_readOrder_129 C G 0 M r h hp
set_option maxHeartbeats 4000000 in
set_option maxRecDepth 100000 in
theorem s_X5_readOrder_108 {Y : az_Y} {V : az_V} {post : Option Value → az_M → Prop} (C : az_C Y V cX5_readOrder 3 RX5 (some .boolean) 92) (G : Nat) (x1 : Int32) (M : az_M) (r : (Int32 × az_M)) (h : f_X5_readOrder_108 (az_z V) G x1 M = some r) (hp : post (some (.int r.1)) r.2) : AW Y V (az_end Y V post) 3 M 108 [(0, .ref (az_ad V 15)), (1, .int x1)] [] := by
  have o15 := C.hL.at 15 (ci := 5) rfl
  unfold f_X5_readOrder_108 at h
  refine az_aload_n C 0 dX5_readOrder_108 rfl ?_
  refine az_iload_n C 1 dX5_readOrder_109 rfl ?_
  obtain ⟨q25, e26, h⟩ := az_b h
  refine az_cV (rest := []) (st2 := [.int q25.1]) C [.int x1] (c_X5_readTimes C.hL G x1 M e26) (by decide) li_X5_85 o15 (by decide) rfl rfl (Nat.le_of_ble_eq_true rfl) dX5_readOrder_110 rfl ?_
  refine az_if_eq C 128 dX5_readOrder_113 (by decide) (fun c27 => ?_) (fun c27 => ?_)
  · have h := az_t c27 h
    refine az_sub [] rfl ?_
    exact s_X5_readOrder_128 C G q25.2 r h hp
  · have h := az_f c27 h
    refine az_aload_n C 0 dX5_readOrder_116 rfl ?_
    refine az_iload_n C 1 dX5_readOrder_117 rfl ?_
    obtain ⟨q28, e29, h⟩ := az_b h
    refine az_cV (rest := []) (st2 := [.int q28.1]) C [.int x1] (c_X5_readIf C.hL G x1 q25.2 e29) (by decide) li_X5_76 o15 (by decide) rfl rfl (Nat.le_of_ble_eq_true rfl) dX5_readOrder_118 rfl ?_
    refine az_if_eq C 128 dX5_readOrder_121 (by decide) (fun c30 => ?_) (fun c30 => ?_)
    · have h := az_t c30 h
      refine az_sub [] rfl ?_
      exact s_X5_readOrder_128 C G q28.2 r h hp
    · have h := az_f c30 h
      refine az_iconst (v := 1) C dX5_readOrder_124 (by decide) ?_
      refine az_goto C 129 dX5_readOrder_125 (by decide) ?_
      refine az_sub [] rfl ?_
      exact s_X5_readOrder_129 C G 1 q28.2 r h hp
set_option maxHeartbeats 4000000 in
set_option maxRecDepth 100000 in
theorem s_X5_readOrder_86 {Y : az_Y} {V : az_V} {post : Option Value → az_M → Prop} (C : az_C Y V cX5_readOrder 3 RX5 (some .boolean) 92) (G : Nat) (x1 : Int32) (s0 : Nat) (hts0 : s0 < 11) (M : az_M) (r : (Int32 × az_M)) (h : f_X5_readOrder_86 (az_z V) G x1 s0 M = some r) (hp : post (some (.int r.1)) r.2) : AW Y V (az_end Y V post) 3 M 86 [(0, .ref (az_ad V 15)), (1, .int x1)] [.ref (V.2.2.2.2.2 (10 + s0)), .ref (az_ad V 15)] := by
  have o15 := C.hL.at 15 (ci := 5) rfl
  unfold f_X5_readOrder_86 at h
  obtain ⟨q17, e18, h⟩ := az_b h
  refine az_cV (rest := []) (st2 := [.int q17]) C [.ref (V.2.2.2.2.2 (10 + s0))] (c_X5_wordAmong C.hL G s0 hts0 M e18) (by decide) li_X5_64 o15 (by decide) rfl rfl (Nat.le_of_ble_eq_true rfl) dX5_readOrder_86 rfl ?_
  refine az_iconst (v := (-1)) C dX5_readOrder_89 (by decide) ?_
  refine az_icmp_ne C 95 dX5_readOrder_90 (by decide) (fun c19 => ?_) (fun c19 => ?_)
  · have h := az_f c19 h
    refine az_aload_n C 0 dX5_readOrder_95 rfl ?_
    obtain ⟨q20, e21, h⟩ := az_b h
    refine az_cV (rest := []) (st2 := []) C [] (c_X5_nextToken C.hL G M e21) (by decide) li_X5_42 o15 (by decide) rfl rfl (Nat.le_of_ble_eq_true rfl) dX5_readOrder_96 rfl ?_
    refine az_aload_n C 0 dX5_readOrder_99 rfl ?_
    obtain ⟨q22, e23, h⟩ := az_b h
    refine az_cV (rest := []) (st2 := [.int q22.1]) C [] (c_X5_readSum C.hL G 10 q20 e23) (by decide) li_X5_72 o15 (by decide) rfl rfl (Nat.le_of_ble_eq_true rfl) dX5_readOrder_100 rfl ?_
    refine az_if_ne C 108 dX5_readOrder_103 (by decide) (fun c24 => ?_) (fun c24 => ?_)
    · have h := az_f c24 h
      exact s_X5_readOrder_108 C G x1 q22.2 r h hp
    · have h := az_t c24 h
      refine az_iconst (v := 0) C dX5_readOrder_106 (by decide) ?_
      obtain rfl := Option.some.inj h
      exact az_zret C dX5_readOrder_107 rfl hp
  · have h := az_t c19 h
    refine az_iconst (v := 0) C dX5_readOrder_93 (by decide) ?_
    obtain rfl := Option.some.inj h
    exact az_zret C dX5_readOrder_94 rfl hp
set_option maxHeartbeats 4000000 in
set_option maxRecDepth 100000 in
theorem s_X5_readOrder_e {Y : az_Y} {V : az_V} {post : Option Value → az_M → Prop} (C : az_C Y V cX5_readOrder 3 RX5 (some .boolean) 92) (G : Nat) (p0 : Int32) (M : az_M) (r : (Int32 × az_M)) (h : f_X5_readOrder (az_z V) G p0 M = some r) (hp : post (some (.int r.1)) r.2) : AW Y V (az_end Y V post) 3 M 0 [(0, .ref (az_ad V 15)), (1, .int p0)] [] := by
  have o15 := C.hL.at 15 (ci := 5) rfl
  have o16 := C.hL.at 16 (ci := 10) rfl
  unfold f_X5_readOrder at h
  refine az_aload_n C 0 dX5_readOrder_0 rfl ?_
  refine az_lds (i := 1) C (by decide) rfl dX5_readOrder_1 ?_
  obtain ⟨q1, e2, h⟩ := az_b h
  refine az_cV (rest := []) (st2 := [.int q1]) C [.ref (V.2.2.2.2.2 (10 + 1))] (c_X5_wordAmong C.hL G 1 (by decide) M e2) (by decide) li_X5_64 o15 (by decide) rfl rfl (Nat.le_of_ble_eq_true rfl) dX5_readOrder_3 rfl ?_
  refine az_istore_n C dX5_readOrder_6 rfl (by decide) rfl ?_
  refine az_iload_n C 0 dX5_readOrder_7 rfl ?_
  refine az_iconst (v := (-1)) C dX5_readOrder_8 (by decide) ?_
  refine az_icmp_ne C 14 dX5_readOrder_9 (by decide) (fun c3 => ?_) (fun c3 => ?_)
  · have h := az_f c3 h
    refine az_aload_n C 1 dX5_readOrder_14 rfl ?_
    refine az_getr (r := 16) C o15 fl_X5_12 rfl rfl dX5_readOrder_15 ?_
    refine az_iload_n C 2 dX5_readOrder_18 rfl ?_
    refine az_iconst (v := 0) C dX5_readOrder_19 (by decide) ?_
    refine az_iload_n C 0 dX5_readOrder_20 rfl ?_
    obtain ⟨q4, e5, h⟩ := az_b h
    refine az_cV (rest := []) (st2 := []) C [.int p0, .int 0, .int q1] (c_X10_set C.hL 16 (C.hL.tx 16 rfl) p0 0 q1 M e5) (by decide) li_X5_68 o16 (by decide) rfl rfl (Nat.le_of_ble_eq_true rfl) dX5_readOrder_21 rfl ?_
    refine az_aload_n C 1 dX5_readOrder_24 rfl ?_
    refine az_getr (r := 16) C o15 fl_X5_12 rfl rfl dX5_readOrder_25 ?_
    refine az_iload_n C 2 dX5_readOrder_28 rfl ?_
    refine az_iconst (v := 2) C dX5_readOrder_29 (by decide) ?_
    refine az_aload_n C 1 dX5_readOrder_30 rfl ?_
    refine az_getr (r := 16) C o15 fl_X5_12 rfl rfl dX5_readOrder_31 ?_
    refine az_geti C o16 fl_X5_26 rfl dX5_readOrder_34 ?_
    obtain ⟨q6, e7, h⟩ := az_b h
    refine az_cV (rest := []) (st2 := []) C [.int p0, .int 2, .int (q4.1 16 2)] (c_X10_set C.hL 16 (C.hL.tx 16 rfl) p0 2 (q4.1 16 2) q4 e7) (by decide) li_X5_68 o16 (by decide) rfl rfl (Nat.le_of_ble_eq_true rfl) dX5_readOrder_37 rfl ?_
    refine az_aload_n C 1 dX5_readOrder_40 rfl ?_
    obtain ⟨q8, e9, h⟩ := az_b h
    refine az_cV (rest := []) (st2 := []) C [] (c_X5_nextToken C.hL G q6 e9) (by decide) li_X5_42 o15 (by decide) rfl rfl (Nat.le_of_ble_eq_true rfl) dX5_readOrder_41 rfl ?_
    refine az_aload_n C 1 dX5_readOrder_44 rfl ?_
    obtain ⟨q10, e11, h⟩ := az_b h
    refine az_cV (rest := []) (st2 := [.int q10.1]) C [] (c_X5_readSum C.hL G 10 q8 e11) (by decide) li_X5_72 o15 (by decide) rfl rfl (Nat.le_of_ble_eq_true rfl) dX5_readOrder_45 rfl ?_
    refine az_if_ne C 53 dX5_readOrder_48 (by decide) (fun c12 => ?_) (fun c12 => ?_)
    · have h := az_f c12 h
      refine az_aload_n C 1 dX5_readOrder_53 rfl ?_
      refine az_getr (r := 16) C o15 fl_X5_12 rfl rfl dX5_readOrder_54 ?_
      refine az_iload_n C 2 dX5_readOrder_57 rfl ?_
      refine az_iconst (v := 3) C dX5_readOrder_58 (by decide) ?_
      refine az_aload_n C 1 dX5_readOrder_59 rfl ?_
      refine az_getr (r := 16) C o15 fl_X5_12 rfl rfl dX5_readOrder_60 ?_
      refine az_geti C o16 fl_X5_26 rfl dX5_readOrder_63 ?_
      obtain ⟨q13, e14, h⟩ := az_b h
      refine az_cV (rest := []) (st2 := []) C [.int p0, .int 3, .int (q10.2.1 16 2)] (c_X10_set C.hL 16 (C.hL.tx 16 rfl) p0 3 (q10.2.1 16 2) q10.2 e14) (by decide) li_X5_68 o16 (by decide) rfl rfl (Nat.le_of_ble_eq_true rfl) dX5_readOrder_66 rfl ?_
      refine az_iload_n C 0 dX5_readOrder_69 rfl ?_
      refine az_iconst (v := 2) C dX5_readOrder_70 (by decide) ?_
      refine az_icmp_eq C 108 dX5_readOrder_71 (by decide) (fun c15 => ?_) (fun c15 => ?_)
      · have h := az_t c15 h
        refine az_sub [1, 2] rfl ?_
        exact s_X5_readOrder_108 C G p0 q13 r h hp
      · have h := az_f c15 h
        refine az_aload_n C 1 dX5_readOrder_74 rfl ?_
        refine az_iload_n C 0 dX5_readOrder_75 rfl ?_
        refine az_if_ne C 84 dX5_readOrder_76 (by decide) (fun c16 => ?_) (fun c16 => ?_)
        · have h := az_f c16 h
          refine az_lds (i := 3) C (by decide) rfl dX5_readOrder_84 ?_
          refine az_sub [1, 2] rfl ?_
          exact s_X5_readOrder_86 C G p0 3 (by decide) q13 r h hp
        · have h := az_t c16 h
          refine az_lds (i := 2) C (by decide) rfl dX5_readOrder_79 ?_
          refine az_goto C 86 dX5_readOrder_81 (by decide) ?_
          refine az_sub [1, 2] rfl ?_
          exact s_X5_readOrder_86 C G p0 2 (by decide) q13 r h hp
    · have h := az_t c12 h
      refine az_iconst (v := 0) C dX5_readOrder_51 (by decide) ?_
      obtain rfl := Option.some.inj h
      exact az_zret C dX5_readOrder_52 rfl hp
  · have h := az_t c3 h
    refine az_iconst (v := 0) C dX5_readOrder_12 (by decide) ?_
    obtain rfl := Option.some.inj h
    exact az_zret C dX5_readOrder_13 rfl hp
theorem c_X5_readOrder {l : Launch} {V : az_V} (hL : az_L V) (G : Nat) (p0 : Int32) (M : az_M) {r : (Int32 × az_M)} (h : f_X5_readOrder (az_z V) G p0 M = some r) : az_Ct l V yX5_readOrder cX5_readOrder 3 (some .boolean) 92 [.ref (az_ad V 15), .int p0] M (fun v M' => v = some (.int r.1) ∧ M' = r.2) :=
  az_Ct.of (by decide) (Nat.le_of_ble_eq_true rfl) (fun Y _ _ C => s_X5_readOrder_e C G p0 M r h ⟨rfl, rfl⟩)
set_option maxHeartbeats 4000000 in
set_option maxRecDepth 100000 in
theorem s_X5_read_74 {Y : az_Y} {V : az_V} {post : Option Value → az_M → Prop} (C : az_C Y V cX5_read 3 RX5 (some .int) 93) (G : Nat)  (M : az_M) (r : (Int32 × az_M)) (h : f_X5_read_74 (az_z V) G M = some r) (hp : post (some (.int r.1)) r.2) : AW Y V (az_end Y V post) 3 M 74 [(0, .ref (az_ad V 15))] [] := by
  have o15 := C.hL.at 15 (ci := 5) rfl
  unfold f_X5_read_74 at h
  refine az_aload_n C 0 dX5_read_74 rfl ?_
  refine az_geti C o15 fl_X5_52 rfl dX5_read_75 ?_
  obtain rfl := Option.some.inj h
  exact az_iret C dX5_read_78 hp
set_option maxHeartbeats 4000000 in
set_option maxRecDepth 100000 in
theorem s_X5_read_79 {Y : az_Y} {V : az_V} {post : Option Value → az_M → Prop} (C : az_C Y V cX5_read 3 RX5 (some .int) 93) (G : Nat) (K42 : (Int32 → az_M → Option (Int32 × az_M))) (hK42 : ∀ (x2 : Int32) (M : az_M) (r : (Int32 × az_M)), K42 x2 M = some r → post (some (.int r.1)) r.2 → AW Y V (az_end Y V post) 3 M 42 [(0, .ref (az_ad V 15)), (2, .int x2)] []) (x2 : Int32) (M : az_M) (r : (Int32 × az_M)) (h : f_X5_read_79 (az_z V) G K42 x2 M = some r) (hp : post (some (.int r.1)) r.2) : AW Y V (az_end Y V post) 3 M 79 [(0, .ref (az_ad V 15)), (2, .int x2)] [] := by
  have o15 := C.hL.at 15 (ci := 5) rfl
  have o16 := C.hL.at 16 (ci := 10) rfl
  unfold f_X5_read_79 at h
  refine az_aload_n C 0 dX5_read_79 rfl ?_
  refine az_getr (r := 16) C o15 fl_X5_12 rfl rfl dX5_read_80 ?_
  refine az_iload_n C 1 dX5_read_83 rfl ?_
  refine az_iconst (v := 1) C dX5_read_84 (by decide) ?_
  refine az_iadd C dX5_read_85 ?_
  refine az_puti C o16 fl_X5_30 rfl rfl rfl rfl dX5_read_86 ?_
  refine az_aload_n C 0 dX5_read_89 rfl ?_
  refine az_geti C o15 fl_X5_55 rfl dX5_read_90 ?_
  refine az_if_ne C 98 dX5_read_93 (by decide) (fun c12 => ?_) (fun c12 => ?_)
  · have h := az_f c12 h
    refine az_aload_n C 0 dX5_read_98 rfl ?_
    refine az_bipush (v := 59) C dX5_read_99 (by decide) ?_
    obtain ⟨q13, e14, h⟩ := az_b h
    refine az_cV (rest := []) (st2 := [.int q13]) C [.int 59] (c_X5_isSign C.hL 59 (az_i M 16 3 (x2 + 1)) e14) (by decide) li_X5_58 o15 (by decide) rfl rfl (Nat.le_of_ble_eq_true rfl) dX5_read_101 rfl ?_
    refine az_if_ne C 112 dX5_read_104 (by decide) (fun c15 => ?_) (fun c15 => ?_)
    · have h := az_f c15 h
      refine az_aload_n C 0 dX5_read_112 rfl ?_
      obtain ⟨q16, e17, h⟩ := az_b h
      refine az_cV (rest := []) (st2 := []) C [] (c_X5_nextToken C.hL G (az_i M 16 3 (x2 + 1)) e17) (by decide) li_X5_42 o15 (by decide) rfl rfl (Nat.le_of_ble_eq_true rfl) dX5_read_113 rfl ?_
      refine az_iinc (v := (x2 + 1)) C 1 dX5_read_116 rfl rfl (by decide) rfl ?_
      refine az_goto C 42 dX5_read_119 (by decide) ?_
      refine az_sub [1, 0] rfl ?_
      exact hK42 (x2 + 1) q16 r h hp
    · have h := az_t c15 h
      refine az_aload_n C 0 dX5_read_107 rfl ?_
      refine az_geti C o15 fl_X5_52 rfl dX5_read_108 ?_
      obtain rfl := Option.some.inj h
      exact az_iret C dX5_read_111 hp
  · have h := az_t c12 h
    refine az_iconst (v := (-1)) C dX5_read_96 (by decide) ?_
    obtain rfl := Option.some.inj h
    exact az_iret C dX5_read_97 hp
set_option maxHeartbeats 4000000 in
set_option maxRecDepth 100000 in
theorem s_X5_read_42 {Y : az_Y} {V : az_V} {post : Option Value → az_M → Prop} (C : az_C Y V cX5_read 3 RX5 (some .int) 93) (G : Nat) : ∀ (F : Nat) (x2 : Int32) (M : az_M) (r : (Int32 × az_M)), f_X5_read_42 (az_z V) G F x2 M = some r → post (some (.int r.1)) r.2 → AW Y V (az_end Y V post) 3 M 42 [(0, .ref (az_ad V 15)), (2, .int x2)] [] := by
  have o15 := C.hL.at 15 (ci := 5) rfl
  intro F
  induction F with
  | zero =>
    intro x2 M r h
    exact absurd (show (none : Option (Int32 × az_M)) = some r from h) (fun q => by cases q)
  | succ F ih =>
    intro x2 M r h hp
    rw [f_X5_read_42] at h
    refine az_iload_n C 1 dX5_read_42 rfl ?_
    refine az_bipush (v := 12) C dX5_read_43 (by decide) ?_
    refine az_icmp_ge C 122 dX5_read_45 (by decide) (fun c4 => ?_) (fun c4 => ?_)
    · have h := az_t c4 h
      refine az_aload_n C 0 dX5_read_122 rfl ?_
      refine az_geti C o15 fl_X5_52 rfl dX5_read_123 ?_
      obtain rfl := Option.some.inj h
      exact az_iret C dX5_read_126 hp
    · have h := az_f c4 h
      refine az_aload_n C 0 dX5_read_48 rfl ?_
      refine az_geti C o15 fl_X5_22 rfl dX5_read_49 ?_
      refine az_if_eq C 66 dX5_read_52 (by decide) (fun c5 => ?_) (fun c5 => ?_)
      · have h := az_t c5 h
        refine az_aload_n C 0 dX5_read_66 rfl ?_
        refine az_iload_n C 1 dX5_read_67 rfl ?_
        obtain ⟨q6, e7, h⟩ := az_b h
        refine az_cV (rest := []) (st2 := [.int q6.1]) C [.int x2] (c_X5_readLawClause C.hL G x2 M e7) (by decide) li_X5_49 o15 (by decide) rfl rfl (Nat.le_of_ble_eq_true rfl) dX5_read_68 rfl ?_
        refine az_if_ne C 79 dX5_read_71 (by decide) (fun c8 => ?_) (fun c8 => ?_)
        · have h := az_f c8 h
          exact s_X5_read_79 C G (f_X5_read_42 (az_z V) G F) ih x2 q6.2 r h hp
        · have h := az_t c8 h
          refine az_sub [0] rfl ?_
          exact s_X5_read_74 C G q6.2 r h hp
      · have h := az_f c5 h
        refine az_aload_n C 0 dX5_read_55 rfl ?_
        refine az_iload_n C 1 dX5_read_56 rfl ?_
        obtain ⟨q9, e10, h⟩ := az_b h
        refine az_cV (rest := []) (st2 := [.int q9.1]) C [.int x2] (c_X5_readOrder C.hL G x2 M e10) (by decide) li_X5_45 o15 (by decide) rfl rfl (Nat.le_of_ble_eq_true rfl) dX5_read_57 rfl ?_
        refine az_if_eq C 74 dX5_read_60 (by decide) (fun c11 => ?_) (fun c11 => ?_)
        · have h := az_t c11 h
          refine az_sub [0] rfl ?_
          exact s_X5_read_74 C G q9.2 r h hp
        · have h := az_f c11 h
          refine az_goto C 79 dX5_read_63 (by decide) ?_
          exact s_X5_read_79 C G (f_X5_read_42 (az_z V) G F) ih x2 q9.2 r h hp
set_option maxHeartbeats 4000000 in
set_option maxRecDepth 100000 in
theorem s_X5_read_e {Y : az_Y} {V : az_V} {post : Option Value → az_M → Prop} (C : az_C Y V cX5_read 3 RX5 (some .int) 93) (G : Nat) (p0 : Int32) (M : az_M) (r : (Int32 × az_M)) (h : f_X5_read (az_z V) G p0 M = some r) (hp : post (some (.int r.1)) r.2) : AW Y V (az_end Y V post) 3 M 0 [(0, .ref (az_ad V 15)), (1, .int p0)] [] := by
  have o15 := C.hL.at 15 (ci := 5) rfl
  have o16 := C.hL.at 16 (ci := 10) rfl
  unfold f_X5_read at h
  refine az_aload_n C 0 dX5_read_0 rfl ?_
  refine az_iload_n C 1 dX5_read_1 rfl ?_
  obtain ⟨g1, h⟩ := az_g2 h
  refine az_puti C o15 fl_X5_22 rfl rfl (az_nz g1) (az_fz g1) dX5_read_2 ?_
  refine az_aload_n C 0 dX5_read_5 rfl ?_
  refine az_getr (r := 16) C o15 fl_X5_12 rfl rfl dX5_read_6 ?_
  refine az_iconst (v := 0) C dX5_read_9 (by decide) ?_
  refine az_puti C o16 fl_X5_26 rfl rfl rfl rfl dX5_read_10 ?_
  refine az_aload_n C 0 dX5_read_13 rfl ?_
  refine az_getr (r := 16) C o15 fl_X5_12 rfl rfl dX5_read_14 ?_
  refine az_iconst (v := 0) C dX5_read_17 (by decide) ?_
  refine az_puti C o16 fl_X5_30 rfl rfl rfl rfl dX5_read_18 ?_
  refine az_aload_n C 0 dX5_read_21 rfl ?_
  refine az_iconst (v := 0) C dX5_read_22 (by decide) ?_
  refine az_puti C o15 fl_X5_33 rfl rfl rfl rfl dX5_read_23 ?_
  refine az_aload_n C 0 dX5_read_26 rfl ?_
  refine az_iconst (v := 0) C dX5_read_27 (by decide) ?_
  refine az_puti C o15 fl_X5_36 rfl rfl rfl rfl dX5_read_28 ?_
  refine az_aload_n C 0 dX5_read_31 rfl ?_
  refine az_iconst (v := 0) C dX5_read_32 (by decide) ?_
  refine az_puti C o15 fl_X5_39 rfl rfl rfl rfl dX5_read_33 ?_
  refine az_aload_n C 0 dX5_read_36 rfl ?_
  obtain ⟨q2, e3, h⟩ := az_b h
  refine az_cV (rest := []) (st2 := []) C [] (c_X5_nextToken C.hL G (az_i (az_i (az_i (az_i (az_i (az_i M 15 2 p0) 16 2 0) 16 3 0) 15 5 0) 15 7 0) 15 8 0) e3) (by decide) li_X5_42 o15 (by decide) rfl rfl (Nat.le_of_ble_eq_true rfl) dX5_read_37 rfl ?_
  refine az_iconst (v := 0) C dX5_read_40 (by decide) ?_
  refine az_istore_n C dX5_read_41 rfl (by decide) rfl ?_
  refine az_sub [1, 0] rfl ?_
  exact s_X5_read_42 C G G 0 q2 r h hp
theorem c_X5_read {l : Launch} {V : az_V} (hL : az_L V) (G : Nat) (p0 : Int32) (M : az_M) {r : (Int32 × az_M)} (h : f_X5_read (az_z V) G p0 M = some r) : az_Ct l V yX5_read cX5_read 3 (some .int) 93 [.ref (az_ad V 15), .int p0] M (fun v M' => v = some (.int r.1) ∧ M' = r.2) :=
  az_Ct.of (by decide) (Nat.le_of_ble_eq_true rfl) (fun Y _ _ C => s_X5_read_e C G p0 M r h ⟨rfl, rfl⟩)
