/-! THE ABSTRACT MEMORY: cells by their place in the order of making; ints, longs, references of ref arrays; the fields that hold references never change (az_rt) -/
abbrev az_M : Type := (Nat → Nat → Int32) × (Nat → Nat → Int64) × (Nat → Nat → Option Nat)
/-- kind (0 .. 12 objects of a class, 13 + t arrays of the t-th type) and length of each cell -/
abbrev az_S : Type := (Nat → Nat) × (Nat → Nat)
def az_R : Nat → String := fun ci => match ci with
  | 0 => RX0 | 1 => RX1 | 2 => RX2 | 3 => RX3 | 4 => RX4 | 5 => RX5 | 6 => RX6 | 7 => RX7 | 8 => RX8 | 9 => RX9 | 10 => RX10 | 11 => RX11 | _ => RX12
def az_T : Nat → u_T := fun ci => match ci with
  | 0 => TX0 | 1 => TX1 | 2 => TX2 | 3 => TX3 | 4 => TX4 | 5 => TX5 | 6 => TX6 | 7 => TX7 | 8 => TX8 | 9 => TX9 | 10 => TX10 | 11 => TX11 | _ => TX12
def az_N : Nat → Nat := fun ci => match ci with
  | 0 => 3 | 1 => 9 | 2 => 9 | 3 => 4 | 4 => 1 | 5 => 9 | 6 => 1 | 7 => 14 | 8 => 4 | 9 => 2 | 10 => 4 | 11 => 16 | _ => 59
def az_y : Nat → Nat → FieldType := fun ci => match ci with
  | 0 => tyX0 | 1 => tyX1 | 2 => tyX2 | 3 => tyX3 | 4 => tyX4 | 5 => tyX5 | 6 => tyX6 | 7 => tyX7 | 8 => tyX8 | 9 => tyX9 | 10 => tyX10 | 11 => tyX11 | _ => tyX12
abbrev az_cl : List vw_C := [(RX0, TX0, 3), (RX1, TX1, 9), (RX2, TX2, 9), (RX3, TX3, 4), (RX4, TX4, 1), (RX5, TX5, 9), (RX6, TX6, 1), (RX7, TX7, 14), (RX8, TX8, 4), (RX9, TX9, 2), (RX10, TX10, 4), (RX11, TX11, 16), (RX12, TX12, 59)]
theorem az_cl_at : ∀ ci, ci < 13 → az_cl[ci]? = some (az_R ci, az_T ci, az_N ci) := by
  intro ci h
  match ci, h with
  | 0, _ => rfl
  | 1, _ => rfl
  | 2, _ => rfl
  | 3, _ => rfl
  | 4, _ => rfl
  | 5, _ => rfl
  | 6, _ => rfl
  | 7, _ => rfl
  | 8, _ => rfl
  | 9, _ => rfl
  | 10, _ => rfl
  | 11, _ => rfl
  | 12, _ => rfl
  | k + 13, h => exact absurd h (by omega)
theorem az_nm : ∀ ci, ci < 13 → ∀ a, a < az_N ci → ∀ b, b < az_N ci → a ≠ b → (az_T ci a).2.1 ≠ (az_T ci b).2.1 := by
  intro ci h
  match ci, h with
  | 0, _ => exact nmX0
  | 1, _ => exact nmX1
  | 2, _ => exact nmX2
  | 3, _ => exact nmX3
  | 4, _ => exact nmX4
  | 5, _ => exact nmX5
  | 6, _ => exact nmX6
  | 7, _ => exact nmX7
  | 8, _ => exact nmX8
  | 9, _ => exact nmX9
  | 10, _ => exact nmX10
  | 11, _ => exact nmX11
  | 12, _ => exact nmX12
  | k + 13, h => exact absurd h (by omega)
theorem az_y_ok : ∀ ci, ci < 13 → ∀ k, k < az_N ci → parseFieldDescriptor (az_T ci k).2.2.1 = some (az_y ci k) := by
  intro ci h
  match ci, h with
  | 0, _ => exact tyX0_ok
  | 1, _ => exact tyX1_ok
  | 2, _ => exact tyX2_ok
  | 3, _ => exact tyX3_ok
  | 4, _ => exact tyX4_ok
  | 5, _ => exact tyX5_ok
  | 6, _ => exact tyX6_ok
  | 7, _ => exact tyX7_ok
  | 8, _ => exact tyX8_ok
  | 9, _ => exact tyX9_ok
  | 10, _ => exact tyX10_ok
  | 11, _ => exact tyX11_ok
  | 12, _ => exact tyX12_ok
  | k + 13, h => exact absurd h (by omega)
/-- what a field holds: 0 an int (or less), 1 a long, 2 a reference -/
def az_fk : FieldType → Nat
  | .long => 1
  | .object _ => 2
  | .array _ => 2
  | _ => 0
/-- the words that every method has: the tables' good ones -/
def az_B : List Cond := lw_tbl.filter goodWord
theorem az_in {i : Nat} {w : Cond} (h : lw_tbl[i]? = some w) (hg : goodWord w = true) : w ∈ az_B := List.mem_filter.mpr ⟨List.mem_of_getElem? h, hg⟩
theorem az_good : ∀ w ∈ az_B, goodWord w = true := fun _ h => (List.mem_filter.mp h).2
theorem az_ws : ∀ ci, ci < 13 → ∀ w ∈ u_ws (az_R ci) (az_T ci) (az_N ci), w ∈ az_B := by
  intro ci h w hw
  refine List.mem_filter.mpr ?_
  revert w
  match ci, h with
  | 0, _ => decide +kernel
  | 1, _ => decide +kernel
  | 2, _ => decide +kernel
  | 3, _ => decide +kernel
  | 4, _ => decide +kernel
  | 5, _ => decide +kernel
  | 6, _ => decide +kernel
  | 7, _ => decide +kernel
  | 8, _ => decide +kernel
  | 9, _ => decide +kernel
  | 10, _ => decide +kernel
  | 11, _ => decide +kernel
  | 12, _ => decide +kernel
  | k + 13, h => exact absurd h (by omega)
/-- where a field of references points: cells in the order of making -/
def az_rt (ci k j : Nat) : Nat := match ci with
  | 0 => k + 1
  | 1 => (match j with | 2 => 1 | 3 => 19 | 4 => 7 | 5 => 13 | 6 => 22 | 7 => 24 | _ => 27)
  | 2 => (match j with | 0 => 29 | 4 => 1 | 5 => 19 | 6 => 30 | 7 => 32 | _ => 33)
  | 3 => k + 1 + j
  | 4 => k + 1
  | 5 => (match j with | 0 => 16 | _ => 5)
  | 6 => k + 1
  | 7 => (match j with | 4 => 1 | 5 => 19 | 6 => 35 | 7 => 37 | 8 => 38 | _ => 39)
  | 8 => (match j with | 1 => 3 | 2 => 13 | _ => 20)
  | 9 => k + 1
  | 10 => k + 1 + j
  | 11 => (match j with | 0 => 1 | 1 => 3 | 2 => 5 | 3 => 15 | 4 => 19 | 5 => 7 | 6 => 21 | 7 => 28 | 8 => 34 | 9 => 10 | 10 => 11 | _ => 12)
  | _ => (match j with | 2 => 41 | 3 => 42 | 4 => 43 | 5 => 44 | 6 => 45 | 7 => 46 | 9 => 47 | 10 => 48 | 12 => 49 | 22 => 50 | 24 => 51 | 25 => 52 | 27 => 53 | 28 => 54 | 31 => 55 | 32 => 56 | 33 => 57 | 35 => 58 | 36 => 59 | 37 => 60 | 42 => 61 | 43 => 62 | 44 => 63 | 45 => 64 | 46 => 65 | 49 => 66 | 50 => 67 | 51 => 68 | 52 => 69 | _ => 70)
/-- the cells that are there from the constructors on: kinds and lengths -/
def az_kd : List Nat := [11, 4, 13, 0, 16, 9, 13, 3, 13, 13, 17, 18, 13, 6, 13, 5, 10, 13, 13, 8, 13, 1, 4, 13, 3, 13, 13, 13, 2, 13, 4, 13, 13, 15, 7, 4, 13, 13, 13, 13, 12, 13, 13, 13, 15, 13, 13, 13, 13, 13, 13, 13, 13, 13, 13, 14, 14, 14, 14, 14, 14, 13, 13, 13, 13, 13, 13, 13, 15, 13, 13]
def az_ln : List Nat := [0, 0, 145, 0, 6, 0, 400, 0, 16, 2320, 2, 2, 5, 0, 51, 0, 0, 400, 72, 0, 11, 0, 0, 145, 0, 16, 2320, 28, 0, 6, 0, 145, 4, 1000, 0, 0, 145, 136, 128, 2176, 0, 7, 5550, 11100, 2, 3150, 16, 2400, 16, 400, 96, 400, 400, 400, 400, 11, 8, 5, 13, 13, 400, 4, 7, 7, 7, 1200, 3, 3, 1000, 96, 6]
/-- the world's fixed side: classes' numbers, array classes, addresses, kinds and lengths, how many, the statics' addresses -/
abbrev az_V : Type := va_G × (Nat → ClassId) × (Nat → Nat) × az_S × Nat × (Nat → Nat)
abbrev az_ad (V : az_V) : Nat → Nat := V.2.2.1
abbrev az_sh (V : az_V) : az_S := V.2.2.2.1
abbrev az_n (V : az_V) : Nat := V.2.2.2.2.1
def az_v (V : az_V) (M : az_M) (k j : Nat) : Value := match az_fk (az_y ((az_sh V).1 k) j) with
  | 0 => .int (M.1 k j)
  | 1 => .long (M.2.1 k j)
  | _ => .ref (az_ad V (az_rt ((az_sh V).1 k) k j))
def az_a (V : az_V) (M : az_M) (k : Nat) : (Nat → Int32) ⊕ (Nat → Int64) ⊕ (Nat → UInt32) ⊕ (Nat → UInt64) ⊕ (Nat → Option Nat) :=
  if (az_sh V).1 k = 14 then .inr (.inl (M.2.1 k)) else if (az_sh V).1 k < 16 then .inl (M.1 k) else .inr (.inr (.inr (.inr (fun j => (M.2.2 k j).map (az_ad V)))))
def az_cell (V : az_V) (M : az_M) (k : Nat) : va_E :=
  if (az_sh V).1 k < 13 then .inr ((az_sh V).1 k, (List.range (az_N ((az_sh V).1 k))).map (az_v V M k)) else .inl (V.2.1 ((az_sh V).1 k - 13), (az_sh V).2 k, az_a V M k)
def az_wl (V : az_V) (M : az_M) : va_W := (List.range (az_n V)).map (fun k => (az_ad V k, az_cell V M k))
abbrev az_tys (V : az_V) : List (ClassId × FieldType) := [(V.2.1 0, .int), (V.2.1 1, .long), (V.2.1 2, .boolean), (V.2.1 3, .object "OneBullet$Text"), (V.2.1 4, .object "OneBullet$Province"), (V.2.1 5, .object "OneBullet$Book")]
theorem az_wl_get {V : az_V} {M : az_M} {k : Nat} (h : k < az_n V) : (az_wl V M)[k]? = some (az_ad V k, az_cell V M k) := by
  simp only [az_wl, List.getElem?_map, List.getElem?_range h, Option.map_some]
theorem az_wl_set {V : az_V} {M M' : az_M} {k : Nat} {e : va_E} (h : k < az_n V) (he : az_cell V M' k = e) (ho : ∀ j, j ≠ k → az_cell V M' j = az_cell V M j) : (az_wl V M).set k (az_ad V k, e) = az_wl V M' := by
  apply List.ext_getElem?
  intro i
  rw [List.getElem?_set]
  by_cases hi : k = i
  · subst hi
    have hl : k < (az_wl V M).length := by simp only [az_wl, List.length_map, List.length_range]; exact h
    rw [if_pos rfl, if_pos hl, az_wl_get h, he]
  · rw [if_neg hi]
    simp only [az_wl, List.getElem?_map]
    by_cases hn : i < az_n V
    · rw [List.getElem?_range hn, Option.map_some, Option.map_some, ho i (fun q => hi q.symm)]
    · rw [List.getElem?_eq_none (by simpa using hn)]
      rfl
/-- new memories -/
def az_i (M : az_M) (k j : Nat) (v : Int32) : az_M := (fun q => if q = k then upd (M.1 k) j v else M.1 q, M.2)
def az_l (M : az_M) (k j : Nat) (v : Int64) : az_M := (M.1, fun q => if q = k then vp_updL (M.2.1 k) j v else M.2.1 q, M.2.2)
def az_q (M : az_M) (k j : Nat) (v : Option Nat) : az_M := (M.1, M.2.1, fun q => if q = k then va_up (M.2.2 k) j v else M.2.2 q)
def az_at (V : az_V) (k ci : Nat) : Prop := k < az_n V ∧ (az_sh V).1 k = ci
def az_ar (V : az_V) (k t len : Nat) : Prop := k < az_n V ∧ (az_sh V).1 k = 13 + t ∧ (az_sh V).2 k = len
theorem az_cell_obj {V : az_V} {M : az_M} {k ci : Nat} (h : az_at V k ci) (hc : ci < 13) : az_cell V M k = .inr (ci, (List.range (az_N ci)).map (az_v V M k)) := by
  obtain ⟨-, rfl⟩ := h
  rw [az_cell, if_pos hc]
theorem az_cell_int {V : az_V} {M : az_M} {k t len : Nat} (h : az_ar V k t len) (ht : t = 0 ∨ t = 2) : az_cell V M k = .inl (V.2.1 t, len, .inl (M.1 k)) := by
  obtain ⟨-, h1, h2⟩ := h
  rw [az_cell, if_neg (by omega), az_a, if_neg (by omega), if_pos (by omega), h1, h2, Nat.add_sub_cancel_left]
theorem az_cell_long {V : az_V} {M : az_M} {k len : Nat} (h : az_ar V k 1 len) : az_cell V M k = .inl (V.2.1 1, len, .inr (.inl (M.2.1 k))) := by
  obtain ⟨-, h1, h2⟩ := h
  rw [az_cell, if_neg (by omega), az_a, if_pos h1, h1, h2]
theorem az_cell_ref {V : az_V} {M : az_M} {k t len : Nat} (h : az_ar V k t len) (ht : 3 ≤ t) : az_cell V M k = .inl (V.2.1 t, len, .inr (.inr (.inr (.inr (fun j => (M.2.2 k j).map (az_ad V)))))) := by
  obtain ⟨-, h1, h2⟩ := h
  rw [az_cell, if_neg (by omega), az_a, if_neg (by omega), if_neg (by omega), h1, h2, Nat.add_sub_cancel_left]
theorem az_i_ne {M : az_M} {k j q : Nat} {v : Int32} (h : q ≠ k) : (az_i M k j v).1 q = M.1 q := by rw [az_i]; exact if_neg h
theorem az_i_eq {M : az_M} {k j : Nat} {v : Int32} : (az_i M k j v).1 k = upd (M.1 k) j v := by rw [az_i]; exact if_pos rfl
theorem az_l_ne {M : az_M} {k j q : Nat} {v : Int64} (h : q ≠ k) : (az_l M k j v).2.1 q = M.2.1 q := by rw [az_l]; exact if_neg h
theorem az_l_eq {M : az_M} {k j : Nat} {v : Int64} : (az_l M k j v).2.1 k = vp_updL (M.2.1 k) j v := by rw [az_l]; exact if_pos rfl
theorem az_q_ne {M : az_M} {k j q : Nat} {v : Option Nat} (h : q ≠ k) : (az_q M k j v).2.2 q = M.2.2 q := by rw [az_q]; exact if_neg h
theorem az_q_eq {M : az_M} {k j : Nat} {v : Option Nat} : (az_q M k j v).2.2 k = va_up (M.2.2 k) j v := by rw [az_q]; exact if_pos rfl
theorem az_v_cong {V : az_V} {M M' : az_M} {k : Nat} (h1 : M'.1 k = M.1 k) (h2 : M'.2.1 k = M.2.1 k) : az_v V M' k = az_v V M k := by
  funext j
  simp only [az_v, h1, h2]
theorem az_cell_cong {V : az_V} {M M' : az_M} {k : Nat} (h1 : M'.1 k = M.1 k) (h2 : M'.2.1 k = M.2.1 k) (h3 : M'.2.2 k = M.2.2 k) : az_cell V M' k = az_cell V M k := by
  simp only [az_cell, az_v_cong h1 h2, az_a, h1, h2, h3]
theorem az_set_i {V : az_V} {M : az_M} {k j : Nat} {v : Int32} (hk : k < az_n V) {e : va_E} (he : az_cell V (az_i M k j v) k = e) : (az_wl V M).set k (az_ad V k, e) = az_wl V (az_i M k j v) :=
  az_wl_set hk he (fun q hq => az_cell_cong (az_i_ne hq) rfl rfl)
theorem az_set_l {V : az_V} {M : az_M} {k j : Nat} {v : Int64} (hk : k < az_n V) {e : va_E} (he : az_cell V (az_l M k j v) k = e) : (az_wl V M).set k (az_ad V k, e) = az_wl V (az_l M k j v) :=
  az_wl_set hk he (fun q hq => az_cell_cong rfl (az_l_ne hq) rfl)
theorem az_set_q {V : az_V} {M : az_M} {k j : Nat} {v : Option Nat} (hk : k < az_n V) {e : va_E} (he : az_cell V (az_q M k j v) k = e) : (az_wl V M).set k (az_ad V k, e) = az_wl V (az_q M k j v) :=
  az_wl_set hk he (fun q hq => az_cell_cong rfl rfl (az_q_ne hq))
theorem az_i_2 {M : az_M} {k j : Nat} {v : Int32} : (az_i M k j v).2 = M.2 := rfl
theorem az_l_1 {M : az_M} {k j : Nat} {v : Int64} : (az_l M k j v).1 = M.1 := rfl
theorem az_l_22 {M : az_M} {k j : Nat} {v : Int64} : (az_l M k j v).2.2 = M.2.2 := rfl
theorem az_q_1 {M : az_M} {k j : Nat} {v : Option Nat} : (az_q M k j v).1 = M.1 := rfl
theorem az_q_21 {M : az_M} {k j : Nat} {v : Option Nat} : (az_q M k j v).2.1 = M.2.1 := rfl
/-- a list of fields with one of its ints, longs new -/
theorem az_fs_i {V : az_V} {M : az_M} {k j N : Nat} {v : Int32} (hj : j < N) (hf : az_fk (az_y ((az_sh V).1 k) j) = 0) : ((List.range N).map (az_v V M k)).set j (.int v) = (List.range N).map (az_v V (az_i M k j v) k) := by
  apply List.ext_getElem?
  intro i
  rw [List.getElem?_set]
  by_cases hi : j = i
  · subst hi
    rw [if_pos rfl, if_pos (by simpa using hj), List.getElem?_map, List.getElem?_range hj, Option.map_some]
    simp only [az_v, hf, az_i_eq, upd, if_pos]
  · rw [if_neg hi, List.getElem?_map, List.getElem?_map]
    by_cases hn : i < N
    · rw [List.getElem?_range hn, Option.map_some, Option.map_some]
      simp only [az_v, az_i_eq, az_i_2, upd, if_neg (fun q : i = j => hi q.symm)]
    · rw [List.getElem?_eq_none (by simpa using hn)]
      rfl
theorem az_fs_l {V : az_V} {M : az_M} {k j N : Nat} {v : Int64} (hj : j < N) (hf : az_fk (az_y ((az_sh V).1 k) j) = 1) : ((List.range N).map (az_v V M k)).set j (.long v) = (List.range N).map (az_v V (az_l M k j v) k) := by
  apply List.ext_getElem?
  intro i
  rw [List.getElem?_set]
  by_cases hi : j = i
  · subst hi
    rw [if_pos rfl, if_pos (by simpa using hj), List.getElem?_map, List.getElem?_range hj, Option.map_some]
    simp only [az_v, hf, az_l_eq, vp_updL, if_pos]
  · rw [if_neg hi, List.getElem?_map, List.getElem?_map]
    by_cases hn : i < N
    · rw [List.getElem?_range hn, Option.map_some, Option.map_some]
      simp only [az_v, az_l_eq, az_l_1, vp_updL, if_neg (fun q : i = j => hi q.symm)]
    · rw [List.getElem?_eq_none (by simpa using hn)]
      rfl
theorem az_in0 {i : Nat} {w : Cond} (h : (k2_sels lw_privs)[i]? = some w) (hg : goodWord w = true) : w ∈ az_B := List.mem_filter.mpr ⟨List.mem_append_left _ (List.mem_of_getElem? h), hg⟩
theorem az_in1 {i : Nat} {w : Cond} (h : tables_1_1[i]? = some w) (hg : goodWord w = true) : w ∈ az_B := List.mem_filter.mpr ⟨List.mem_append_right _ (show w ∈ tables_1 from (List.mem_append_left _ (List.mem_of_getElem? h))), hg⟩
theorem az_in2 {i : Nat} {w : Cond} (h : tables_1_2[i]? = some w) (hg : goodWord w = true) : w ∈ az_B := List.mem_filter.mpr ⟨List.mem_append_right _ (show w ∈ tables_1 from (List.mem_append_right _ (List.mem_append_left _ (List.mem_of_getElem? h)))), hg⟩
theorem az_in3 {i : Nat} {w : Cond} (h : tables_1_3[i]? = some w) (hg : goodWord w = true) : w ∈ az_B := List.mem_filter.mpr ⟨List.mem_append_right _ (show w ∈ tables_1 from (List.mem_append_right _ (List.mem_append_right _ (List.mem_append_left _ (List.mem_of_getElem? h))))), hg⟩
theorem az_in4 {i : Nat} {w : Cond} (h : tables_1_4[i]? = some w) (hg : goodWord w = true) : w ∈ az_B := List.mem_filter.mpr ⟨List.mem_append_right _ (show w ∈ tables_1 from (List.mem_append_right _ (List.mem_append_right _ (List.mem_append_right _ (List.mem_append_left _ (List.mem_of_getElem? h)))))), hg⟩
theorem az_in5 {i : Nat} {w : Cond} (h : tables_1_5[i]? = some w) (hg : goodWord w = true) : w ∈ az_B := List.mem_filter.mpr ⟨List.mem_append_right _ (show w ∈ tables_1 from (List.mem_append_right _ (List.mem_append_right _ (List.mem_append_right _ (List.mem_append_right _ (List.mem_append_left _ (List.mem_of_getElem? h))))))), hg⟩
theorem az_in6 {i : Nat} {w : Cond} (h : tables_1_6[i]? = some w) (hg : goodWord w = true) : w ∈ az_B := List.mem_filter.mpr ⟨List.mem_append_right _ (show w ∈ tables_1 from (List.mem_append_right _ (List.mem_append_right _ (List.mem_append_right _ (List.mem_append_right _ (List.mem_append_right _ (List.mem_append_left _ (List.mem_of_getElem? h)))))))), hg⟩
theorem az_in7 {i : Nat} {w : Cond} (h : tables_1_7[i]? = some w) (hg : goodWord w = true) : w ∈ az_B := List.mem_filter.mpr ⟨List.mem_append_right _ (show w ∈ tables_1 from (List.mem_append_right _ (List.mem_append_right _ (List.mem_append_right _ (List.mem_append_right _ (List.mem_append_right _ (List.mem_append_right _ (List.mem_append_left _ (List.mem_of_getElem? h))))))))), hg⟩
theorem az_in8 {i : Nat} {w : Cond} (h : tables_1_8[i]? = some w) (hg : goodWord w = true) : w ∈ az_B := List.mem_filter.mpr ⟨List.mem_append_right _ (show w ∈ tables_1 from (List.mem_append_right _ (List.mem_append_right _ (List.mem_append_right _ (List.mem_append_right _ (List.mem_append_right _ (List.mem_append_right _ (List.mem_append_right _ (List.mem_of_getElem? h))))))))), hg⟩
/-- a field's link: the class's number, the slot -/
def az_fl (own : String) (idx ci j : Nat) : Prop := ci < 13 ∧ j < az_N ci ∧ Cond.fieldLink own idx (az_T ci j).1 (az_T ci j).2.1 (az_T ci j).2.2.1 ∈ az_B
/-- the links of a call to an instance method, to a static one -/
def az_lV (own : String) (idx : Nat) (Cn : String) (y : MethodName) (bt : ByteArray) (mL : Nat) (rt : Option FieldType) (n : Nat) : Prop :=
  (Cond.methodLink own idx y ∈ az_B ∧ Cond.instanceMethod y ∈ az_B ∧ Cond.selects Cn y y ∈ az_B ∧ Cond.initialized Cn ∈ az_B ∧ Cond.code y bt mL rt ∈ az_B) ∧ (y.cls = Cn ∧ y.cls ≠ "java/lang/invoke/MethodHandle" ∧ y.cls ≠ "java/lang/invoke/VarHandle" ∧ (parseMethodDescriptor y.desc).map (fun d => d.parameters.length) = some n) ∧ mL ≤ 81
def az_lS (own : String) (idx : Nat) (y : MethodName) (bt : ByteArray) (mL : Nat) (rt : Option FieldType) (n : Nat) : Prop :=
  (Cond.methodLink own idx y ∈ az_B ∧ Cond.static y ∈ az_B ∧ Cond.initialized y.cls ∈ az_B ∧ Cond.code y bt mL rt ∈ az_B) ∧ (y.cls ≠ "java/lang/invoke/MethodHandle" ∧ y.cls ≠ "java/lang/invoke/VarHandle" ∧ (parseMethodDescriptor y.desc).map (fun d => d.parameters.length) = some n) ∧ mL ≤ 81
/-- links of Math's two, of arraycopy -/
def az_lM (own : String) (idx : Nat) (y : MethodName) (bt : ByteArray) : Prop := Cond.methodLink own idx y ∈ az_B ∧ Cond.static y ∈ az_B ∧ Cond.initialized "java/lang/Math" ∈ az_B ∧ Cond.code y bt 2 (some .int) ∈ az_B
def az_lA (own : String) (idx : Nat) : Prop := Cond.methodLink own idx arraycopyName ∈ az_B ∧ Cond.native arraycopyName ∈ az_B ∧ Cond.static arraycopyName ∈ az_B ∧ Cond.initialized "java/lang/System" ∈ az_B
/-- statics: the four arrays of ints -/
def az_st (i : Nat) : String := match i with
  | 0 => "BULLET_MOST" | 1 => "TERM_LEAST" | 2 => "TERM_MOST" | _ => "TOLD_MOST"
def az_sl (i : Nat) : List Int32 := match i with
  | 0 => [999, 99, 99] | 1 => [0, 1, 1, 1, 0] | 2 => [999, 4, 99, 9, 9] | _ => [10, 99, 99, 9999, 1]
