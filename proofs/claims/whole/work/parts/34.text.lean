/-! Text(Text) behind a world -/
section KZT
variable {Y : az_Y} {E : kz_D} {cc : ByteArray} {nL k n : Nat} {own : String} {rt : Option FieldType} {d : Nat} {Q : State → Prop} {ws ws2 : va_W} {pc : Nat} {lv lv' : List (Nat × Value)} {rest : List Value}
theorem kz_copy (C : kz_C Y E cc nL own rt d) (hd : 1 ≤ d) {idx a b la lb : Nat} (lk : az_lA own idx) (q0 q1 : Nat) {f g : Nat → Int32} (ha : ws[q0]? = some (a, .inl (E.2 0, la, .inl f))) (hb : ws[q1]? = some (b, .inl (E.2 0, lb, .inl g))) {sp dp m : Int32} (h1 : ¬ sp < 0) (h2 : ¬ dp < 0) (h3 : ¬ m < 0) (h4 : sp.toNatClampNeg + m.toNatClampNeg ≤ la) (h5 : dp.toNatClampNeg + m.toNatClampNeg ≤ lb) (hr : (rest.map fun v => v.category).sum ≤ 8) (hdg : decode cc pc = .ok (.invokestatic idx, 3)) (e2 : ws.set q1 (b, .inl (E.2 0, lb, .inl (va_cpy f g sp.toNatClampNeg dp.toNatClampNeg m.toNatClampNeg))) = ws2) (kk : KA Y E Q nL k n ws2 (pc + 3) lv rest) : KA Y E Q nL k n ws pc lv (.int m :: .int dp :: .ref b :: .int sp :: .ref a :: rest) := by
  subst e2
  have hR := C.hR
  have hfw : (rest.map fun v => v.category).sum + (nativeFrameWords "java/lang/System" "arraycopy" 5 + 11) ≤ Y.2.2.2.1.locals := by
    have e7 : nativeFrameWords "java/lang/System" "arraycopy" 5 = 7 := by decide
    rw [e7]
    omega
  exact fun H locs ls hH hl => va_copyi C.hx C.hb (C.hml.trans hl.1.symm) C.hown (C.hts _ lk.1) (C.hts _ lk.2.1) (C.hts _ lk.2.2.1) (C.hts _ lk.2.2.2) C.hK hH.1 hH.2.1 hH.2.2 q0 q1 0 0 ha hb rfl rfl rfl h1 h2 h3 h4 h5 (fun _ _ => rfl) (Nat.le_trans hd hR.1) hfw hdg (fun H1 locs1 hP hD hS => kk H1 locs1 ls ⟨hP, hD, hS⟩ hl)
theorem kz_alen (C : kz_C Y E cc nL own rt d) {a len : Nat} (q0 : Nat) {f : Nat → Int32} (he : ws[q0]? = some (a, .inl (E.2 0, len, .inl f))) (hdg : decode cc pc = .ok (.arraylength, 1)) (kk : KA Y E Q nL k n ws (pc + 1) lv (.int (Int32.ofNat len) :: rest)) : KA Y E Q nL k n ws pc lv (.ref a :: rest) :=
  fun H locs ls hH hl => va_alen C.hx C.hb C.hK hH.1 q0 0 (x := (len, .inl f)) he rfl rfl hdg (kk H locs ls hH hl)
end KZT
theorem rz_at {V : az_V} {M : az_M} {t : va_W} {k : Nat} {e : va_E} (h : k < az_n V) (he : az_cell V M k = e) : (az_wl V M ++ t)[k]? = some (az_ad V k, e) := by
  rw [List.getElem?_append_left (by rw [az_wl_len]; exact h), az_wl_get h, he]
theorem rz_n {V : az_V} {M : az_M} {t : va_W} (i : Nat) : (az_wl V M ++ t)[az_n V + i]? = t[i]? := by
  rw [List.getElem?_append_right (by rw [az_wl_len]; omega), az_wl_len, Nat.add_sub_cancel_left]
theorem rz_set {V : az_V} {M : az_M} {t : va_W} (i : Nat) (x : Nat × va_E) : (az_wl V M ++ t).set (az_n V + i) x = az_wl V M ++ t.set i x := by
  rw [List.set_append_right _ _ (by rw [az_wl_len]; omega), az_wl_len, Nat.add_sub_cancel_left]
theorem rz_text {V : az_V} {M : az_M} (h : az_at V 16 10) : az_cell V M 16 = .inr (10, [.ref (az_ad V 17), .ref (az_ad V 18), .int (M.1 16 2), .int (M.1 16 3)]) := by
  rw [az_cell_obj h (by decide)]
  show Sum.inr (10, [az_v V M 16 0, az_v V M 16 1, az_v V M 16 2, az_v V M 16 3]) = _
  rw [az_vr h rfl, az_vr h rfl, az_vi h rfl, az_vi h rfl]
  rfl
set_option maxHeartbeats 4000000 in
set_option maxRecDepth 100000 in
theorem k_X10_init_ {l : Launch} {V : az_V} {M : az_M} (hL : az_L V) (h0 : Nat) {N1 N2 : Nat} (g1 : ¬ M.1 16 2 < 0) (g2 : (M.1 16 2).toNatClampNeg = N1) (g3 : N1 ≤ 400) (g4 : ¬ M.1 16 3 * 6 < 0) (g5 : (M.1 16 3 * 6).toNatClampNeg = N2) (g6 : N2 ≤ 72) :
    kz_Ct l (V.1, V.2.1) yX10_init_ cX10_init_ 2 2 2 472 [.ref h0, .ref (az_ad V 16)] (az_wl V M ++ [(h0, .inr (10, [.null, .null, .int 0, .int 0]))]) (fun w => ∃ q1 q2 : Nat, w = az_wl V M ++ [(h0, .inr (10, [.ref q1, .ref q2, .int (M.1 16 2), .int (M.1 16 3)])), (q1, .inl (V.2.1 0, N1, .inl (va_cpy (M.1 17) (fun _ => 0) 0 0 N1))), (q2, .inl (V.2.1 0, N2, .inl (va_cpy (M.1 18) (fun _ => 0) 0 0 N2)))]) := by
  have o16 := hL.at 16 (ci := 10) rfl
  have a17 := hL.ar 17 (t := 0) (len := 400) rfl
  have a18 := hL.ar 18 (t := 0) (len := 72) rfl
  have e16 : ∀ t : va_W, (az_wl V M ++ t)[16]? = some (az_ad V 16, .inr (10, [.ref (az_ad V 17), .ref (az_ad V 18), .int (M.1 16 2), .int (M.1 16 3)])) := fun t => rz_at o16.1 (rz_text o16)
  have e17 : ∀ t : va_W, (az_wl V M ++ t)[17]? = some (az_ad V 17, .inl (V.2.1 0, 400, .inl (M.1 17))) := fun t => rz_at a17.1 (az_cell_int a17 (Or.inl rfl))
  have e18 : ∀ t : va_W, (az_wl V M ++ t)[18]? = some (az_ad V 18, .inl (V.2.1 0, 72, .inl (M.1 18))) := fun t => rz_at a18.1 (az_cell_int a18 (Or.inl rfl))
  refine kz_Ct.of (by decide) (Nat.le_of_ble_eq_true rfl) (fun Y hl hc hs hI C => ?_)
  show KA Y (V.1, V.2.1) _ 2 0 0 (az_wl V M ++ [(h0, .inr (10, [.null, .null, .int 0, .int 0]))]) 0 [(0, .ref h0), (1, .ref (az_ad V 16))] []
  refine kz_aload_n C 0 dX10_init__0 rfl ?_
  refine kz_obj C lo_X10_3 (by decide) dX10_init__1 ?_
  refine kz_aload_n C 0 dX10_init__4 rfl ?_
  refine kz_aload_n C 1 dX10_init__5 rfl ?_
  refine kz_get (v := .int (M.1 16 2)) C 16 (e16 _) fl_X10_18 rfl dX10_init__6 ?_
  refine kz_put (ws2 := az_wl V M ++ [(h0, .inr (10, [.null, .null, .int (M.1 16 2), .int 0]))]) C (az_n V + 0) (rz_n 0) fl_X10_18 rfl rfl rfl (Nat.le_of_ble_eq_true rfl) dX10_init__9 (rz_set 0 _) ?_
  refine kz_aload_n C 0 dX10_init__12 rfl ?_
  refine kz_aload_n C 1 dX10_init__13 rfl ?_
  refine kz_get (v := .int (M.1 16 3)) C 16 (e16 _) fl_X10_22 rfl dX10_init__14 ?_
  refine kz_put (ws2 := az_wl V M ++ [(h0, .inr (10, [.null, .null, .int (M.1 16 2), .int (M.1 16 3)]))]) C (az_n V + 0) (rz_n 0) fl_X10_22 rfl rfl rfl (Nat.le_of_ble_eq_true rfl) dX10_init__17 (rz_set 0 _) ?_
  refine kz_aload_n C 0 dX10_init__20 rfl ?_
  refine kz_aload_n C 0 dX10_init__21 rfl ?_
  refine kz_get (v := .int (M.1 16 2)) C (az_n V + 0) (rz_n 0) fl_X10_18 rfl dX10_init__22 ?_
  refine kz_newI (N := N1) C aw_int g1 g2 (by omega) (by omega) (by omega) dX10_init__25 (fun q1 => ?_)
  refine kz_eq (ws2 := az_wl V M ++ [(h0, .inr (10, [.null, .null, .int (M.1 16 2), .int (M.1 16 3)])), (q1, .inl (V.2.1 0, N1, .inl (fun _ => 0)))]) (by rw [List.append_assoc]; rfl) ?_
  refine kz_putF (ws2 := az_wl V M ++ [(h0, .inr (10, [.ref q1, .null, .int (M.1 16 2), .int (M.1 16 3)])), (q1, .inl (V.2.1 0, N1, .inl (fun _ => 0)))]) C hI (az_n V + 0) (rz_n 0) fl_X10_9 rfl rfl rfl rfl (Nat.le_of_ble_eq_true rfl) dX10_init__27 (rz_set 0 _) ?_
  refine kz_aload_n C 0 dX10_init__30 rfl ?_
  refine kz_aload_n C 0 dX10_init__31 rfl ?_
  refine kz_get (v := .int (M.1 16 3)) C (az_n V + 0) (rz_n 0) fl_X10_22 rfl dX10_init__32 ?_
  refine kz_bipush (v := 6) C dX10_init__35 (by decide) ?_
  refine kz_imul C dX10_init__37 ?_
  refine kz_newI (N := N2) C aw_int g4 g5 (by omega) (by omega) (by omega) dX10_init__38 (fun q2 => ?_)
  refine kz_eq (ws2 := az_wl V M ++ [(h0, .inr (10, [.ref q1, .null, .int (M.1 16 2), .int (M.1 16 3)])), (q1, .inl (V.2.1 0, N1, .inl (fun _ => 0))), (q2, .inl (V.2.1 0, N2, .inl (fun _ => 0)))]) (by rw [List.append_assoc]; rfl) ?_
  refine kz_putF (ws2 := az_wl V M ++ [(h0, .inr (10, [.ref q1, .ref q2, .int (M.1 16 2), .int (M.1 16 3)])), (q1, .inl (V.2.1 0, N1, .inl (fun _ => 0))), (q2, .inl (V.2.1 0, N2, .inl (fun _ => 0)))]) C hI (az_n V + 0) (rz_n 0) fl_X10_15 rfl rfl rfl rfl (Nat.le_of_ble_eq_true rfl) dX10_init__40 (rz_set 0 _) ?_
  refine kz_aload_n C 1 dX10_init__43 rfl ?_
  refine kz_get (v := .ref (az_ad V 17)) C 16 (e16 _) fl_X10_9 rfl dX10_init__44 ?_
  refine kz_iconst (v := 0) C dX10_init__47 (by decide) ?_
  refine kz_aload_n C 0 dX10_init__48 rfl ?_
  refine kz_get (v := .ref q1) C (az_n V + 0) (rz_n 0) fl_X10_9 rfl dX10_init__49 ?_
  refine kz_iconst (v := 0) C dX10_init__52 (by decide) ?_
  refine kz_aload_n C 0 dX10_init__53 rfl ?_
  refine kz_get (v := .int (M.1 16 2)) C (az_n V + 0) (rz_n 0) fl_X10_18 rfl dX10_init__54 ?_
  have c0 : (0 : Int32).toNatClampNeg = 0 := by decide
  refine kz_copy (ws2 := az_wl V M ++ [(h0, .inr (10, [.ref q1, .ref q2, .int (M.1 16 2), .int (M.1 16 3)])), (q1, .inl (V.2.1 0, N1, .inl (va_cpy (M.1 17) (fun _ => 0) 0 0 N1))), (q2, .inl (V.2.1 0, N2, .inl (fun _ => 0)))]) C (by decide) la_X10_25 17 (az_n V + 1) (e17 _) (rz_n 1) (by decide) (by decide) g1 (by rw [c0, g2]; omega) (by rw [c0, g2]; omega) (Nat.le_of_ble_eq_true rfl) dX10_init__57 (by rw [c0, g2]; exact rz_set 1 _) ?_
  refine kz_aload_n C 1 dX10_init__60 rfl ?_
  refine kz_get (v := .ref (az_ad V 18)) C 16 (e16 _) fl_X10_15 rfl dX10_init__61 ?_
  refine kz_iconst (v := 0) C dX10_init__64 (by decide) ?_
  refine kz_aload_n C 0 dX10_init__65 rfl ?_
  refine kz_get (v := .ref q2) C (az_n V + 0) (rz_n 0) fl_X10_15 rfl dX10_init__66 ?_
  refine kz_iconst (v := 0) C dX10_init__69 (by decide) ?_
  refine kz_aload_n C 0 dX10_init__70 rfl ?_
  refine kz_get (v := .ref q2) C (az_n V + 0) (rz_n 0) fl_X10_15 rfl dX10_init__71 ?_
  refine kz_alen C (az_n V + 2) (rz_n 2) dX10_init__74 ?_
  have c2 : (Int32.ofNat N2).toNatClampNeg = N2 := nI_clamp (by omega)
  have p2 : ¬ Int32.ofNat N2 < 0 := nI_pos (by omega)
  refine kz_copy (ws2 := az_wl V M ++ [(h0, .inr (10, [.ref q1, .ref q2, .int (M.1 16 2), .int (M.1 16 3)])), (q1, .inl (V.2.1 0, N1, .inl (va_cpy (M.1 17) (fun _ => 0) 0 0 N1))), (q2, .inl (V.2.1 0, N2, .inl (va_cpy (M.1 18) (fun _ => 0) 0 0 N2)))]) C (by decide) la_X10_25 18 (az_n V + 2) (e18 _) (rz_n 2) (by decide) (by decide) p2 (by rw [c0, c2]; omega) (by rw [c0, c2]; omega) (Nat.le_of_ble_eq_true rfl) dX10_init__75 (by rw [c0, c2]; exact rz_set 2 _) ?_
  exact kz_vret C (by decide) (by omega) dX10_init__78 ⟨q1, q2, rfl⟩
