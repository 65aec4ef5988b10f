/-! METHODS THAT MAKE CELLS: law(), image() -/
def az_QX (post : Option Value → az_V → az_M → Prop) (A : Nat → Prop) : Array Value → State → Outcome → State → Prop := fun _ st oc t => (∃ (v : Option Value) (V : az_V) (M : az_M), oc = .returned v ∧ post v V M ∧ va_P V.1 az_cl (az_wl V M) t.heap ∧ va_D A (az_wl V M)) ∧ va_F A st t
def az_CtX (l : Launch) (V : az_V) (y : MethodName) (bt : ByteArray) (mL : Nat) (ret : Option FieldType) (d mc ms : Nat) (av : List Value) (M : az_M) (post : Option Value → az_V → az_M → Prop) : Prop :=
  ∀ sz, Met l y (.code y bt mL ret :: az_B) (kz_rm d mc ms) (va_Pc av (az_pre V M sz)) (az_QX post (az_F V sz)) mc ms (az_F V sz)
def az_endX (Y : az_Y) (mc ms : Nat) (post : Option Value → az_V → az_M → Prop) : State → Prop := MQ (az_below Y) (az_QX post (az_A Y)) (az_args Y) (az_s Y) mc ms (az_A Y)
theorem az_CtX.of {l : Launch} {V : az_V} {y : MethodName} {bt : ByteArray} {mL : Nat} {ret : Option FieldType} {d mc ms : Nat} {av : List Value} {M : az_M} {post : Option Value → az_V → az_M → Prop} (hy : plainName y.cls = true) (hav : (lg_sl av).length ≤ mL)
    (body : ∀ Y : az_Y, Y.2.1 = l → Y.2.2.2.1.cells = mc → Y.2.2.2.1.slots = ms → Y.2.2.2.2.2.2.2.2.2.2.2.1 = 0 → Y.2.2.2.2.2.2.2.2.2.2.2.2 = 0 → az_C Y V bt mL y.cls ret d → AW Y V (az_endX Y mc ms post) mL M 0 (lv_args 0 av) []) : az_CtX l V y bt mL ret d mc ms av M post := by
  intro sz
  refine Met.ofW (cc := bt) (maxL := mL) (ret := ret) hy rfl ?_
  intro p e s m args below meth c s₁ B hml hv
  obtain ⟨rfl, hsz, hP, hK, hD0, hE, hL⟩ := hv
  have hts := atoms_spec (ws := Cond.code y bt mL ret :: az_B) B.pre
  have hown : s.vm.findClass y.cls = some m.cls := findClass_of_methodNamed B.named
  subst hsz
  have hl := lv_entry av (n := mL) hav
  rw [lg_entry_eq]
  exact body (p, l, e, (headSpec (Cond.code y bt mL ret :: az_B) (kz_rm d mc ms)).room, s, m, av.toArray, below, meth, c, az_F V s.heap.size, 0, 0) rfl rfl rfl rfl rfl
    ⟨⟨B.exec, B.bytes, hml, hown, fun w hw => hts w (List.mem_cons_of_mem _ hw)⟩, B.returns, B.notSynchronized, hK, hE, fun q h => Or.inr h, ⟨Nat.le_refl _, Nat.le_refl _, Nat.zero_le _, Nat.zero_le _⟩, hL⟩
    s.heap [] _ ⟨hP, az_D_F _ hD0, va_S.rf⟩ hl
theorem az_iretX {Y Y0 : az_Y} {V : az_V} {cc : ByteArray} {nL : Nat} {own : String} {d mc ms : Nat} {M : az_M} {pc : Nat} {lv : List (Nat × Value)} {post : Option Value → az_V → az_M → Prop} (C : az_C Y V cc nL own (some .int) d) {v : Int32} (hY : Y = az_Yc Y0 Y.2.2.2.2.2.2.2.2.2.2.2.1 Y.2.2.2.2.2.2.2.2.2.2.2.2) (h1 : Y.2.2.2.2.2.2.2.2.2.2.2.1 ≤ mc) (h2 : Y.2.2.2.2.2.2.2.2.2.2.2.2 ≤ ms) (hdg : decode cc pc = .ok (.ireturn, 1)) (hp : post (some (.int v)) V M) : AW Y V (az_endX Y0 mc ms post) nL M pc lv [.int v] := by
  have e : az_endX Y0 mc ms post = az_endX Y mc ms post := by rw [hY]; rfl
  rw [e]
  exact fun H locs ls hH hl => W.widen h1 h2 (W.iret (v := v) C.hx C.hb C.hr (fun t ht hW => ⟨⟨_, V, M, rfl, hp, by rw [ht]; exact hH.1, hH.2.1⟩, hH.2.2.F ht⟩) hH.2.2.2.2 hdg (hlocks := C.hlk))
/-- shapes with more cells: kind and length of each -/
def az_zx (Z : az_S × Nat) (ks : List (Nat × Nat)) : az_S × Nat := ((fun k => if k < Z.2 then Z.1.1 k else (ks.getD (k - Z.2) (0, 0)).1, fun k => if k < Z.2 then Z.1.2 k else (ks.getD (k - Z.2) (0, 0)).2), Z.2 + ks.length)
theorem az_z_x (V : az_V) (cs : List (Nat × Nat × Nat)) : az_z (az_x V cs) = az_zx (az_z V) (cs.map (fun c => c.2)) := by
  have h : ∀ i, (cs.map (fun c => c.2)).getD i (0, 0) = (cs.getD i (0, 0, 0)).2 := by
    intro i
    simp only [List.getD_eq_getElem?_getD, List.getElem?_map]
    cases cs[i]? <;> rfl
  show ((_, _), _) = ((_, _), _)
  simp only [az_zx, h, List.length_map]
  rfl
/-- the memory with a copy of the read TEXT behind it -/
def az_mt (M : az_M) (n N1 N2 : Nat) : az_M := (fun q => if q = n then (fun j => if j = 2 then M.1 16 2 else if j = 3 then M.1 16 3 else 0) else if q = n + 1 then va_cpy (M.1 17) (fun _ => 0) 0 0 N1 else if q = n + 2 then va_cpy (M.1 18) (fun _ => 0) 0 0 N2 else M.1 q, M.2)
def f_X11_law (Z : az_S × Nat) (G : Nat) (M : az_M) : Option (Int32 × az_M × List (Nat × Nat)) :=
  if (M.1 3 1) < 6 then
    ((f_X5_read Z G 0 M).bind fun q1 => if (az_i (az_i q1.2 0 13 q1.1) 5 1 0).1 0 13 = (-1) then
      (if (az_i (az_i q1.2 0 13 q1.1) 5 1 0).1 16 2 < 0 ∨ 400 < ((az_i (az_i q1.2 0 13 q1.1) 5 1 0).1 16 2).toNatClampNeg then none else
      if (az_i (az_i q1.2 0 13 q1.1) 5 1 0).1 16 3 * 6 < 0 ∨ 72 < ((az_i (az_i q1.2 0 13 q1.1) 5 1 0).1 16 3 * 6).toNatClampNeg then none else
      ((f_X0_add (az_zx Z [(10, 0), (13, ((az_i (az_i q1.2 0 13 q1.1) 5 1 0).1 16 2).toNatClampNeg), (13, ((az_i (az_i q1.2 0 13 q1.1) 5 1 0).1 16 3 * 6).toNatClampNeg)]) 3 Z.2 (az_mt (az_i (az_i q1.2 0 13 q1.1) 5 1 0) Z.2 ((az_i (az_i q1.2 0 13 q1.1) 5 1 0).1 16 2).toNatClampNeg ((az_i (az_i q1.2 0 13 q1.1) 5 1 0).1 16 3 * 6).toNatClampNeg)).bind fun q2 => (f_X11_settle q2.1 q2.2).bind fun q3 => some (q3.1, q3.2, [(10, 0), (13, ((az_i (az_i q1.2 0 13 q1.1) 5 1 0).1 16 2).toNatClampNeg), (13, ((az_i (az_i q1.2 0 13 q1.1) 5 1 0).1 16 3 * 6).toNatClampNeg)])))
    else (f_X11_refuse (-6) (az_i (az_i q1.2 0 13 q1.1) 5 1 0)).bind fun q2 => some (q2.1, q2.2, []))
  else (f_X11_refuse (-5) (az_i M 5 1 0)).bind fun q1 => some (q1.1, q1.2, [])
/-- what comes of the world behind a method that may make cells -/
def az_new (V V' : az_V) (ks : List (Nat × Nat)) : Prop := (ks = [] ∧ V' = V) ∨ (ks ≠ [] ∧ ∃ cs : List (Nat × Nat × Nat), cs.map (fun c => c.2) = ks ∧ V' = az_x V cs)
theorem az_rok_i {V : az_V} {M : az_M} {k j : Nat} {v : Int32} (h : az_rok V M) : az_rok V (az_i M k j v) := h
theorem az_same_mt {V : az_V} {M : az_M} {N1 N2 : Nat} : az_same (az_n V) M (az_mt M (az_n V) N1 N2) := by
  intro k hk
  refine ⟨?_, rfl, rfl⟩
  show (if k = az_n V then _ else _) = _
  rw [if_neg (by omega), if_neg (by omega), if_neg (by omega)]
theorem az_mt_0 {M : az_M} {n N1 N2 : Nat} : (az_mt M n N1 N2).1 n = fun j => if j = 2 then M.1 16 2 else if j = 3 then M.1 16 3 else 0 := if_pos rfl
theorem az_mt_1 {M : az_M} {n N1 N2 : Nat} : (az_mt M n N1 N2).1 (n + 1) = va_cpy (M.1 17) (fun _ => 0) 0 0 N1 := by
  show (if n + 1 = n then _ else _) = _
  rw [if_neg (by omega), if_pos rfl]
theorem az_mt_2 {M : az_M} {n N1 N2 : Nat} : (az_mt M n N1 N2).1 (n + 2) = va_cpy (M.1 18) (fun _ => 0) 0 0 N2 := by
  show (if n + 2 = n then _ else _) = _
  rw [if_neg (by omega), if_neg (by omega), if_pos rfl]
theorem rz_obj11 {V : az_V} {M : az_M} (h : az_at V 0 11) : az_cell V M 0 = .inr (11, (List.range 16).map (az_v V M 0)) := az_cell_obj h (by decide)
set_option maxHeartbeats 8000000 in
set_option maxRecDepth 100000 in
theorem c_X11_law {l : Launch} {V : az_V} (G : Nat) (M : az_M) {r : Int32 × az_M × List (Nat × Nat)} (hro : ∀ q, f_X5_read (az_z V) G 0 M = some q → az_rok V q.2) (h : f_X11_law (az_z V) G M = some r) : az_CtX l V yX11_law cX11_law 1 (some .int) 94 3 476 [.ref (az_ad V 0)] M (fun v V' M' => v = some (.int r.1) ∧ M' = r.2.1 ∧ az_new V V' r.2.2) := by
  refine az_CtX.of (by decide) (Nat.le_of_ble_eq_true rfl) (fun Y hl hc hs y1 y2 C => ?_)
  have o0 := C.hL.at 0 (ci := 11) rfl
  have o3 := C.hL.at 3 (ci := 0) rfl
  have o5 := C.hL.at 5 (ci := 9) rfl
  have o15 := C.hL.at 15 (ci := 5) rfl
  have eY : Y = az_Yc Y Y.2.2.2.2.2.2.2.2.2.2.2.1 Y.2.2.2.2.2.2.2.2.2.2.2.2 := rfl
  show AW Y V _ 1 M 0 [(0, .ref (az_ad V 0))] []
  unfold f_X11_law at h
  refine az_aload_n C 0 dX11_law_0 rfl ?_
  refine az_getr (r := 3) C o0 fl_X11_21 rfl rfl dX11_law_1 ?_
  refine az_geti C o3 fl_X11_189 rfl dX11_law_4 ?_
  refine az_bipush (v := 6) C dX11_law_7 (by decide) ?_
  refine az_icmp_lt C 27 dX11_law_9 (by decide) (fun c1 => ?_) (fun c1 => ?_)
  · have h := az_t c1 h
    refine az_aload_n C 0 dX11_law_27 rfl ?_
    refine az_aload_n C 0 dX11_law_28 rfl ?_
    refine az_getr (r := 15) C o0 fl_X11_75 rfl rfl dX11_law_29 ?_
    refine az_iconst (v := 0) C dX11_law_32 (by decide) ?_
    obtain ⟨q1, e1, h⟩ := az_b h
    refine az_cV (rest := [.ref (az_ad V 0)]) (st2 := [.int q1.1, .ref (az_ad V 0)]) C [.int 0] (c_X5_read C.hL G 0 M e1) (by decide) li_X11_192 o15 (by decide) rfl rfl (Nat.le_of_ble_eq_true rfl) dX11_law_33 rfl ?_
    have hq := hro q1 e1
    refine az_puti C o0 fl_X11_55 rfl rfl rfl rfl dX11_law_36 ?_
    refine az_aload_n C 0 dX11_law_39 rfl ?_
    refine az_getr (r := 5) C o0 fl_X11_28 rfl rfl dX11_law_40 ?_
    refine az_iconst (v := 0) C dX11_law_43 (by decide) ?_
    refine az_puti C o5 fl_X11_183 rfl rfl rfl rfl dX11_law_44 ?_
    refine az_aload_n C 0 dX11_law_47 rfl ?_
    refine az_geti C o0 fl_X11_55 rfl dX11_law_48 ?_
    refine az_iconst (v := (-1)) C dX11_law_51 (by decide) ?_
    have hq2 : az_rok V (az_i (az_i q1.2 0 13 q1.1) 5 1 0) := hq
    generalize az_i (az_i q1.2 0 13 q1.1) 5 1 0 = M1 at h hq2 ⊢
    refine az_icmp_eq C 62 dX11_law_52 (by decide) (fun c2 => ?_) (fun c2 => ?_)
    · have h := az_t c2 h
      obtain ⟨g1, h⟩ := az_g h
      obtain ⟨g2, h⟩ := az_g h
      obtain ⟨q2, e2, h⟩ := az_b h
      obtain ⟨q3, e3, h⟩ := az_b h
      obtain rfl := Option.some.inj h
      generalize hN1 : (M1.1 16 2).toNatClampNeg = N1 at g1 e2 ⊢
      generalize hN2 : (M1.1 16 3 * 6).toNatClampNeg = N2 at g2 e2 ⊢
      have hn1 : N1 ≤ 400 := Nat.not_lt.mp fun z => g1 (Or.inr z)
      have hn2 : N2 ≤ 72 := Nat.not_lt.mp fun z => g2 (Or.inr z)
      refine az_aload_n C 0 dX11_law_62 rfl ?_
      refine az_aload_n C 0 dX11_law_63 rfl ?_
      refine az_getr (r := 3) C o0 fl_X11_21 rfl rfl dX11_law_64 ?_
      refine az_of_kz (E := (V.1, V.2.1)) rfl ?_
      have K := C.kz
      refine kz_new (fs := [.null, .null, .int 0, .int 0]) K ln_X11_196 df_X10 (by omega) (by show _ + 4 ≤ _; omega) dX11_law_67 (fun q => ?_)
      refine kz_dup K dX11_law_70 rfl ?_
      refine kz_aload_n K 0 dX11_law_71 rfl ?_
      refine kz_get (v := .ref (az_ad V 15)) K 0 (rz_at o0.1 (rz_obj11 o0)) fl_X11_75 ((az_get_v (by decide)).trans (congrArg some (az_vr o0 rfl))) dX11_law_72 ?_
      refine kz_get (v := .ref (az_ad V 16)) K 15 (rz_at o15.1 (az_cell_obj o15 (by decide))) fl_X11_198 ((az_get_v (by decide)).trans (congrArg some (az_vr o15 rfl))) dX11_law_75 ?_
      refine kz_init (wr := []) (wc := az_wl V M1 ++ [(q, .inr (10, [.null, .null, .int 0, .int 0]))]) (rest := [.ref q, .ref (az_ad V 3), .ref (az_ad V 0)]) K [.ref (az_ad V 16)] (k_X10_init_ C.hL q (fun z => g1 (Or.inl z)) hN1 hn1 (fun z => g2 (Or.inl z)) hN2 hn2) (by decide) lc_X11_202 (List.range (az_wl V M1 ++ [(q, Sum.inr (10, [Value.null, .null, .int 0, .int 0]))]).length) [] (rz_nd _) (by have := rz_map (az_wl V M1 ++ [(q, Sum.inr (10, [Value.null, .null, .int 0, .int 0]))]) []; rw [List.append_nil] at this; exact this) rfl rfl (by intro i hi; cases hi) rfl rfl (Nat.le_of_ble_eq_true rfl) dX11_law_78 (by omega) (by show _ + 4 + 472 ≤ _; omega) (fun w1 hp => ?_)
      obtain ⟨q1', q2', rfl⟩ := hp
      have ecs : az_wl (az_x V [(q, 10, 0), (q1', 13, N1), (q2', 13, N2)]) (az_mt M1 (az_n V) N1 N2) = az_wl V M1 ++ [(q, .inr (10, [.ref q1', .ref q2', .int (M1.1 16 2), .int (M1.1 16 3)])), (q1', .inl (V.2.1 0, N1, .inl (va_cpy (M1.1 17) (fun _ => 0) 0 0 N1))), (q2', .inl (V.2.1 0, N2, .inl (va_cpy (M1.1 18) (fun _ => 0) 0 0 N2)))] := by
        rw [az_wl_x hq2 az_same_mt]
        congr 1
        have k0 := az_x_kd (V := V) (cs := [(q, 10, 0), (q1', 13, N1), (q2', 13, N2)]) 0
        have k1 := az_x_kd (V := V) (cs := [(q, 10, 0), (q1', 13, N1), (q2', 13, N2)]) 1
        have k2 := az_x_kd (V := V) (cs := [(q, 10, 0), (q1', 13, N1), (q2', 13, N2)]) 2
        have l1 := az_x_ln (V := V) (cs := [(q, 10, 0), (q1', 13, N1), (q2', 13, N2)]) 1
        have l2 := az_x_ln (V := V) (cs := [(q, 10, 0), (q1', 13, N1), (q2', 13, N2)]) 2
        have d1 := az_x_ad (V := V) (cs := [(q, 10, 0), (q1', 13, N1), (q2', 13, N2)]) 1
        have d2 := az_x_ad (V := V) (cs := [(q, 10, 0), (q1', 13, N1), (q2', 13, N2)]) 2
        have p0 : az_at (az_x V [(q, 10, 0), (q1', 13, N1), (q2', 13, N2)]) (az_n V + 0) 10 := ⟨by show az_n V + 0 < az_n V + 3; omega, k0⟩
        have p1 : az_ar (az_x V [(q, 10, 0), (q1', 13, N1), (q2', 13, N2)]) (az_n V + 1) 0 N1 := ⟨by show az_n V + 1 < az_n V + 3; omega, k1, l1⟩
        have p2 : az_ar (az_x V [(q, 10, 0), (q1', 13, N1), (q2', 13, N2)]) (az_n V + 2) 0 N2 := ⟨by show az_n V + 2 < az_n V + 3; omega, k2, l2⟩
        show [(q, az_cell _ _ (az_n V + 0)), (q1', az_cell _ _ (az_n V + 1)), (q2', az_cell _ _ (az_n V + 2))] = _
        rw [az_cell_obj p0 (by decide), az_cell_int p1 (Or.inl rfl), az_cell_int p2 (Or.inl rfl), az_mt_1, az_mt_2]
        show [(q, Sum.inr (10, [az_v _ _ (az_n V + 0) 0, az_v _ _ (az_n V + 0) 1, az_v _ _ (az_n V + 0) 2, az_v _ _ (az_n V + 0) 3])), _, _] = _
        rw [az_vr p0 rfl, az_vr p0 rfl, az_vi p0 rfl, az_vi p0 rfl]
        show [(q, Sum.inr (10, [Value.ref (az_ad _ (az_n V + 1)), Value.ref (az_ad _ (az_n V + 2)), Value.int ((az_mt M1 (az_n V) N1 N2).1 (az_n V) 2), Value.int ((az_mt M1 (az_n V) N1 N2).1 (az_n V) 3)])), _, _] = _
        rw [d1, d2, az_mt_0]
        rfl
      refine kz_of_az (V := az_x V [(q, 10, 0), (q1', 13, N1), (q2', 13, N2)]) (M := az_mt M1 (az_n V) N1 N2) rfl (by rw [ecs]; rfl) ?_
      have C2 : az_C (az_Yc Y (Y.2.2.2.2.2.2.2.2.2.2.2.1 + 1 + 2) (Y.2.2.2.2.2.2.2.2.2.2.2.2 + az_N 10 + 472)) (az_x V [(q, 10, 0), (q1', 13, N1), (q2', 13, N2)]) cX11_law 1 RX11 (some .int) 94 := C.ext rfl rfl rfl (az_x_L C.hL) (by omega) (by show _ + 4 + 472 ≤ _; omega)
      have lt0 : 0 < az_n V := o0.1
      have lt3 : 3 < az_n V := o3.1
      have ea0 : az_ad (az_x V [(q, 10, 0), (q1', 13, N1), (q2', 13, N2)]) 0 = az_ad V 0 := az_x_ad' lt0
      have ea3 : az_ad (az_x V [(q, 10, 0), (q1', 13, N1), (q2', 13, N2)]) 3 = az_ad V 3 := az_x_ad' lt3
      have ean : az_ad (az_x V [(q, 10, 0), (q1', 13, N1), (q2', 13, N2)]) (az_n V) = q := az_x_ad (V := V) (cs := [(q, 10, 0), (q1', 13, N1), (q2', 13, N2)]) 0
      have htx : az_tx (az_x V [(q, 10, 0), (q1', 13, N1), (q2', 13, N2)]) (az_n V) := by
        refine ⟨⟨by show az_n V < az_n V + 3; omega, az_x_kd (V := V) (cs := [(q, 10, 0), (q1', 13, N1), (q2', 13, N2)]) 0⟩, ⟨by show az_n V + 1 < az_n V + 3; omega, az_x_kd (V := V) (cs := [(q, 10, 0), (q1', 13, N1), (q2', 13, N2)]) 1, rfl⟩, ⟨by show az_n V + 2 < az_n V + 3; omega, az_x_kd (V := V) (cs := [(q, 10, 0), (q1', 13, N1), (q2', 13, N2)]) 2, rfl⟩⟩
      have e2' : f_X0_add (az_z (az_x V [(q, 10, 0), (q1', 13, N1), (q2', 13, N2)])) 3 (az_n V) (az_mt M1 (az_n V) N1 N2) = some q2 := by rw [az_z_x]; exact e2
      generalize hV2 : az_x V [(q, 10, 0), (q1', 13, N1), (q2', 13, N2)] = V2 at C2 htx e2' ea0 ea3 ean ⊢
      refine az_eqlv (lv' := [(0, .ref (az_ad V2 0))]) (by rw [ea0]) ?_
      refine az_eqst (st' := [.ref (az_ad V2 (az_n V)), .ref (az_ad V2 3), .ref (az_ad V2 0)]) (by rw [ea0, ea3, ean]) ?_
      have b0 := C2.hL.at 0 (ci := 11) rfl
      have b3 := C2.hL.bk 3 rfl
      refine az_cV (rest := [.ref (az_ad V2 0)]) (st2 := [.int q2.1, .ref (az_ad V2 0)]) C2 [.ref (az_ad V2 (az_n V))] (c_X0_add C2.hL 3 b3 (az_n V) htx (az_mt M1 (az_n V) N1 N2) e2') (by decide) li_X11_205 b3.1 (by decide) rfl rfl (Nat.le_of_ble_eq_true rfl) dX11_law_81 rfl ?_
      refine az_cV (rest := []) (st2 := [.int q3.1]) C2 [.int q2.1] (c_X11_settle C2.hL q2.1 q2.2 e3) (by decide) li_X11_209 b0 (by decide) rfl rfl (Nat.le_of_ble_eq_true rfl) dX11_law_84 rfl ?_
      refine az_iretX C2 rfl ?_ ?_ dX11_law_87 ⟨rfl, rfl, Or.inr ⟨List.cons_ne_nil _ _, [(q, 10, 0), (q1', 13, N1), (q2', 13, N2)], rfl, hV2.symm⟩⟩
      · show Y.2.2.2.2.2.2.2.2.2.2.2.1 + 1 + 2 ≤ 3
        omega
      · show Y.2.2.2.2.2.2.2.2.2.2.2.2 + 4 + 472 ≤ 476
        omega
    · have h := az_f c2 h
      obtain ⟨q2, e2, h⟩ := az_b h
      obtain rfl := Option.some.inj h
      refine az_aload_n C 0 dX11_law_55 rfl ?_
      refine az_bipush (v := (-6)) C dX11_law_56 (by decide) ?_
      refine az_cV (rest := []) (st2 := [.int q2.1]) C [.int (-6)] (c_X11_refuse C.hL (-6) M1 e2) (by decide) li_X11_116 o0 (by decide) rfl rfl (Nat.le_of_ble_eq_true rfl) dX11_law_58 rfl ?_
      exact az_iretX C eY (by omega) (by omega) dX11_law_61 ⟨rfl, rfl, Or.inl ⟨rfl, rfl⟩⟩
  · have h := az_f c1 h
    obtain ⟨q1, e1, h⟩ := az_b h
    obtain rfl := Option.some.inj h
    refine az_aload_n C 0 dX11_law_12 rfl ?_
    refine az_getr (r := 5) C o0 fl_X11_28 rfl rfl dX11_law_13 ?_
    refine az_iconst (v := 0) C dX11_law_16 (by decide) ?_
    refine az_puti C o5 fl_X11_183 rfl rfl rfl rfl dX11_law_17 ?_
    refine az_aload_n C 0 dX11_law_20 rfl ?_
    refine az_bipush (v := (-5)) C dX11_law_21 (by decide) ?_
    refine az_cV (rest := []) (st2 := [.int q1.1]) C [.int (-5)] (c_X11_refuse C.hL (-5) (az_i M 5 1 0) e1) (by decide) li_X11_116 o0 (by decide) rfl rfl (Nat.le_of_ble_eq_true rfl) dX11_law_23 rfl ?_
    exact az_iretX C eY (by omega) (by omega) dX11_law_26 ⟨rfl, rfl, Or.inl ⟨rfl, rfl⟩⟩
