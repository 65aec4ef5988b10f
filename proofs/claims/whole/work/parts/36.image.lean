/-! image() -/
theorem az_x_x (V : az_V) (a b : List (Nat × Nat × Nat)) : az_x (az_x V a) b = az_x V (a ++ b) := by
  have hg : ∀ (k : Nat) (z : Nat × Nat × Nat → Nat) (e : Nat), (if k < az_n V + a.length then (if k < az_n V then e else z (a.getD (k - az_n V) (0, 0, 0))) else z (b.getD (k - (az_n V + a.length)) (0, 0, 0))) = (if k < az_n V then e else z ((a ++ b).getD (k - az_n V) (0, 0, 0))) := by
    intro k z e
    by_cases h1 : k < az_n V
    · rw [if_pos (by omega), if_pos h1, if_pos h1]
    · rw [if_neg h1, if_neg h1]
      by_cases h2 : k < az_n V + a.length
      · rw [if_pos h2]
        simp only [List.getD_eq_getElem?_getD]
        rw [List.getElem?_append_left (by omega)]
      · rw [if_neg h2]
        simp only [List.getD_eq_getElem?_getD]
        rw [List.getElem?_append_right (by omega), show k - (az_n V + a.length) = k - az_n V - a.length by omega]
  have e1 : az_ad (az_x (az_x V a) b) = az_ad (az_x V (a ++ b)) := funext fun k => hg k (fun c => c.1) (az_ad V k)
  have e2 : (az_sh (az_x (az_x V a) b)).1 = (az_sh (az_x V (a ++ b))).1 := funext fun k => hg k (fun c => c.2.1) ((az_sh V).1 k)
  have e3 : (az_sh (az_x (az_x V a) b)).2 = (az_sh (az_x V (a ++ b))).2 := funext fun k => hg k (fun c => c.2.2) ((az_sh V).2 k)
  have e4 : az_n (az_x (az_x V a) b) = az_n (az_x V (a ++ b)) := by
    show az_n V + a.length + b.length = az_n V + (a ++ b).length
    rw [List.length_append, Nat.add_assoc]
  show (V.1, V.2.1, az_ad (az_x (az_x V a) b), ((az_sh (az_x (az_x V a) b)).1, (az_sh (az_x (az_x V a) b)).2), az_n (az_x (az_x V a) b), V.2.2.2.2.2) = _
  rw [e1, e2, e3, e4]
  rfl
/-- a reference into an array of objects of a class -/
theorem az_ast_o {Y : az_Y} {V : az_V} {cc : ByteArray} {nL : Nat} {own : String} {ret : Option FieldType} {d : Nat} {Q : State → Prop} {M : az_M} {pc : Nat} {lv : List (Nat × Value)} {rest : List Value} (C : az_C Y V cc nL own ret d) {a len k t b ci : Nat} (ha : az_ar V a t len) (ht : 3 ≤ t) (hci : ci < 13) (hty : (az_tys V)[t]? = some (V.2.1 t, .object (az_R ci))) {i : Int32} (hb : az_at V b ci) (hin : vp_in i len) (hk : i.toNatClampNeg = k) (hdg : decode cc pc = .ok (.aastore, 1)) (kk : AW Y V Q nL (az_q M a k (some b)) (pc + 1) lv rest) : AW Y V Q nL M pc lv (.ref (az_ad V b) :: .int i :: .ref (az_ad V a) :: rest) := by
  subst hk
  have hw : ∀ H locs, (va_P V.1 az_cl ((az_wl V M).set a (az_ad V a, .inl (V.2.1 t, len, .inr (.inr (.inr (.inr (va_up (fun j => (M.2.2 a j).map (az_ad V)) i.toNatClampNeg (some (az_ad V b))))))))) H → va_D (az_A Y) ((az_wl V M).set a (az_ad V a, .inl (V.2.1 t, len, .inr (.inr (.inr (.inr (va_up (fun j => (M.2.2 a j).map (az_ad V)) i.toNatClampNeg (some (az_ad V b))))))))) → va_S (az_A Y) (az_s Y).heap H locs → az_H Y V (az_q M a i.toNatClampNeg (some b)) H locs) := by
    intro H locs h1 h2 h3
    rw [az_set_q (v := some b) (j := i.toNatClampNeg) ha.1 (by rw [az_cell_ref ha ht, az_q_eq, az_upmap]; rfl)] at h1 h2
    exact ⟨h1, h2, h3⟩
  exact fun H locs ls hH hl => va_astq C.hx C.hb C.hK hH.1 hH.2.1 hH.2.2 a t b ci (r := (az_R ci, az_T ci, az_N ci)) ((az_wl_get ha.1).trans (congrArg (fun e => some (az_ad V a, e)) (az_cell_ref ha ht))) hty ((az_wl_get hb.1).trans (congrArg (fun e => some (az_ad V b, e)) (az_cell_obj hb hci))) (az_cl_at ci hci) hin hdg (fun H1 locs1 h1 h2 h3 => kk H1 locs1 ls (hw H1 locs1 h1 h2 h3) hl)
/-- a new province, a new book behind a memory -/
def az_mp (M : az_M) (n : Nat) : az_M := (fun q => if q = n + 1 then (fun _ => 0) else M.1 q, M.2)
def az_mb (M : az_M) (n : Nat) : az_M := (fun q => if q = n then (fun j => if j = 2 then -1 else 0) else M.1 q, M.2.1, fun q => if q = n + 1 then (fun _ => none) else M.2.2 q)
/-- both images' rows made anew -/
def az_mi (M : az_M) (n k : Nat) : az_M := az_q (az_mb (az_q (az_mp M n) 10 k (some n)) (n + 2)) 11 k (some (n + 2))
def f_X11_image_c (Z : az_S × Nat) (G : Nat) (k : Nat) (ks : List (Nat × Nat)) (M : az_M) : Option (Int32 × az_M × List (Nat × Nat)) :=
  ((M.2.2 10 k).bind fun t => (if az_pok Z t = true then ((f_X4_copy t 1 M).bind fun M2 => ((M2.2.2 11 k).bind fun u => (if az_bok Z u = true then ((f_X0_copy Z G u 3 M2).bind fun M3 => ((f_X11_settle 0 M3).bind fun q => some (q.1, q.2, ks))) else none))) else none))
def f_X11_image (Z : az_S × Nat) (G : Nat) (p0 : Int32) (M : az_M) : Option (Int32 × az_M × List (Nat × Nat)) :=
  if p0 < 0 then (f_X11_refuse (-1) M).bind fun q => some (q.1, q.2, [])
  else if p0 < 2 then
    (if M.2.2 10 p0.toNatClampNeg = none then f_X11_image_c (az_zx Z [(4, 0), (13, 145), (0, 0), (16, 6)]) G p0.toNatClampNeg [(4, 0), (13, 145), (0, 0), (16, 6)] (az_mi M Z.2 p0.toNatClampNeg)
    else if M.2.2 11 p0.toNatClampNeg = none then f_X11_image_c (az_zx Z [(4, 0), (13, 145), (0, 0), (16, 6)]) G p0.toNatClampNeg [(4, 0), (13, 145), (0, 0), (16, 6)] (az_mi M Z.2 p0.toNatClampNeg)
    else f_X11_image_c Z G p0.toNatClampNeg [] M)
  else (f_X11_refuse (-1) M).bind fun q => some (q.1, q.2, [])
set_option maxHeartbeats 8000000 in
set_option maxRecDepth 100000 in
theorem s_X11_image_59 {Y0 Y : az_Y} {V0 V : az_V} {r : Int32 × az_M × List (Nat × Nat)} (C : az_C Y V cX11_image 2 RX11 (some .int) 10) (hY : Y = az_Yc Y0 Y.2.2.2.2.2.2.2.2.2.2.2.1 Y.2.2.2.2.2.2.2.2.2.2.2.2) (h1 : Y.2.2.2.2.2.2.2.2.2.2.2.1 ≤ 4) (h2 : Y.2.2.2.2.2.2.2.2.2.2.2.2 ≤ 160) (G : Nat) (p0 : Int32) (hin : vp_in p0 2) (ks : List (Nat × Nat)) (hks : az_new V0 V ks) (M : az_M) (h : f_X11_image_c (az_z V) G p0.toNatClampNeg ks M = some r) : AW Y V (az_endX Y0 4 160 (fun v V' M' => v = some (.int r.1) ∧ M' = r.2.1 ∧ az_new V0 V' r.2.2)) 2 M 59 [(0, .ref (az_ad V 0)), (1, .int p0)] [] := by
  have o0 := C.hL.at 0 (ci := 11) rfl
  have a10 := C.hL.ar 10 (t := 4) (len := 2) rfl
  have a11 := C.hL.ar 11 (t := 5) (len := 2) rfl
  unfold f_X11_image_c at h
  obtain ⟨t, et, h⟩ := az_b h
  obtain ⟨gt, h⟩ := az_g2 h
  obtain ⟨M2, e2, h⟩ := az_b h
  obtain ⟨u, eu, h⟩ := az_b h
  obtain ⟨gu, h⟩ := az_g2 h
  obtain ⟨M3, e3, h⟩ := az_b h
  obtain ⟨q, eq, h⟩ := az_b h
  obtain rfl := Option.some.inj h
  have ht := az_pok.pv gt
  have hu := az_bok.bk gu
  refine az_aload_n C 0 dX11_image_59 rfl ?_
  refine az_getr (r := 10) C o0 fl_X11_39 rfl rfl dX11_image_60 ?_
  refine az_iload_n C 1 dX11_image_63 rfl ?_
  refine az_ald (k := p0.toNatClampNeg) C a10 (by decide) hin rfl dX11_image_64 ?_
  refine az_eqst (st' := [.ref (az_ad V t)]) (by rw [et]; rfl) ?_
  refine az_aload_n C 0 dX11_image_65 rfl ?_
  refine az_getr (r := 1) C o0 fl_X11_14 rfl rfl dX11_image_66 ?_
  refine az_cV (rest := []) (st2 := []) C [.ref (az_ad V 1)] (c_X4_copy C.hL t ht 1 (C.hL.pv 1 rfl) M e2) (by decide) li_X11_309 ht.1 (by decide) rfl rfl (Nat.le_of_ble_eq_true rfl) dX11_image_69 rfl ?_
  refine az_aload_n C 0 dX11_image_72 rfl ?_
  refine az_getr (r := 11) C o0 fl_X11_43 rfl rfl dX11_image_73 ?_
  refine az_iload_n C 1 dX11_image_76 rfl ?_
  refine az_ald (k := p0.toNatClampNeg) C a11 (by decide) hin rfl dX11_image_77 ?_
  refine az_eqst (st' := [.ref (az_ad V u)]) (by rw [eu]; rfl) ?_
  refine az_aload_n C 0 dX11_image_78 rfl ?_
  refine az_getr (r := 3) C o0 fl_X11_21 rfl rfl dX11_image_79 ?_
  refine az_cV (rest := []) (st2 := []) C [.ref (az_ad V 3)] (c_X0_copy C.hL G u hu 3 (C.hL.bk 3 rfl) M2 e3) (by decide) li_X11_313 hu.1 (by decide) rfl rfl (Nat.le_of_ble_eq_true rfl) dX11_image_82 rfl ?_
  refine az_aload_n C 0 dX11_image_85 rfl ?_
  refine az_iconst (v := 0) C dX11_image_86 (by decide) ?_
  refine az_cV (rest := []) (st2 := [.int q.1]) C [.int 0] (c_X11_settle C.hL 0 M3 eq) (by decide) li_X11_209 o0 (by decide) rfl rfl (Nat.le_of_ble_eq_true rfl) dX11_image_87 rfl ?_
  exact az_iretX C hY h1 h2 dX11_image_90 ⟨rfl, rfl, hks⟩
theorem az_same_mp {V : az_V} {M : az_M} : az_same (az_n V) M (az_mp M (az_n V)) := by
  intro k hk
  refine ⟨?_, rfl, rfl⟩
  show (if k = az_n V + 1 then _ else _) = _
  rw [if_neg (by omega)]
theorem az_same_mb {V : az_V} {M : az_M} : az_same (az_n V) M (az_mb M (az_n V)) := by
  intro k hk
  refine ⟨?_, rfl, ?_⟩
  · show (if k = az_n V then _ else _) = _
    rw [if_neg (by omega)]
  · show (if k = az_n V + 1 then _ else _) = _
    rw [if_neg (by omega)]
theorem az_rok_mp {V : az_V} {M : az_M} {q q1 j : Nat} (hL : az_L V) (h : az_rok V M) : az_rok (az_x V [(q, 4, 0), (q1, 13, 145)]) (az_q (az_mp M (az_n V)) 10 j (some (az_n V))) := by
  have hn : az_n (az_x V [(q, 4, 0), (q1, 13, 145)]) = az_n V + 2 := rfl
  have k0 := az_x_kd (V := V) (cs := [(q, 4, 0), (q1, 13, 145)]) 0
  have k1 := az_x_kd (V := V) (cs := [(q, 4, 0), (q1, 13, 145)]) 1
  have hc : ∀ k, k < az_n V + 2 → k < az_n V ∨ k = az_n V + 0 ∨ k = az_n V + 1 := fun k _ => by omega
  have hlow : ∀ k, k < az_n V → (az_sh (az_x V [(q, 4, 0), (q1, 13, 145)])).1 k = (az_sh V).1 k := fun k hk => if_pos hk
  have hl1 := hL.1
  refine ⟨fun k hk hk13 i hf => ?_, fun k hk hk16 i t ht => ?_⟩
  · rw [hn] at hk ⊢
    rcases hc k hk with h1 | rfl | rfl
    · rw [hlow k h1] at hk13 hf ⊢
      have := h.1 k h1 hk13 i hf
      omega
    · rw [k0]
      show az_n V + 0 + 1 < _
      omega
    · rw [k1] at hk13
      exact absurd (show (13 : Nat) < 13 from hk13) (by decide)
  · rw [hn] at hk ⊢
    rcases hc k hk with h1 | rfl | rfl
    · rw [hlow k h1] at hk16
      by_cases e : k = 10
      · subst e
        rw [az_q_eq] at ht
        by_cases ej : i = j
        · have : some (az_n V) = some t := by rw [← ht]; exact (if_pos ej).symm
          cases this
          omega
        · have : M.2.2 10 i = some t := by rw [← ht]; exact (if_neg ej).symm
          have := h.2 10 h1 hk16 i t this
          omega
      · rw [az_q_ne e] at ht
        have := h.2 k h1 hk16 i t ht
        omega
    · rw [k0] at hk16
      exact absurd (show (16 : Nat) ≤ 4 from hk16) (by decide)
    · rw [k1] at hk16
      exact absurd (show (16 : Nat) ≤ 13 from hk16) (by decide)
set_option maxHeartbeats 8000000 in
set_option maxRecDepth 100000 in
theorem s_X11_image_33 {Y0 Y : az_Y} {V : az_V} {r : Int32 × az_M × List (Nat × Nat)} (C : az_C Y V cX11_image 2 RX11 (some .int) 10) (hY : Y = az_Yc Y0 Y.2.2.2.2.2.2.2.2.2.2.2.1 Y.2.2.2.2.2.2.2.2.2.2.2.2) (y1 : Y.2.2.2.2.2.2.2.2.2.2.2.1 = 0) (y2 : Y.2.2.2.2.2.2.2.2.2.2.2.2 = 0) (hc : Y.2.2.2.1.cells = 4) (hs : Y.2.2.2.1.slots = 160) (G : Nat) (p0 : Int32) (hin : vp_in p0 2) (M : az_M) (hrok : az_rok V M) (h : f_X11_image_c (az_zx (az_z V) [(4, 0), (13, 145), (0, 0), (16, 6)]) G p0.toNatClampNeg [(4, 0), (13, 145), (0, 0), (16, 6)] (az_mi M (az_n V) p0.toNatClampNeg) = some r) : AW Y V (az_endX Y0 4 160 (fun v V' M' => v = some (.int r.1) ∧ M' = r.2.1 ∧ az_new V V' r.2.2)) 2 M 33 [(0, .ref (az_ad V 0)), (1, .int p0)] [] := by
  have o0 := C.hL.at 0 (ci := 11) rfl
  have hl1 := C.hL.1
  refine az_aload_n C 0 dX11_image_33 rfl ?_
  refine az_getr (r := 10) C o0 fl_X11_39 rfl rfl dX11_image_34 ?_
  refine az_iload_n C 1 dX11_image_37 rfl ?_
  refine az_mk (M' := az_mp M (az_n V)) (ci := 4) (d' := 2) (mc := 1) (ms := 145) (mL := 1) (post := fun q w => ∃ q1 : Nat, w = [(q, .inr (4, [.ref q1])), (q1, .inl (V.2.1 0, 145, .inl (fun _ => 0)))]) C hrok az_same_mp ln_X11_11 df_X4 lc_X11_13 (fun q => k_X4_init q) (by decide) (by omega) (by show _ + 1 + 145 ≤ _; omega) (Nat.le_of_ble_eq_true rfl) dX11_image_38 dX11_image_41 dX11_image_42 ?_
  intro q w hw
  obtain ⟨q1, rfl⟩ := hw
  refine ⟨[(q, 4, 0), (q1, 13, 145)], rfl, ?_, ?_⟩
  · have k0 := az_x_kd (V := V) (cs := [(q, 4, 0), (q1, 13, 145)]) 0
    have k1 := az_x_kd (V := V) (cs := [(q, 4, 0), (q1, 13, 145)]) 1
    have l1 := az_x_ln (V := V) (cs := [(q, 4, 0), (q1, 13, 145)]) 1
    have d1 := az_x_ad (V := V) (cs := [(q, 4, 0), (q1, 13, 145)]) 1
    have p0' : az_at (az_x V [(q, 4, 0), (q1, 13, 145)]) (az_n V + 0) 4 := ⟨by show az_n V + 0 < az_n V + 2; omega, k0⟩
    have p1' : az_ar (az_x V [(q, 4, 0), (q1, 13, 145)]) (az_n V + 1) 0 145 := ⟨by show az_n V + 1 < az_n V + 2; omega, k1, l1⟩
    show _ = [(q, az_cell _ _ (az_n V + 0)), (q1, az_cell _ _ (az_n V + 1))]
    rw [az_cell_obj p0' (by decide), az_cell_int p1' (Or.inl rfl)]
    show _ = [(q, Sum.inr (4, [az_v _ _ (az_n V + 0) 0])), _]
    rw [az_vr p0' rfl]
    show _ = [(q, Sum.inr (4, [Value.ref (az_ad _ (az_n V + 1))])), (q1, Sum.inl (V.2.1 0, 145, Sum.inl ((az_mp M (az_n V)).1 (az_n V + 1))))]
    rw [d1]
    have : (az_mp M (az_n V)).1 (az_n V + 1) = fun _ => 0 := if_pos rfl
    rw [this]
    rfl
  have C2 : az_C (az_Yc Y (Y.2.2.2.2.2.2.2.2.2.2.2.1 + 1 + 1) (Y.2.2.2.2.2.2.2.2.2.2.2.2 + az_N 4 + 145)) (az_x V [(q, 4, 0), (q1, 13, 145)]) cX11_image 2 RX11 (some .int) 10 := C.ext rfl rfl rfl (az_x_L C.hL) (by omega) (by show _ + 1 + 145 ≤ _; omega)
  have hrok2 := az_rok_mp (q := q) (q1 := q1) (j := p0.toNatClampNeg) C.hL hrok
  have hat : az_at (az_x V [(q, 4, 0), (q1, 13, 145)]) (az_n V) 4 := ⟨by show az_n V < az_n V + 2; omega, az_x_kd (V := V) (cs := [(q, 4, 0), (q1, 13, 145)]) 0⟩
  have ea0 : az_ad (az_x V [(q, 4, 0), (q1, 13, 145)]) 0 = az_ad V 0 := az_x_ad' (by omega)
  have ea10 : az_ad (az_x V [(q, 4, 0), (q1, 13, 145)]) 10 = az_ad V 10 := az_x_ad' (by omega)
  have hn2 : az_n (az_x V [(q, 4, 0), (q1, 13, 145)]) = az_n V + 2 := rfl
  generalize hV2 : az_x V [(q, 4, 0), (q1, 13, 145)] = V2 at C2 hrok2 hat ea0 ea10 hn2 ⊢
  generalize hY2 : az_Yc Y (Y.2.2.2.2.2.2.2.2.2.2.2.1 + 1 + 1) (Y.2.2.2.2.2.2.2.2.2.2.2.2 + az_N 4 + 145) = Y2 at C2 ⊢
  have z1 : Y2.2.2.2.2.2.2.2.2.2.2.2.1 = 2 := by rw [← hY2]; show _ + 1 + 1 = 2; omega
  have z2 : Y2.2.2.2.2.2.2.2.2.2.2.2.2 = 146 := by rw [← hY2]; show _ + 1 + 145 = 146; omega
  have zc : Y2.2.2.2.1.cells = 4 := by rw [← hY2]; exact hc
  have zs : Y2.2.2.2.1.slots = 160 := by rw [← hY2]; exact hs
  have zl : Y2.2.1 = Y.2.1 := by rw [← hY2]; rfl
  have zY : ∀ k n, az_Yc Y2 k n = az_Yc Y0 k n := by intro k n; rw [← hY2, hY]; rfl
  have b10 := C2.hL.ar 10 (t := 4) (len := 2) rfl
  have b0 := C2.hL.at 0 (ci := 11) rfl
  refine az_eqlv (lv' := [(0, .ref (az_ad V2 0)), (1, .int p0)]) (by rw [ea0]) ?_
  refine az_eqst (st' := [.ref (az_ad V2 (az_n V)), .int p0, .ref (az_ad V2 10)]) (by rw [ea10]) ?_
  refine az_ast_o (ci := 4) C2 b10 (by decide) (by decide) rfl hat hin rfl dX11_image_45 ?_
  refine az_aload_n C2 0 dX11_image_46 rfl ?_
  refine az_getr (r := 11) C2 b0 fl_X11_43 rfl rfl dX11_image_47 ?_
  refine az_iload_n C2 1 dX11_image_50 rfl ?_
  generalize hM2 : az_q (az_mp M (az_n V)) 10 p0.toNatClampNeg (some (az_n V)) = M2 at hrok2 ⊢
  refine az_mk (M' := az_mb M2 (az_n V2)) (ci := 0) (d' := 2) (mc := 1) (ms := 6) (mL := 1) (post := fun q w => ∃ q1 : Nat, w = [(q, .inr (0, [.ref q1, .int 0, .int (-1)])), (q1, .inl (V2.2.1 3, 6, .inr (.inr (.inr (.inr (fun _ => none))))))]) C2 hrok2 az_same_mb ln_X11_18 df_X0 lc_X11_20 (fun q => k_X0_init q) (by decide) (by omega) (by show _ + 3 + 6 ≤ _; omega) (Nat.le_of_ble_eq_true rfl) dX11_image_51 dX11_image_54 dX11_image_55 ?_
  intro qb w hw
  obtain ⟨qc, rfl⟩ := hw
  refine ⟨[(qb, 0, 0), (qc, 16, 6)], rfl, ?_, ?_⟩
  · have k0 := az_x_kd (V := V2) (cs := [(qb, 0, 0), (qc, 16, 6)]) 0
    have k1 := az_x_kd (V := V2) (cs := [(qb, 0, 0), (qc, 16, 6)]) 1
    have l1 := az_x_ln (V := V2) (cs := [(qb, 0, 0), (qc, 16, 6)]) 1
    have d1 := az_x_ad (V := V2) (cs := [(qb, 0, 0), (qc, 16, 6)]) 1
    have p0' : az_at (az_x V2 [(qb, 0, 0), (qc, 16, 6)]) (az_n V2 + 0) 0 := ⟨by show az_n V2 + 0 < az_n V2 + 2; omega, k0⟩
    have p1' : az_ar (az_x V2 [(qb, 0, 0), (qc, 16, 6)]) (az_n V2 + 1) 3 6 := ⟨by show az_n V2 + 1 < az_n V2 + 2; omega, k1, l1⟩
    show _ = [(qb, az_cell _ _ (az_n V2 + 0)), (qc, az_cell _ _ (az_n V2 + 1))]
    rw [az_cell_obj p0' (by decide), az_cell_ref p1' (by decide)]
    show _ = [(qb, Sum.inr (0, [az_v _ _ (az_n V2 + 0) 0, az_v _ _ (az_n V2 + 0) 1, az_v _ _ (az_n V2 + 0) 2])), _]
    rw [az_vr p0' rfl, az_vi p0' rfl, az_vi p0' rfl]
    have m0 : (az_mb M2 (az_n V2)).1 (az_n V2 + 0) = fun j => if j = 2 then -1 else 0 := if_pos rfl
    have m1 : (az_mb M2 (az_n V2)).2.2 (az_n V2 + 1) = fun _ => none := if_pos rfl
    rw [m0, m1]
    show _ = [(qb, Sum.inr (0, [Value.ref (az_ad _ (az_n V2 + 1)), _, _])), _]
    rw [d1]
    rfl
  have C3 : az_C (az_Yc Y2 (Y2.2.2.2.2.2.2.2.2.2.2.2.1 + 1 + 1) (Y2.2.2.2.2.2.2.2.2.2.2.2.2 + az_N 0 + 6)) (az_x V2 [(qb, 0, 0), (qc, 16, 6)]) cX11_image 2 RX11 (some .int) 10 := C2.ext rfl rfl rfl (az_x_L C2.hL) (by omega) (by show _ + 3 + 6 ≤ _; omega)
  have hat3 : az_at (az_x V2 [(qb, 0, 0), (qc, 16, 6)]) (az_n V2) 0 := ⟨by show az_n V2 < az_n V2 + 2; omega, az_x_kd (V := V2) (cs := [(qb, 0, 0), (qc, 16, 6)]) 0⟩
  have hl2 := C2.hL.1
  have fa0 : az_ad (az_x V2 [(qb, 0, 0), (qc, 16, 6)]) 0 = az_ad V2 0 := az_x_ad' (by omega)
  have fa11 : az_ad (az_x V2 [(qb, 0, 0), (qc, 16, 6)]) 11 = az_ad V2 11 := az_x_ad' (by omega)
  have hV3 : az_x V2 [(qb, 0, 0), (qc, 16, 6)] = az_x V [(q, 4, 0), (q1, 13, 145), (qb, 0, 0), (qc, 16, 6)] := by rw [← hV2, az_x_x]; rfl
  have hz3 : az_z (az_x V2 [(qb, 0, 0), (qc, 16, 6)]) = az_zx (az_z V) [(4, 0), (13, 145), (0, 0), (16, 6)] := by rw [hV3, az_z_x]; rfl
  have hnew : az_new V (az_x V2 [(qb, 0, 0), (qc, 16, 6)]) [(4, 0), (13, 145), (0, 0), (16, 6)] := Or.inr ⟨List.cons_ne_nil _ _, [(q, 4, 0), (q1, 13, 145), (qb, 0, 0), (qc, 16, 6)], rfl, hV3⟩
  generalize az_x V2 [(qb, 0, 0), (qc, 16, 6)] = V3 at C3 hat3 fa0 fa11 hz3 hnew ⊢
  have c11 := C3.hL.ar 11 (t := 5) (len := 2) rfl
  refine az_eqlv (lv' := [(0, .ref (az_ad V3 0)), (1, .int p0)]) (by rw [fa0]) ?_
  refine az_eqst (st' := [.ref (az_ad V3 (az_n V2)), .int p0, .ref (az_ad V3 11)]) (by rw [fa11]) ?_
  refine az_ast_o (ci := 0) C3 c11 (by decide) (by decide) rfl hat3 hin rfl dX11_image_58 ?_
  refine s_X11_image_59 C3 (zY _ _) ?_ ?_ G p0 hin _ hnew _ ?_
  · show _ + 1 + 1 ≤ 4
    omega
  · show _ + 3 + 6 ≤ 160
    omega
  · rw [hz3, ← hM2, hn2]
    exact h
set_option maxHeartbeats 8000000 in
set_option maxRecDepth 100000 in
theorem c_X11_image {l : Launch} {V : az_V} (G : Nat) (p0 : Int32) (M : az_M) (hrok : az_rok V M) {r : Int32 × az_M × List (Nat × Nat)} (h : f_X11_image (az_z V) G p0 M = some r) : az_CtX l V yX11_image cX11_image 2 (some .int) 10 4 160 [.ref (az_ad V 0), .int p0] M (fun v V' M' => v = some (.int r.1) ∧ M' = r.2.1 ∧ az_new V V' r.2.2) := by
  refine az_CtX.of (by decide) (Nat.le_of_ble_eq_true rfl) (fun Y hl hc hs y1 y2 C => ?_)
  have o0 := C.hL.at 0 (ci := 11) rfl
  have a10 := C.hL.ar 10 (t := 4) (len := 2) rfl
  have a11 := C.hL.ar 11 (t := 5) (len := 2) rfl
  have eY : Y = az_Yc Y Y.2.2.2.2.2.2.2.2.2.2.2.1 Y.2.2.2.2.2.2.2.2.2.2.2.2 := rfl
  show AW Y V _ 2 M 0 [(0, .ref (az_ad V 0)), (1, .int p0)] []
  have hno : ∀ q, f_X11_refuse (-1) M = some q → some (q.1, q.2, ([] : List (Nat × Nat))) = some r → AW Y V (az_endX Y 4 160 (fun v V' M' => v = some (.int r.1) ∧ M' = r.2.1 ∧ az_new V V' r.2.2)) 2 M 9 [(0, .ref (az_ad V 0)), (1, .int p0)] [] := by
    intro q e h
    obtain rfl := Option.some.inj h
    refine az_aload_n C 0 dX11_image_9 rfl ?_
    refine az_iconst (v := (-1)) C dX11_image_10 (by decide) ?_
    refine az_cV (rest := []) (st2 := [.int q.1]) C [.int (-1)] (c_X11_refuse C.hL (-1) M e) (by decide) li_X11_116 o0 (by decide) rfl rfl (Nat.le_of_ble_eq_true rfl) dX11_image_11 rfl ?_
    exact az_iretX C eY (by omega) (by omega) dX11_image_14 ⟨rfl, rfl, Or.inl ⟨rfl, rfl⟩⟩
  unfold f_X11_image at h
  refine az_iload_n C 1 dX11_image_0 rfl ?_
  refine az_if_lt C 9 dX11_image_1 (by decide) (fun c1 => ?_) (fun c1 => ?_)
  · have h := az_t c1 h
    obtain ⟨q, e, h⟩ := az_b h
    exact hno q e h
  · have h := az_f c1 h
    refine az_iload_n C 1 dX11_image_4 rfl ?_
    refine az_iconst (v := 2) C dX11_image_5 (by decide) ?_
    refine az_icmp_lt C 15 dX11_image_6 (by decide) (fun c2 => ?_) (fun c2 => ?_)
    · have h := az_t c2 h
      have hin : vp_in p0 2 := by
        refine vp_in_iff.mpr ⟨?_, ?_⟩
        · have := Int32.le_iff_toInt_le.mp (Int32.not_lt.mp c1); simpa using this
        · have := Int32.lt_iff_toInt_lt.mp c2; simpa using this
      refine az_aload_n C 0 dX11_image_15 rfl ?_
      refine az_getr (r := 10) C o0 fl_X11_39 rfl rfl dX11_image_16 ?_
      refine az_iload_n C 1 dX11_image_19 rfl ?_
      refine az_ald (k := p0.toNatClampNeg) C a10 (by decide) hin rfl dX11_image_20 ?_
      refine az_ifnull C 33 dX11_image_21 (by decide) (fun c3 => ?_) (fun c3 => ?_)
      · exact s_X11_image_33 C eY y1 y2 hc hs G p0 hin M hrok (az_t c3 h)
      · have h := az_f c3 h
        refine az_aload_n C 0 dX11_image_24 rfl ?_
        refine az_getr (r := 11) C o0 fl_X11_43 rfl rfl dX11_image_25 ?_
        refine az_iload_n C 1 dX11_image_28 rfl ?_
        refine az_ald (k := p0.toNatClampNeg) C a11 (by decide) hin rfl dX11_image_29 ?_
        refine az_ifnonnull C 59 dX11_image_30 (by decide) (fun c4 => ?_) (fun c4 => ?_)
        · exact s_X11_image_59 C eY (by omega) (by omega) G p0 hin [] (Or.inl ⟨rfl, rfl⟩) M (az_f c4 h)
        · exact s_X11_image_33 C eY y1 y2 hc hs G p0 hin M hrok (az_t c4 h)
    · have h := az_f c2 h
      obtain ⟨q, e, h⟩ := az_b h
      exact hno q e h
