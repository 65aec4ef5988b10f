/-! objects whose places aren't fixed; references that may be null; copies, statics, Math -/
def az_pv (V : az_V) (o : Nat) : Prop := az_at V o 4 ∧ az_ar V (o + 1) 0 145
def az_bk (V : az_V) (o : Nat) : Prop := az_at V o 0 ∧ az_ar V (o + 1) 3 6
def az_pa (V : az_V) (o : Nat) : Prop := az_at V o 3 ∧ az_ar V (o + 1) 0 16 ∧ az_ar V (o + 2) 0 2320
def az_tx (V : az_V) (o : Nat) : Prop := az_at V o 10 ∧ az_ar V (o + 1) 0 ((az_sh V).2 (o + 1)) ∧ az_ar V (o + 2) 0 ((az_sh V).2 (o + 2))
def az_ai (V : az_V) (o : Nat) : Prop := az_ar V o 0 ((az_sh V).2 o)
abbrev az_z (V : az_V) : az_S × Nat := (az_sh V, az_n V)
def az_pok (Z : az_S × Nat) (t : Nat) : Bool := decide (t + 1 < Z.2) && decide (Z.1.1 t = 4) && decide (Z.1.1 (t + 1) = 13) && decide (Z.1.2 (t + 1) = 145)
def az_bok (Z : az_S × Nat) (t : Nat) : Bool := decide (t + 1 < Z.2) && decide (Z.1.1 t = 0) && decide (Z.1.1 (t + 1) = 16) && decide (Z.1.2 (t + 1) = 6)
def az_tok (Z : az_S × Nat) (t : Nat) : Bool := decide (t + 2 < Z.2) && decide (Z.1.1 t = 10) && decide (Z.1.1 (t + 1) = 13) && decide (Z.1.1 (t + 2) = 13)
/-- a reference that may be kept in an array of TEXTS -/
def az_toko (Z : az_S × Nat) (e : Option Nat) : Bool := match e with
  | none => true
  | some t => az_tok Z t
theorem az_pok.pv {V : az_V} {t : Nat} (h : az_pok (az_z V) t = true) : az_pv V t := by
  simp only [az_pok, Bool.and_eq_true, decide_eq_true_eq] at h
  exact ⟨⟨Nat.lt_of_succ_lt h.1.1.1, h.1.1.2⟩, ⟨h.1.1.1, h.1.2, h.2⟩⟩
theorem az_bok.bk {V : az_V} {t : Nat} (h : az_bok (az_z V) t = true) : az_bk V t := by
  simp only [az_bok, Bool.and_eq_true, decide_eq_true_eq] at h
  exact ⟨⟨Nat.lt_of_succ_lt h.1.1.1, h.1.1.2⟩, ⟨h.1.1.1, h.1.2, h.2⟩⟩
theorem az_tok.tx {V : az_V} {t : Nat} (h : az_tok (az_z V) t = true) : az_tx V t := by
  simp only [az_tok, Bool.and_eq_true, decide_eq_true_eq] at h
  exact ⟨⟨by have := h.1.1.1; omega, h.1.1.2⟩, ⟨by have := h.1.1.1; omega, h.1.2, rfl⟩, ⟨h.1.1.1, h.2, rfl⟩⟩
theorem az_L.pv {V : az_V} (h : az_L V) (k : Nat) (hk : decide (k + 1 < 71) && decide (az_kd.getD k 0 = 4) && decide (az_kd.getD (k + 1) 0 = 13) && decide (az_ln.getD (k + 1) 0 = 145) = true) : az_pv V k := by
  simp only [Bool.and_eq_true, decide_eq_true_eq] at hk
  have h1 := h.1
  have h2 := h.2 k (by have := hk.1.1.1; omega)
  have h3 := h.2 (k + 1) hk.1.1.1
  exact ⟨⟨by have := hk.1.1.1; omega, h2.1.trans hk.1.1.2⟩, ⟨by have := hk.1.1.1; omega, h3.1.trans hk.1.2, h3.2.trans hk.2⟩⟩
theorem az_L.bk {V : az_V} (h : az_L V) (k : Nat) (hk : decide (k + 1 < 71) && decide (az_kd.getD k 0 = 0) && decide (az_kd.getD (k + 1) 0 = 16) && decide (az_ln.getD (k + 1) 0 = 6) = true) : az_bk V k := by
  simp only [Bool.and_eq_true, decide_eq_true_eq] at hk
  have h1 := h.1
  have h2 := h.2 k (by have := hk.1.1.1; omega)
  have h3 := h.2 (k + 1) hk.1.1.1
  exact ⟨⟨by have := hk.1.1.1; omega, h2.1.trans hk.1.1.2⟩, ⟨by have := hk.1.1.1; omega, h3.1.trans hk.1.2, h3.2.trans hk.2⟩⟩
theorem az_L.pa {V : az_V} (h : az_L V) (k : Nat) (hk : decide (k + 2 < 71) && decide (az_kd.getD k 0 = 3) && decide (az_kd.getD (k + 1) 0 = 13) && decide (az_ln.getD (k + 1) 0 = 16) && decide (az_kd.getD (k + 2) 0 = 13) && decide (az_ln.getD (k + 2) 0 = 2320) = true) : az_pa V k := by
  simp only [Bool.and_eq_true, decide_eq_true_eq] at hk
  have h1 := h.1
  have h0 := hk.1.1.1.1.1
  have h2 := h.2 k (by omega)
  have h3 := h.2 (k + 1) (by omega)
  have h4 := h.2 (k + 2) h0
  exact ⟨⟨by omega, h2.1.trans hk.1.1.1.1.2⟩, ⟨by omega, h3.1.trans hk.1.1.1.2, h3.2.trans hk.1.1.2⟩, ⟨by omega, h4.1.trans hk.1.2, h4.2.trans hk.2⟩⟩
theorem az_L.tx {V : az_V} (h : az_L V) (k : Nat) (hk : decide (k + 2 < 71) && decide (az_kd.getD k 0 = 10) && decide (az_kd.getD (k + 1) 0 = 13) && decide (az_kd.getD (k + 2) 0 = 13) = true) : az_tx V k := by
  simp only [Bool.and_eq_true, decide_eq_true_eq] at hk
  have h1 := h.1
  have h0 := hk.1.1.1
  have h2 := h.2 k (by omega)
  have h3 := h.2 (k + 1) (by omega)
  have h4 := h.2 (k + 2) h0
  exact ⟨⟨by omega, h2.1.trans hk.1.1.2⟩, ⟨by omega, h3.1.trans hk.1.2, rfl⟩, ⟨by omega, h4.1.trans hk.2, rfl⟩⟩
theorem az_L.ai {V : az_V} (h : az_L V) (k : Nat) (hk : decide (k < 71) && decide (az_kd.getD k 0 = 13) = true) : az_ai V k := by
  simp only [Bool.and_eq_true, decide_eq_true_eq] at hk
  have h1 := h.1
  have h2 := h.2 k hk.1
  exact ⟨by have := hk.1; omega, h2.1.trans hk.2, rfl⟩
/-- a copy of ints -/
def az_cp (M : az_M) (a sp b dp n : Nat) : az_M := (fun q => if q = b then va_cpy (M.1 a) (M.1 b) sp dp n else M.1 q, M.2)
theorem az_cp_ne {M : az_M} {a sp b dp n q : Nat} (h : q ≠ b) : (az_cp M a sp b dp n).1 q = M.1 q := by rw [az_cp]; exact if_neg h
theorem az_cp_eq {M : az_M} {a sp b dp n : Nat} : (az_cp M a sp b dp n).1 b = va_cpy (M.1 a) (M.1 b) sp dp n := by rw [az_cp]; exact if_pos rfl
section AZJ
variable {Y : az_Y} {V : az_V} {cc : ByteArray} {nL : Nat} {own : String} {ret : Option FieldType} {d : Nat} {Q : State → Prop} {M : az_M} {pc : Nat} {lv lv' : List (Nat × Value)} {rest : List Value}
theorem az_eqlv (h : lv = lv') (k : AW Y V Q nL M pc lv' rest) : AW Y V Q nL M pc lv rest := h ▸ k
theorem az_null (C : az_C Y V cc nL own ret d) (hdg : decode cc pc = .ok (.aconst_null, 1)) (k : AW Y V Q nL M (pc + 1) lv (va_rf ((none : Option Nat).map (az_ad V)) :: rest)) : AW Y V Q nL M pc lv rest := fun H locs ls hH hl => lv_null C.hx C.hb hdg (k H locs ls hH hl)
theorem az_aloadO_n (C : az_C Y V cc nL own ret d) {k0 : Fin 4} {o : Option Nat} (j : Nat) (hdg : decode cc pc = .ok (.aload_n k0, 1)) (hj : lv[j]? = some ((k0 : Nat), va_rf o)) (k : AW Y V Q nL M (pc + 1) lv (va_rf o :: rest)) : AW Y V Q nL M pc lv rest := by
  cases o with
  | none => exact fun H locs ls hH hl => lv_aload_nN C.hx C.hb hdg rfl (lv_at hl j hj) (k H locs ls hH hl)
  | some a => exact fun H locs ls hH hl => lv_aload_n C.hx C.hb hdg rfl (lv_at hl j hj) (k H locs ls hH hl)
theorem az_aloadO (C : az_C Y V cc nL own ret d) {i : Nat} {o : Option Nat} (j : Nat) (hdg : decode cc pc = .ok (.aload i, 2)) (hj : lv[j]? = some (i, va_rf o)) (k : AW Y V Q nL M (pc + 2) lv (va_rf o :: rest)) : AW Y V Q nL M pc lv rest := by
  cases o with
  | none => exact fun H locs ls hH hl => lv_aloadN C.hx C.hb hdg (lv_at hl j hj) (k H locs ls hH hl)
  | some a => exact fun H locs ls hH hl => lv_aload C.hx C.hb hdg (lv_at hl j hj) (k H locs ls hH hl)
theorem az_astoreO (C : az_C Y V cc nL own ret d) {i : Nat} {o : Option Nat} (hdg : decode cc pc = .ok (.astore i, 2)) (hn : i < nL) (hv : (i, va_rf o) :: lv.filter (fun q => !(q.1 == i) && !(q.1 + 1 == i && q.2.category == 2)) = lv') (k : AW Y V Q nL M (pc + 2) lv' rest) : AW Y V Q nL M pc lv (va_rf o :: rest) := by
  cases o with
  | none => exact fun H locs ls hH hl => lv_astoreN C.hx C.hb hdg hl hn hv (fun ls' hl' => k H locs ls' hH hl')
  | some a => exact fun H locs ls hH hl => lv_astore C.hx C.hb hdg hl hn hv (fun ls' hl' => k H locs ls' hH hl')
theorem az_astoreO_n (C : az_C Y V cc nL own ret d) {k0 : Fin 4} {i : Nat} {o : Option Nat} (hdg : decode cc pc = .ok (.astore_n k0, 1)) (hi : (k0 : Nat) = i) (hn : i < nL) (hv : (i, va_rf o) :: lv.filter (fun q => !(q.1 == i) && !(q.1 + 1 == i && q.2.category == 2)) = lv') (k : AW Y V Q nL M (pc + 1) lv' rest) : AW Y V Q nL M pc lv (va_rf o :: rest) := by
  cases o with
  | none => exact fun H locs ls hH hl => lv_astore_nN C.hx C.hb hdg hi hl hn hv (fun ls' hl' => k H locs ls' hH hl')
  | some a => exact fun H locs ls hH hl => lv_astore_n C.hx C.hb hdg hi hl hn hv (fun ls' hl' => k H locs ls' hH hl')
theorem az_ifnull (C : az_C Y V cc nL own ret d) {o : Option Nat} {off : Int} (tgt : Nat) (hdg : decode cc pc = .ok (.ifnull off, 3)) (ht : (pc : Int) + off = (tgt : Int)) (kt : o = none → AW Y V Q nL M tgt lv rest) (kf : ¬ o = none → AW Y V Q nL M (pc + 3) lv rest) : AW Y V Q nL M pc lv (va_rf (o.map (az_ad V)) :: rest) := by
  cases o with
  | none => exact fun H locs ls hH hl => lv_ifnullN C.hx C.hb hdg ht (kt rfl H locs ls hH hl)
  | some a => exact fun H locs ls hH hl => lv_ifnull C.hx C.hb hdg (kf (fun q => by cases q) H locs ls hH hl)
theorem az_ifnonnull (C : az_C Y V cc nL own ret d) {o : Option Nat} {off : Int} (tgt : Nat) (hdg : decode cc pc = .ok (.ifnonnull off, 3)) (ht : (pc : Int) + off = (tgt : Int)) (kt : ¬ o = none → AW Y V Q nL M tgt lv rest) (kf : o = none → AW Y V Q nL M (pc + 3) lv rest) : AW Y V Q nL M pc lv (va_rf (o.map (az_ad V)) :: rest) := by
  cases o with
  | none => exact fun H locs ls hH hl => lv_ifnonnullN C.hx C.hb hdg (kf rfl H locs ls hH hl)
  | some a => exact fun H locs ls hH hl => lv_ifnonnull C.hx C.hb hdg ht (kt (fun q => by cases q) H locs ls hH hl)
theorem az_ald (C : az_C Y V cc nL own ret d) {a t len k : Nat} (ha : az_ar V a t len) (ht : t = 3 ∨ t = 4 ∨ t = 5) {i : Int32} (hin : vp_in i len) (hk : i.toNatClampNeg = k) (hdg : decode cc pc = .ok (.aaload, 1)) (kk : AW Y V Q nL M (pc + 1) lv (va_rf ((M.2.2 a k).map (az_ad V)) :: rest)) : AW Y V Q nL M pc lv (.int i :: .ref (az_ad V a) :: rest) := by
  subst hk
  have h3 : 3 ≤ t := by omega
  rcases ht with rfl | rfl | rfl
  · exact fun H locs ls hH hl => va_aldq C.hx C.hb C.hK hH.1 a 3 ((az_wl_get ha.1).trans (congrArg (fun e => some (az_ad V a, e)) (az_cell_ref ha h3))) rfl hin hdg (kk H locs ls hH hl)
  · exact fun H locs ls hH hl => va_aldq C.hx C.hb C.hK hH.1 a 4 ((az_wl_get ha.1).trans (congrArg (fun e => some (az_ad V a, e)) (az_cell_ref ha h3))) rfl hin hdg (kk H locs ls hH hl)
  · exact fun H locs ls hH hl => va_aldq C.hx C.hb C.hK hH.1 a 5 ((az_wl_get ha.1).trans (congrArg (fun e => some (az_ad V a, e)) (az_cell_ref ha h3))) rfl hin hdg (kk H locs ls hH hl)
theorem az_upmap (f : Nat → Option Nat) (k : Nat) (e : Option Nat) (g : Nat → Nat) : (fun j => (va_up f k e j).map g) = va_up (fun j => (f j).map g) k (e.map g) := by
  funext j
  simp only [va_up]
  by_cases h : j = k <;> simp [h]
theorem az_ast_t (C : az_C Y V cc nL own ret d) {a len k : Nat} (ha : az_ar V a 3 len) {i : Int32} {e : Option Nat} (he : az_toko (az_z V) e = true) (hin : vp_in i len) (hk : i.toNatClampNeg = k) (hdg : decode cc pc = .ok (.aastore, 1)) (kk : AW Y V Q nL (az_q M a k e) (pc + 1) lv rest) : AW Y V Q nL M pc lv (va_rf (e.map (az_ad V)) :: .int i :: .ref (az_ad V a) :: rest) := by
  subst hk
  have hw : ∀ H locs, (va_P V.1 az_cl ((az_wl V M).set a (az_ad V a, .inl (V.2.1 3, len, .inr (.inr (.inr (.inr (va_up (fun j => (M.2.2 a j).map (az_ad V)) i.toNatClampNeg (e.map (az_ad V))))))))) H → va_D (az_A Y) ((az_wl V M).set a (az_ad V a, .inl (V.2.1 3, len, .inr (.inr (.inr (.inr (va_up (fun j => (M.2.2 a j).map (az_ad V)) i.toNatClampNeg (e.map (az_ad V))))))))) → va_S (az_A Y) (az_s Y).heap H locs → az_H Y V (az_q M a i.toNatClampNeg e) H locs) := by
    intro H locs h1 h2 h3
    rw [az_set_q (v := e) (j := i.toNatClampNeg) ha.1 (by rw [az_cell_ref ha (by omega), az_q_eq, az_upmap])] at h1 h2
    exact ⟨h1, h2, h3⟩
  cases e with
  | none => exact fun H locs ls hH hl => va_astqN C.hx C.hb C.hK hH.1 hH.2.1 hH.2.2 a 3 ((az_wl_get ha.1).trans (congrArg (fun e => some (az_ad V a, e)) (az_cell_ref ha (by omega)))) rfl hin hdg (fun H1 locs1 h1 h2 h3 => kk H1 locs1 ls (hw H1 locs1 h1 h2 h3) hl)
  | some t =>
    have ht : az_tx V t := az_tok.tx he
    exact fun H locs ls hH hl => va_astq C.hx C.hb C.hK hH.1 hH.2.1 hH.2.2 a 3 t 10 (r := (RX10, TX10, 4)) ((az_wl_get ha.1).trans (congrArg (fun e => some (az_ad V a, e)) (az_cell_ref ha (by omega)))) rfl ((az_wl_get ht.1.1).trans (congrArg (fun e => some (az_ad V t, e)) (az_cell_obj ht.1 (by omega)))) rfl hin hdg (fun H1 locs1 h1 h2 h3 => kk H1 locs1 ls (hw H1 locs1 h1 h2 h3) hl)
theorem az_copy (C : az_C Y V cc nL own ret d) (hd : 1 ≤ d) {idx a b la lb : Nat} (lk : az_lA own idx) (ha : az_ar V a 0 la) (hb : az_ar V b 0 lb) {sp dp n : Int32} (h1 : ¬ sp < 0) (h2 : ¬ dp < 0) (h3 : ¬ n < 0) (h4 : sp.toNatClampNeg + n.toNatClampNeg ≤ la) (h5 : dp.toNatClampNeg + n.toNatClampNeg ≤ lb) {i j k : Nat} (hi : sp.toNatClampNeg = i) (hj : dp.toNatClampNeg = j) (hk : n.toNatClampNeg = k) (hr : (rest.map fun v => v.category).sum ≤ 8) (hdg : decode cc pc = .ok (.invokestatic idx, 3)) (kk : AW Y V Q nL (az_cp M a i b j k) (pc + 3) lv rest) : AW Y V Q nL M pc lv (.int n :: .int dp :: .ref (az_ad V b) :: .int sp :: .ref (az_ad V a) :: rest) := by
  subst hi; subst hj; subst hk
  have hR := C.hR
  have hfw : (rest.map fun v => v.category).sum + (nativeFrameWords "java/lang/System" "arraycopy" 5 + 11) ≤ Y.2.2.2.1.locals := by
    have e7 : nativeFrameWords "java/lang/System" "arraycopy" 5 = 7 := by decide
    rw [e7]
    omega
  exact fun H locs ls hH hl => va_copyi C.hx C.hb (C.hml.trans hl.1.symm) C.hown (C.hts _ lk.1) (C.hts _ lk.2.1) (C.hts _ lk.2.2.1) (C.hts _ lk.2.2.2) C.hK hH.1 hH.2.1 hH.2.2 a b 0 0 ((az_wl_get ha.1).trans (congrArg (fun e => some (az_ad V a, e)) (az_cell_int ha (Or.inl rfl)))) ((az_wl_get hb.1).trans (congrArg (fun e => some (az_ad V b, e)) (az_cell_int hb (Or.inl rfl)))) rfl rfl rfl h1 h2 h3 h4 h5 (fun _ _ => rfl) (Nat.le_trans hd hR.1) hfw hdg (fun H1 locs1 hP hD hS => by
    rw [az_wl_set (M' := az_cp M a sp.toNatClampNeg b dp.toNatClampNeg n.toNatClampNeg) hb.1 (by rw [az_cell_int hb (Or.inl rfl), az_cp_eq]) (fun q hq => az_cell_cong (az_cp_ne hq) rfl rfl)] at hP hD
    exact kk H1 locs1 ls ⟨hP, hD, hS⟩ hl)
theorem az_max (C : az_C Y V cc nL own ret d) (hd : 1 ≤ d) {idx : Nat} {x y : Int32} (lk : az_lM own idx Lib.Math.max.name Lib.Math.max.code) (hr : (rest.map fun v => v.category).sum ≤ 8) (hdg : decode cc pc = .ok (.invokestatic idx, 3)) (kk : AW Y V Q nL M (pc + 3) lv (.int (if x < y then y else x) :: rest)) : AW Y V Q nL M pc lv (.int y :: .int x :: rest) := by
  have hR := C.hR
  exact fun H locs ls hH hl => va_mmax C.hx C.hb (C.hml.trans hl.1.symm) C.hown (C.hts _ lk.1) (C.hts _ lk.2.1) (C.hts _ lk.2.2.1) (C.hts _ lk.2.2.2) (Nat.le_trans hd hR.1) (by omega) hR.2.2.1 hR.2.2.2 hdg (kk H locs ls hH hl)
theorem az_min (C : az_C Y V cc nL own ret d) (hd : 1 ≤ d) {idx : Nat} {x y : Int32} (lk : az_lM own idx Lib.Math.min.name Lib.Math.min.code) (hr : (rest.map fun v => v.category).sum ≤ 8) (hdg : decode cc pc = .ok (.invokestatic idx, 3)) (kk : AW Y V Q nL M (pc + 3) lv (.int (if y < x then y else x) :: rest)) : AW Y V Q nL M pc lv (.int y :: .int x :: rest) := by
  have hR := C.hR
  exact fun H locs ls hH hl => va_mmin C.hx C.hb (C.hml.trans hl.1.symm) C.hown (C.hts _ lk.1) (C.hts _ lk.2.1) (C.hts _ lk.2.2.1) (C.hts _ lk.2.2.2) (Nat.le_trans hd hR.1) (by omega) hR.2.2.1 hR.2.2.2 hdg (kk H locs ls hH hl)
theorem az_gst (C : az_C Y V cc nL own ret d) {idx i : Nat} (hi : i < 4) (hw : Cond.fieldLink own idx "OneBullet" (az_st i) "[I" ∈ az_B) (hdg : decode cc pc = .ok (.getstatic idx, 3)) (kk : AW Y V Q nL M (pc + 3) lv (.ref (V.2.2.2.2.2 i) :: rest)) : AW Y V Q nL M pc lv rest :=
  fun H locs ls hH hl => va_gets C.hx C.hb (C.hE.1 i hi).1 hH.2.2 C.hown (C.hts _ hw) (fun _ h => h) hdg (kk H locs ls hH hl)
theorem az_gstN (C : az_C Y V cc nL RX8 ret d) (hdg : decode cc pc = .ok (.getstatic 54, 3)) (kk : AW Y V Q nL M (pc + 3) lv (.ref (V.2.2.2.2.2 3) :: rest)) : AW Y V Q nL M pc lv rest :=
  fun H locs ls hH hl => va_getsN C.hx C.hb (C.hE.1 3 (by decide)).1 hH.2.2 C.hown (va_Nw.use rfl C.hE.2.2.2.2.1) (fun _ h => h) hdg (kk H locs ls hH hl)
theorem az_gld (C : az_C Y V cc nL own ret d) {g len : Nat} (hg : g < 4) (hlen : (az_sl g).length = len) {i : Int32} (hin : vp_in i len) {k : Nat} (hk : i.toNatClampNeg = k) (hdg : decode cc pc = .ok (.iaload, 1)) (kk : AW Y V Q nL M (pc + 1) lv (.int ((az_sl g).getD k 0) :: rest)) : AW Y V Q nL M pc lv (.int i :: .ref (V.2.2.2.2.2 g) :: rest) := by
  subst hk; subst hlen
  exact fun H locs ls hH hl => va_ti C.hx C.hb (C.hE.1 g hg).2 hH.2.2 hin rfl hdg (kk H locs ls hH hl)
theorem az_gln (C : az_C Y V cc nL own ret d) {g : Nat} (hg : g < 4) {v : Int32} (hv : Int32.ofNat (az_sl g).length = v) (hdg : decode cc pc = .ok (.arraylength, 1)) (kk : AW Y V Q nL M (pc + 1) lv (.int v :: rest)) : AW Y V Q nL M pc lv (.ref (V.2.2.2.2.2 g) :: rest) :=
  fun H locs ls hH hl => va_tlen C.hx C.hb (C.hE.1 g hg).2 hH.2.2 hv hdg (kk H locs ls hH hl)
end AZJ
theorem az_oret {Y : az_Y} {V : az_V} {cc : ByteArray} {nL : Nat} {own Cn : String} {d : Nat} {M : az_M} {pc : Nat} {lv : List (Nat × Value)} {post : Option Value → az_M → Prop} (C : az_C Y V cc nL own (some (.object Cn)) d) {e : Option Nat} (hdg : decode cc pc = .ok (.areturn, 1)) (hp : post (some (va_rf (e.map (az_ad V)))) M) : AW Y V (az_end Y V post) nL M pc lv [va_rf (e.map (az_ad V))] :=
  fun H locs ls hH hl => W.aret C.hx C.hb C.hr (Or.inl ⟨_, rfl⟩) (by cases e with | none => exact Or.inl rfl | some a => exact Or.inr ⟨_, rfl⟩) (fun t ht hW => ⟨⟨_, M, rfl, hp, by rw [ht]; exact hH.1, hH.2.1⟩, hH.2.2.F ht⟩) hH.2.2.2.2 hdg (hlocks := C.hlk)
