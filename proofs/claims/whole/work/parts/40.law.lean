/-! THE LAW'S LOOP: rules -/
/-- references stay within, by shapes alone -/
def az_rokz (Z : az_S × Nat) (M : az_M) : Prop := (∀ k, k < Z.2 → Z.1.1 k < 13 → ∀ j, az_fk (az_y (Z.1.1 k) j) = 2 → az_rt (Z.1.1 k) k j < Z.2) ∧ ∀ k, k < Z.2 → 16 ≤ Z.1.1 k → ∀ j t, M.2.2 k j = some t → t < Z.2
def az_zn (Z : az_S × Nat) (ks : List (Nat × Nat)) : az_S × Nat := if ks = [] then Z else az_zx Z ks
theorem az_new.z {V V' : az_V} {ks : List (Nat × Nat)} (h : az_new V V' ks) : az_z V' = az_zn (az_z V) ks := by
  rcases h with ⟨rfl, rfl⟩ | ⟨hn, cs, rfl, rfl⟩
  · rfl
  · rw [az_zn, if_neg hn, az_z_x]
theorem az_new.e1 {V V' : az_V} {ks : List (Nat × Nat)} (h : az_new V V' ks) : V'.1 = V.1 := by
  rcases h with ⟨rfl, rfl⟩ | ⟨hn, cs, rfl, rfl⟩ <;> rfl
theorem az_new.e2 {V V' : az_V} {ks : List (Nat × Nat)} (h : az_new V V' ks) : V'.2.1 = V.2.1 := by
  rcases h with ⟨rfl, rfl⟩ | ⟨hn, cs, rfl, rfl⟩ <;> rfl
theorem az_new.e3 {V V' : az_V} {ks : List (Nat × Nat)} (h : az_new V V' ks) : V'.2.2.2.2.2 = V.2.2.2.2.2 := by
  rcases h with ⟨rfl, rfl⟩ | ⟨hn, cs, rfl, rfl⟩ <;> rfl
theorem az_new.L {V V' : az_V} {ks : List (Nat × Nat)} (h : az_new V V' ks) (hL : az_L V) : az_L V' := by
  rcases h with ⟨rfl, rfl⟩ | ⟨hn, cs, rfl, rfl⟩
  · exact hL
  · exact az_x_L hL
theorem az_new.ad {V V' : az_V} {ks : List (Nat × Nat)} (h : az_new V V' ks) (hL : az_L V) : ∀ k, k < 71 → az_ad V' k = az_ad V k := by
  intro k hk
  rcases h with ⟨rfl, rfl⟩ | ⟨hn, cs, rfl, rfl⟩
  · rfl
  · exact az_x_ad' (Nat.lt_of_lt_of_le hk hL.1)
/-- the script -/
def az_sc (Y : az_Y) (b L : Nat) (xs : Nat → Int32) : Prop := va_X b L xs (az_s Y) (az_s Y).heap ∧ b < (az_s Y).heap.size ∧ ¬ az_A Y b
section LWR
variable {Y : az_Y} {V : az_V} {cc : ByteArray} {nL : Nat} {own : String} {rt : Option FieldType} {d : Nat} {Q : State → Prop} {M : az_M} {pc b L k n : Nat} {xs : Nat → Int32} {lv : List (Nat × Value)} {rest : List Value}
theorem az_sl1 (C : az_C (az_Yc Y k n) V cc nL own rt d) (hS : az_sc Y b L xs) {i : Int32} (hin : vp_in i L) (hdg : decode cc pc = .ok (.iaload, 1)) (kk : AW (az_Yc Y k n) V Q nL M (pc + 1) lv (.int (xs i.toNatClampNeg) :: rest)) : AW (az_Yc Y k n) V Q nL M pc lv (.int i :: .ref b :: rest) :=
  fun H locs ls hH hl => va_sld C.hx C.hb hS.1 hS.2.1 hS.2.2 hH.2.2 hin hdg (kk H locs ls hH hl)
theorem az_slenr (C : az_C (az_Yc Y k n) V cc nL own rt d) (hS : az_sc Y b L xs) (hdg : decode cc pc = .ok (.arraylength, 1)) (kk : AW (az_Yc Y k n) V Q nL M (pc + 1) lv (.int (Int32.ofNat L) :: rest)) : AW (az_Yc Y k n) V Q nL M pc lv (.ref b :: rest) :=
  fun H locs ls hH hl => va_slen C.hx C.hb hS.1 hS.2.1 hS.2.2 hH.2.2 hdg (kk H locs ls hH hl)
theorem az_sarg0 {j : Nat} (C : az_C (az_Yc Y k n) V cc nL own rt d) (hS : az_sc Y b L xs) (h : j < L) (hL : L ≤ 3072) (hdg : decode cc pc = .ok (.iaload, 1)) (kk : AW (az_Yc Y k n) V Q nL M (pc + 1) lv (.int (xs j) :: rest)) : AW (az_Yc Y k n) V Q nL M pc lv (.int (nI j) :: .ref b :: rest) := by
  refine az_sl1 C hS (vp_in_nI h (by omega)) hdg ?_
  rw [nI_clamp (by omega)]
  exact kk
theorem az_sarg {j q : Nat} {v : Int32} (C : az_C (az_Yc Y k n) V cc nL own rt d) (hS : az_sc Y b L xs) (h : j + q < L) (hL : L ≤ 3072) (hv : v = nI q) (hdg : decode cc pc = .ok (.iaload, 1)) (kk : AW (az_Yc Y k n) V Q nL M (pc + 1) lv (.int (xs (j + q)) :: rest)) : AW (az_Yc Y k n) V Q nL M pc lv (.int (nI j + v) :: .ref b :: rest) := by
  subst hv
  rw [nI_add]
  exact az_sarg0 C hS h hL hdg kk
theorem az_cVX (C : az_C Y V cc nL own rt d) {idx b ci n0 d' mL mc ms : Nat} {y : MethodName} {bt : ByteArray} {rt' : Option FieldType} {post : Option Value → az_V → az_M → Prop} {st : List Value} (As : List Value) (hM : az_CtX Y.2.1 V y bt mL rt' d' mc ms (.ref (az_ad V b) :: As) M post) (hd : d' + 1 ≤ d) (lk : az_lV own idx (az_R ci) y bt mL rt' n0) (hb : az_at V b ci) (hc : ci < 13) (hst : st = As.reverse ++ .ref (az_ad V b) :: rest) (hn : As.length = n0) (hr : (rest.map fun v => v.category).sum ≤ 8) (hdg : decode cc pc = .ok (.invokevirtual idx, 3)) (h1 : Y.2.2.2.2.2.2.2.2.2.2.2.1 + mc ≤ Y.2.2.2.1.cells) (h2 : Y.2.2.2.2.2.2.2.2.2.2.2.2 + ms ≤ Y.2.2.2.1.slots) (kk : ∀ (v : Option Value) (V' : az_V) (M' : az_M), post v V' M' → AW (az_Yc Y (Y.2.2.2.2.2.2.2.2.2.2.2.1 + mc) (Y.2.2.2.2.2.2.2.2.2.2.2.2 + ms)) V' Q nL M' (pc + 3) lv (v.toList ++ rest)) : AW Y V Q nL M pc lv st := by
  subst hst
  intro H locs ls hH hl
  have hR := C.hR
  have hrm : (kz_rm d' mc ms).frames + 1 ≤ Y.2.2.2.1.frames ∧ 8 + (mL + 11) + (kz_rm d' mc ms).locals ≤ Y.2.2.2.1.locals := by
    have h81 := lk.2.2
    refine ⟨Nat.le_trans hd hR.1, ?_⟩
    show 8 + (mL + 11) + 100 * d' ≤ _
    omega
  have hG : GoodIn az_B (wsV own idx (az_R ci) y (Cond.code y bt mL rt' :: az_B)) := by
    refine az_goodB fun w hw => ?_
    rcases List.mem_append.mp hw with h | h
    · rcases List.mem_cons.mp h with rfl | h
      · exact lk.1.1
      rcases List.mem_cons.mp h with rfl | h
      · exact lk.1.2.1
      rcases List.mem_cons.mp h with rfl | h
      · exact lk.1.2.2.1
      rcases List.mem_cons.mp h with rfl | h
      · exact lk.1.2.2.2.1
      · cases h
    · rcases List.mem_cons.mp h with rfl | h
      · exact lk.1.2.2.2.2
      · exact h
  have hrun := va_runV (As := As) (rest := rest) C.1 (hM H.size) (cwV n0 C.hts hG rfl rfl rfl lk.2.1 hrm) ⟨(az_preU C hH).1, va_recv C.hK hH.1 (ci := ci) (q0 := b) (az_cl_at ci hc) ((az_wl_get hb.1).trans (congrArg (fun e => some (az_ad V b, e)) (az_cell_obj hb hc))), (az_preU C hH).2⟩ (g := F0 (az_m Y) pc ls (As.reverse ++ .ref (az_ad V b) :: rest)) (l := Y.2.1) (e := Y.2.2.1) (below := az_below Y) (meth := az_meth Y) (locs := locs) (cells := Y.2.2.2.2.2.2.2.2.2.2.2.1) (slots := Y.2.2.2.2.2.2.2.2.2.2.2.2) rfl hn hl.1 rfl (lv_room hr) hdg ⟨h1, h2⟩
  intro T hT X
  have hF : ∀ q, az_F V H.size q → az_A Y q := fun q h => by
    rcases h with ⟨k, hk, rfl⟩ | h
    · exact hH.2.1.2 k _ (az_wl_get hk)
    · exact C.hA q (Nat.le_trans hH.2.2.1 h)
  obtain ⟨v, st₀, t, T', L, h0, X', hL, e1, e2, ⟨⟨v', V', M', hv, hp, hP, hD⟩, hz, hk⟩, go⟩ := hrun T hT X
  cases hv
  rw [h0] at hz hk
  have hH' : az_H (az_Yc Y (Y.2.2.2.2.2.2.2.2.2.2.2.1 + mc) (Y.2.2.2.2.2.2.2.2.2.2.2.2 + ms)) V' M' T'.heap (locs ++ L) := by
    refine ⟨by rw [e1]; exact hP, hD.weaken (fun _ _ _ h => hF _ h), ?_⟩
    refine ⟨Nat.le_trans hH.2.2.1 (by rw [e1]; exact hz), fun q h1 h2 => ?_, fun q hq => ?_⟩
    · rw [e1, hk q (Nat.lt_of_lt_of_le h1 hH.2.2.1) (fun z => h2 (hF q z))]
      exact hH.2.2.2.1 q h1 h2
    · rcases List.mem_append.mp hq with h | h
      · exact hH.2.2.2.2 q h
      · exact hF _ (hL q h)
  obtain ⟨t2, a1, b1⟩ := kk v V' M' hp T'.heap (locs ++ L) ls hH' hl T' rfl X'
  exact ⟨t2, go t2 a1, b1⟩
end LWR
/-- the loop's head, m calls behind it -/
def lw_H (Y : az_Y) (b : Nat) (Inv : Nat → az_S × Nat → az_M → Prop) (Q : State → Prop) (m : Nat) : Prop :=
  ∀ (V : az_V) (M : az_M) (k n : Nat), az_C (az_Yc Y k n) V code 4 RL ret 100 → Inv m (az_z V) M → k ≤ 80 + 4 * m → n ≤ 40000 + 640 * m → AW (az_Yc Y k n) V Q 4 M 18 [(0, .ref b), (1, .ref (az_ad V 0)), (2, .ref (az_ad V 40)), (3, .int (nI (6 * m)))] []
theorem lw_next {Y : az_Y} {b : Nat} {Inv : Nat → az_S × Nat → az_M → Prop} {Q : State → Prop} {m k n : Nat} (hn : lw_H Y b Inv Q (m + 1)) {V : az_V} {M : az_M} (C : az_C (az_Yc Y k n) V code 4 RL ret 100) (hI : Inv (m + 1) (az_z V) M) (hk : k ≤ 80 + 4 * (m + 1)) (hn2 : n ≤ 40000 + 640 * (m + 1)) : AW (az_Yc Y k n) V Q 4 M 1197 [(0, .ref b), (1, .ref (az_ad V 0)), (2, .ref (az_ad V 40)), (3, .int (nI (6 * m)))] [] := by
  refine az_iinc (v := nI (6 * (m + 1))) C 3 dL_law_1197 rfl (nI_add (6 * m) 6) (by decide) rfl ?_
  refine az_goto C 18 dL_law_1200 (by decide) ?_
  refine az_sub [1, 2, 3, 0] rfl ?_
  exact hn V M k n C hI hk hn2
theorem lw_end {p : Program} {l : Launch} {e : Env} {s : State} {mm : MethodId} {below : List Frame} {meth : Method} {c : Code} {b k0 n0 : Nat} {Y : az_Y} (hY : ((p, l, e, room_1, s, mm, #[Value.ref b], below, meth, c, (fun q => s.heap.size ≤ q), k0, n0) : az_Y) = Y) {k n : Nat} {V : az_V} {M : az_M} {lv : List (Nat × Value)} (C : az_C (az_Yc Y k n) V code 4 RL ret 100) (hk : k ≤ 600000) (hn : n ≤ 7302250) : AW (az_Yc Y k n) V (lw_Z below #[Value.ref b] s) 4 M 1204 lv [.int 1] := by
  subst hY
  exact fun H locs ls hH hl => va_forget (fun q hq => hH.2.2.2.2 q hq) (W.widen hk hn (lw_ret C.hx C.hb C.hr C.hlk dL_law_1204))
