/-! String constants: ldc, length(), charAt() -/
section AZS
variable {Y : az_Y} {V : az_V} {cc : ByteArray} {nL : Nat} {own : String} {ret : Option FieldType} {d : Nat} {Q : State → Prop} {M : az_M} {pc : Nat} {lv lv' : List (Nat × Value)} {rest : List Value}
theorem az_lds {i idx : Nat} (C : az_C Y V cc nL RX5 ret d) (hi : i < 11) (hx : az_zi.getD i 0 = idx) (hdg : decode cc pc = .ok (.ldc idx, 2)) (k : AW Y V Q nL M (pc + 2) lv (.ref (V.2.2.2.2.2 (10 + i)) :: rest)) : AW Y V Q nL M pc lv rest := by
  subst hx
  exact fun H locs ls hH hl => va_ldcS C.hx C.hb C.hown (C.hE.2.1.2 i hi) hdg (k H locs ls hH hl)
theorem az_sgv {i : Nat} (C : az_C Y V cc nL RJ0 ret d) (hi : i < 11) (hdg : decode cc pc = .ok (.getfield 9, 3)) (k : AW Y V Q nL M (pc + 3) lv (.ref (V.2.2.2.2.2 (30 + i)) :: rest)) : AW Y V Q nL M pc lv (.ref (V.2.2.2.2.2 (10 + i)) :: rest) :=
  fun H locs ls hH hl => vk_getf C.hx C.hb (C.hE.2.1.1.1 i hi).2.2.1 hH.2.2 C.hown (C.hts _ jf_9) (fun _ h => h) hdg (k H locs ls hH hl)
theorem az_sgc {i : Nat} (C : az_C Y V cc nL RJ0 ret d) (hi : i < 11) (hdg : decode cc pc = .ok (.getfield 15, 3)) (k : AW Y V Q nL M (pc + 3) lv (.int 0 :: rest)) : AW Y V Q nL M pc lv (.ref (V.2.2.2.2.2 (10 + i)) :: rest) :=
  fun H locs ls hH hl => vk_getf C.hx C.hb (C.hE.2.1.1.1 i hi).2.1 hH.2.2 C.hown (C.hts _ jf_15) (fun _ h => h) hdg (k H locs ls hH hl)
theorem az_sln {i : Nat} (C : az_C Y V cc nL own ret d) (hi : i < 11) (hdg : decode cc pc = .ok (.arraylength, 1)) (k : AW Y V Q nL M (pc + 1) lv (.int (Int32.ofNat (az_zl.getD i 0)) :: rest)) : AW Y V Q nL M pc lv (.ref (V.2.2.2.2.2 (30 + i)) :: rest) :=
  fun H locs ls hH hl => va_tlen C.hx C.hb (C.hE.2.1.1.1 i hi).2.2.2 hH.2.2 rfl hdg (k H locs ls hH hl)
theorem az_sbl {i : Nat} {j : Int32} (C : az_C Y V cc nL own ret d) (hi : i < 11) (hin : vp_in j (az_zl.getD i 0)) (hdg : decode cc pc = .ok (.baload, 1)) (k : AW Y V Q nL M (pc + 1) lv (.int ((az_zb.getD i []).getD j.toNatClampNeg 0) :: rest)) : AW Y V Q nL M pc lv (.int j :: .ref (V.2.2.2.2.2 (30 + i)) :: rest) :=
  fun H locs ls hH hl => va_tb C.hx C.hb (C.hE.2.1.1.1 i hi).2.2.2 hH.2.2 hin rfl hdg (k H locs ls hH hl)
theorem az_gcs (C : az_C Y V cc nL RJ0 ret d) (hdg : decode cc pc = .ok (.getstatic 38, 3)) (k : AW Y V Q nL M (pc + 3) lv (.int 1 :: rest)) : AW Y V Q nL M pc lv rest :=
  fun H locs ls hH hl => va_gets C.hx C.hb C.hE.2.2.1 hH.2.2 C.hown (C.hts _ jf_38) (fun _ h => h) hdg (k H locs ls hH hl)
theorem az_gsf (C : az_C Y V cc nL RJ0 ret d) (hdg : decode cc pc = .ok (.getstatic 1053, 3)) (k : ∀ o : Option Nat, AW Y V Q nL M (pc + 3) lv (va_rf o :: rest)) : AW Y V Q nL M pc lv rest := by
  intro H locs ls hH hl
  rcases C.hE.2.2.2.1 with h | ⟨t, h⟩
  · exact va_gets C.hx C.hb h hH.2.2 C.hown (C.hts _ jf_1053) (fun _ h => h) hdg (k none H locs ls hH hl)
  · exact va_gets C.hx C.hb h hH.2.2 C.hown (C.hts _ jf_1053) (fun _ h => h) hdg (k (some t) H locs ls hH hl)
theorem az_callT (C : az_C Y V cc nL own ret d) {idx i n d' mL : Nat} {y : MethodName} {bt : ByteArray} {rt : Option FieldType} {post : Option Value → az_M → Prop} {st : List Value} (As : List Value) (hM : az_Ct Y.2.1 V y bt mL rt d' (.ref (V.2.2.2.2.2 (10 + i)) :: As) M post) (hd : d' + 1 ≤ d) (lk : az_lV own idx "java/lang/String" y bt mL rt n) (hi : i < 11) (hst : st = As.reverse ++ .ref (V.2.2.2.2.2 (10 + i)) :: rest) (hn : As.length = n) (hr : (rest.map fun v => v.category).sum ≤ 8) (hdg : decode cc pc = .ok (.invokevirtual idx, 3)) (k : ∀ (v : Option Value) (M' : az_M), post v M' → AW Y V Q nL M' (pc + 3) lv (v.toList ++ rest)) : AW Y V Q nL M pc lv st := by
  subst hst
  intro H locs ls hH hl
  have hR := C.hR
  have hrm : (az_rm d').frames + 1 ≤ Y.2.2.2.1.frames ∧ 8 + (mL + 11) + (az_rm d').locals ≤ Y.2.2.2.1.locals := by
    have h81 := lk.2.2
    refine ⟨Nat.le_trans hd hR.1, ?_⟩
    show 8 + (mL + 11) + 100 * d' ≤ _
    omega
  have hG : GoodIn az_B (wsV own idx "java/lang/String" y (Cond.code y bt mL rt :: az_B)) := by
    refine az_goodB fun w hw => ?_
    rcases List.mem_append.mp hw with h | h
    · rcases List.mem_cons.mp h with rfl | h
      · exact lk.1.1
      rcases List.mem_cons.mp h with rfl | h
      · exact lk.1.2.1
      rcases List.mem_cons.mp h with rfl | h
      · exact lk.1.2.2.1
      rcases List.mem_cons.mp h with rfl | h
      · exact lk.1.2.2.2.1
      · cases h
    · rcases List.mem_cons.mp h with rfl | h
      · exact lk.1.2.2.2.2
      · exact h
  exact az_back C hH hl (va_runV (As := As) (rest := rest) C.1 (hM H.size) (cwV n C.hts hG rfl rfl rfl lk.2.1 hrm) ⟨(az_preU C hH).1, vk_recv C.hE.2.1.1 hi hH.2.2, (az_preU C hH).2⟩ rfl hn hl.1 rfl (lv_room hr) hdg ⟨hR.2.2.1, hR.2.2.2⟩) k
theorem az_yret (C : az_C Y V cc nL own (some .byte) d) {post : Option Value → az_M → Prop} {v : Int32} (hdg : decode cc pc = .ok (.ireturn, 1)) (hn : narrow .byte (.int v) = .int v) (hp : post (some (.int v)) M) : AW Y V (az_end Y V post) nL M pc lv [.int v] :=
  fun H locs ls hH hl => W.zret (v := v) C.hx C.hb C.hr hn (fun t ht hW => ⟨⟨_, M, rfl, hp, by rw [ht]; exact hH.1, hH.2.1⟩, hH.2.2.F ht⟩) hH.2.2.2.2 hdg (hlocks := C.hlk)
theorem az_cret (C : az_C Y V cc nL own (some .char) d) {post : Option Value → az_M → Prop} {v : Int32} (hdg : decode cc pc = .ok (.ireturn, 1)) (hn : narrow .char (.int v) = .int v) (hp : post (some (.int v)) M) : AW Y V (az_end Y V post) nL M pc lv [.int v] :=
  fun H locs ls hH hl => W.zret (v := v) C.hx C.hb C.hr hn (fun t ht hW => ⟨⟨_, M, rfl, hp, by rw [ht]; exact hH.1, hH.2.1⟩, hH.2.2.F ht⟩) hH.2.2.2.2 hdg (hlocks := C.hlk)
end AZS
theorem az_zch : ∀ i, i < 11 → ∀ k, k < az_zl.getD i 0 → ((((az_zb.getD i []).getD k 0) &&& 255).toUInt32 % 65536).toInt32 = (az_zb.getD i []).getD k 0 ∧ narrow .char (.int ((az_zb.getD i []).getD k 0)) = .int ((az_zb.getD i []).getD k 0) := by decide +kernel
theorem az_zl_lt : ∀ i, i < 11 → az_zl.getD i 0 < 2 ^ 31 := by decide +kernel
section AZT
variable {l : Launch} {V : az_V} {M : az_M}
theorem c_J3_checkIndex {k n : Int32} {o : Option Nat} (h0 : ¬ k < 0) (h1 : k < n) : az_Ct l V yJ3_checkIndex_8e157 cJ3_checkIndex_8e157 3 (some .int) 1 [.int k, .int n, va_rf o] M (fun v M' => v = some (.int k) ∧ M' = M) := by
  refine az_Ct.of (by decide) (by cases o <;> exact Nat.le_of_ble_eq_true rfl) (fun Y _ _ C => ?_)
  have e : lv_args 0 [.int k, .int n, va_rf o] = [(0, .int k), (1, .int n), (2, va_rf o)] := by cases o <;> rfl
  rw [e]
  refine az_iload_n C 0 dJ3_checkIndex_8e157_0 rfl ?_
  refine az_if_lt C 9 dJ3_checkIndex_8e157_1 (by decide) (fun c => absurd c h0) (fun _ => ?_)
  refine az_iload_n C 0 dJ3_checkIndex_8e157_4 rfl ?_
  refine az_iload_n C 1 dJ3_checkIndex_8e157_5 rfl ?_
  refine az_icmp_lt C 16 dJ3_checkIndex_8e157_6 (by decide) (fun _ => ?_) (fun c => absurd h1 c)
  refine az_iload_n C 0 dJ3_checkIndex_8e157_16 rfl ?_
  exact az_iret C dJ3_checkIndex_8e157_17 ⟨rfl, rfl⟩
theorem c_J0_checkIndex {k n : Int32} (h0 : ¬ k < 0) (h1 : k < n) : az_Ct l V yJ0_checkIndex_df160 cJ0_checkIndex_df160 2 none 2 [.int k, .int n] M (fun v M' => v = none ∧ M' = M) := by
  refine az_Ct.of (by decide) (Nat.le_of_ble_eq_true rfl) (fun Y _ _ C => ?_)
  show AW Y V _ 2 M 0 [(0, .int k), (1, .int n)] []
  refine az_iload_n C 0 dJ0_checkIndex_df160_0 rfl ?_
  refine az_iload_n C 1 dJ0_checkIndex_df160_1 rfl ?_
  refine az_gsf C dJ0_checkIndex_df160_2 (fun o => ?_)
  refine az_callS C [.int k, .int n, va_rf o] (c_J3_checkIndex h0 h1) (by decide) li_J0_1059 rfl rfl (Nat.le_of_ble_eq_true rfl) dJ0_checkIndex_df160_5 (fun v M1 hv => ?_)
  obtain ⟨rfl, rfl⟩ := hv
  refine az_eqst (st' := [.int k]) rfl ?_
  refine az_pop C dJ0_checkIndex_df160_8 rfl ?_
  exact az_vret C rfl dJ0_checkIndex_df160_9 ⟨rfl, rfl⟩
theorem c_J1_charAt {i : Nat} (hi : i < 11) {k : Int32} (hin : vp_in k (az_zl.getD i 0)) (hlt : k < Int32.ofNat (az_zl.getD i 0)) : az_Ct l V yJ1_charAt_3b067 cJ1_charAt_3b067 2 (some .char) 3 [.ref (V.2.2.2.2.2 (30 + i)), .int k] M (fun v M' => v = some (.int ((az_zb.getD i []).getD k.toNatClampNeg 0)) ∧ M' = M) := by
  refine az_Ct.of (by decide) (Nat.le_of_ble_eq_true rfl) (fun Y _ _ C => ?_)
  show AW Y V _ 2 M 0 [(0, .ref (V.2.2.2.2.2 (30 + i))), (1, .int k)] []
  have h0 : ¬ k < 0 := fun q => hin (Or.inl q)
  have hk : k.toNatClampNeg < az_zl.getD i 0 := Nat.not_le.mp fun q => hin (Or.inr q)
  refine az_iload_n C 1 dJ1_charAt_3b067_0 rfl ?_
  refine az_aload_n C 0 dJ1_charAt_3b067_1 rfl ?_
  refine az_sln C hi dJ1_charAt_3b067_2 ?_
  refine az_callS C [.int k, .int (Int32.ofNat (az_zl.getD i 0))] (c_J0_checkIndex h0 hlt) (by decide) li_J1_9 rfl rfl (Nat.le_of_ble_eq_true rfl) dJ1_charAt_3b067_3 (fun v M1 hv => ?_)
  obtain ⟨rfl, rfl⟩ := hv
  refine az_eqst (st' := []) rfl ?_
  refine az_aload_n C 0 dJ1_charAt_3b067_6 rfl ?_
  refine az_iload_n C 1 dJ1_charAt_3b067_7 rfl ?_
  refine az_sbl C hi hin dJ1_charAt_3b067_8 ?_
  refine az_sipush (v := 255) C dJ1_charAt_3b067_9 (by decide) ?_
  refine az_iand C dJ1_charAt_3b067_12 ?_
  refine az_i2c C dJ1_charAt_3b067_13 ?_
  have e := az_zch i hi k.toNatClampNeg hk
  refine az_eqst (st' := [.int ((az_zb.getD i []).getD k.toNatClampNeg 0)]) (by rw [e.1]) ?_
  exact az_cret C dJ1_charAt_3b067_14 e.2 ⟨rfl, rfl⟩
theorem c_J0_coder {i : Nat} (hi : i < 11) : az_Ct l V yJ0_coder_7d493 cJ0_coder_7d493 1 (some .byte) 1 [.ref (V.2.2.2.2.2 (10 + i))] M (fun v M' => v = some (.int 0) ∧ M' = M) := by
  refine az_Ct.of (by decide) (Nat.le_of_ble_eq_true rfl) (fun Y _ _ C => ?_)
  show AW Y V _ 1 M 0 [(0, .ref (V.2.2.2.2.2 (10 + i)))] []
  refine az_gcs C dJ0_coder_7d493_0 ?_
  refine az_if_eq C 13 dJ0_coder_7d493_3 (by decide) (fun c => absurd c (by decide)) (fun _ => ?_)
  refine az_aload_n C 0 dJ0_coder_7d493_6 rfl ?_
  refine az_sgc C hi dJ0_coder_7d493_7 ?_
  refine az_goto C 14 dJ0_coder_7d493_10 (by decide) ?_
  exact az_yret C dJ0_coder_7d493_14 rfl ⟨rfl, rfl⟩
theorem c_J0_isLatin1 {i : Nat} (hi : i < 11) : az_Ct l V yJ0_isLatin1_aae02 cJ0_isLatin1_aae02 1 (some .boolean) 1 [.ref (V.2.2.2.2.2 (10 + i))] M (fun v M' => v = some (.int 1) ∧ M' = M) := by
  refine az_Ct.of (by decide) (Nat.le_of_ble_eq_true rfl) (fun Y _ _ C => ?_)
  show AW Y V _ 1 M 0 [(0, .ref (V.2.2.2.2.2 (10 + i)))] []
  refine az_gcs C dJ0_isLatin1_aae02_0 ?_
  refine az_if_eq C 17 dJ0_isLatin1_aae02_3 (by decide) (fun c => absurd c (by decide)) (fun _ => ?_)
  refine az_aload_n C 0 dJ0_isLatin1_aae02_6 rfl ?_
  refine az_sgc C hi dJ0_isLatin1_aae02_7 ?_
  refine az_if_ne C 17 dJ0_isLatin1_aae02_10 (by decide) (fun c => absurd rfl c) (fun _ => ?_)
  refine az_iconst (v := 1) C dJ0_isLatin1_aae02_13 (by decide) ?_
  refine az_goto C 18 dJ0_isLatin1_aae02_14 (by decide) ?_
  exact az_zret C dJ0_isLatin1_aae02_18 rfl ⟨rfl, rfl⟩
theorem c_J0_length {i : Nat} (hi : i < 11) : az_Ct l V yJ0_length_8abf5 cJ0_length_8abf5 1 (some .int) 2 [.ref (V.2.2.2.2.2 (10 + i))] M (fun v M' => v = some (.int (Int32.ofNat (az_zl.getD i 0))) ∧ M' = M) := by
  refine az_Ct.of (by decide) (Nat.le_of_ble_eq_true rfl) (fun Y _ _ C => ?_)
  show AW Y V _ 1 M 0 [(0, .ref (V.2.2.2.2.2 (10 + i)))] []
  refine az_aload_n C 0 dJ0_length_8abf5_0 rfl ?_
  refine az_sgv C hi dJ0_length_8abf5_1 ?_
  refine az_sln C hi dJ0_length_8abf5_4 ?_
  refine az_aload_n C 0 dJ0_length_8abf5_5 rfl ?_
  refine az_callT C [] (c_J0_coder hi) (by decide) li_J0_335 hi rfl rfl (Nat.le_of_ble_eq_true rfl) dJ0_length_8abf5_6 (fun v M1 hv => ?_)
  obtain ⟨rfl, rfl⟩ := hv
  refine az_eqst (st' := [.int 0, .int (Int32.ofNat (az_zl.getD i 0))]) rfl ?_
  refine az_ishr C dJ0_length_8abf5_9 ?_
  rw [sb_shr0]
  exact az_iret C dJ0_length_8abf5_10 ⟨rfl, rfl⟩
theorem c_J0_charAt {i : Nat} (hi : i < 11) {k : Int32} (hin : vp_in k (az_zl.getD i 0)) : az_Ct l V yJ0_charAt_5068e cJ0_charAt_5068e 2 (some .char) 4 [.ref (V.2.2.2.2.2 (10 + i)), .int k] M (fun v M' => v = some (.int ((az_zb.getD i []).getD k.toNatClampNeg 0)) ∧ M' = M) := by
  refine az_Ct.of (by decide) (Nat.le_of_ble_eq_true rfl) (fun Y _ _ C => ?_)
  show AW Y V _ 2 M 0 [(0, .ref (V.2.2.2.2.2 (10 + i))), (1, .int k)] []
  have hl : az_zl.getD i 0 < 2 ^ 31 := az_zl_lt i hi
  have hlt : k < Int32.ofNat (az_zl.getD i 0) := by
    obtain ⟨j, hj, rfl⟩ := vp_in_of hin hl
    exact nI_lt hj hl
  have hk : k.toNatClampNeg < az_zl.getD i 0 := Nat.not_le.mp fun q => hin (Or.inr q)
  refine az_aload_n C 0 dJ0_charAt_5068e_0 rfl ?_
  refine az_callT C [] (c_J0_isLatin1 hi) (by decide) li_J0_492 hi rfl rfl (Nat.le_of_ble_eq_true rfl) dJ0_charAt_5068e_1 (fun v M1 hv => ?_)
  obtain ⟨rfl, rfl⟩ := hv
  refine az_eqst (st' := [.int 1]) rfl ?_
  refine az_if_eq C 16 dJ0_charAt_5068e_4 (by decide) (fun c => absurd c (by decide)) (fun _ => ?_)
  refine az_aload_n C 0 dJ0_charAt_5068e_7 rfl ?_
  refine az_sgv C hi dJ0_charAt_5068e_8 ?_
  refine az_iload_n C 1 dJ0_charAt_5068e_11 rfl ?_
  refine az_callS C [.ref (V.2.2.2.2.2 (30 + i)), .int k] (c_J1_charAt hi hin hlt) (by decide) li_J0_495 rfl rfl (Nat.le_of_ble_eq_true rfl) dJ0_charAt_5068e_12 (fun v M1 hv => ?_)
  obtain ⟨rfl, rfl⟩ := hv
  refine az_eqst (st' := [.int ((az_zb.getD i []).getD k.toNatClampNeg 0)]) rfl ?_
  exact az_cret C dJ0_charAt_5068e_15 (az_zch i hi k.toNatClampNeg hk).2 ⟨rfl, rfl⟩
end AZT
section AZU
variable {Y : az_Y} {V : az_V} {cc : ByteArray} {nL : Nat} {ret : Option FieldType} {d : Nat} {Q : State → Prop} {M : az_M} {pc : Nat} {lv : List (Nat × Value)} {rest : List Value}
theorem az_slen {i : Nat} (C : az_C Y V cc nL RX5 ret d) (hd : 8 ≤ d) (hi : i < 11) (hr : (rest.map fun v => v.category).sum ≤ 8) (hdg : decode cc pc = .ok (.invokevirtual 142, 3)) (k : AW Y V Q nL M (pc + 3) lv (.int (Int32.ofNat (az_zl.getD i 0)) :: rest)) : AW Y V Q nL M pc lv (.ref (V.2.2.2.2.2 (10 + i)) :: rest) :=
  az_callT C [] (c_J0_length hi) (by omega) li_X5_142 hi rfl rfl hr hdg (fun v M1 hv => by obtain ⟨rfl, rfl⟩ := hv; exact k)
theorem az_schar {i : Nat} {j : Int32} (C : az_C Y V cc nL RX5 ret d) (hd : 8 ≤ d) (hi : i < 11) (hin : vp_in j (az_zl.getD i 0)) (hr : (rest.map fun v => v.category).sum ≤ 8) (hdg : decode cc pc = .ok (.invokevirtual 147, 3)) (k : AW Y V Q nL M (pc + 3) lv (.int ((az_zb.getD i []).getD j.toNatClampNeg 0) :: rest)) : AW Y V Q nL M pc lv (.int j :: .ref (V.2.2.2.2.2 (10 + i)) :: rest) :=
  az_callT C [.int j] (c_J0_charAt hi hin) (by omega) li_X5_147 hi rfl rfl hr hdg (fun v M1 hv => by obtain ⟨rfl, rfl⟩ := hv; exact k)
end AZU
