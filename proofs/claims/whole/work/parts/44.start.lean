/-! THE LAW, from its entry, over the pure obligations -/
theorem az_Bt : ∀ w ∈ az_B, w ∈ lw_tbl := fun _ h => (List.mem_filter.mp h).1
theorem az_inst : ∀ ci, ci < 13 → Cond.instantiable (az_R ci) (az_N ci) ∈ az_B := by
  intro ci h
  match ci, h with
  | 0, _ => exact ln_X11_18.2.2.1
  | 1, _ => exact ln_X11_88.2.2.1
  | 2, _ => exact ln_X11_97.2.2.1
  | 3, _ => exact ln_X11_32.2.2.1
  | 4, _ => exact ln_X11_11.2.2.1
  | 5, _ => exact ln_X11_70.2.2.1
  | 6, _ => exact ln_X11_64.2.2.1
  | 7, _ => exact ln_X11_106.2.2.1
  | 8, _ => exact ln_X11_79.2.2.1
  | 9, _ => exact ln_X11_25.2.2.1
  | 10, _ => exact ln_X11_196.2.2.1
  | 11, _ => exact ln_L_7.2.2.1
  | 12, _ => exact ln_L_10.2.2.1
  | k + 13, h => exact absurd h (by omega)
theorem az_prim {args : Array Value} {s : State} {ty : FieldType} (h : (Cond.arrayClass ty).before args s = true) (hty : ∀ c, va_RA s c ty = (s.vm.findClass ("[" ++ ty.toString) = some c)) : ∃ c, ArrOfT s c ty ∧ va_RA s c ty := by
  obtain ⟨c, k, comp, h1, h2, h3⟩ := Cond.arrayClass_spec h
  exact ⟨c, fun n z => ⟨fun k h => (by cases h), k, h2, comp, h3⟩, by rw [hty]; exact h1⟩
theorem az_over {s : State} {C : String} (h : va_AO C s) : ∃ c, ArrOfT s c (.object C) ∧ va_RA s c (.object C) := by
  obtain ⟨comp, c, k, h1, h2, h3, h4, h5⟩ := Cond.arrayOver_spec h
  exact ⟨c, fun n z => ⟨fun k h => (by cases h), k, h3, comp, h4⟩, k, comp, h3, h4, h1, h5⟩
theorem az_known {args : Array Value} {s : State} (hts : ∀ w ∈ az_B, w.before args s = true) (hN : az_Nw s) : ∃ E : kz_D, va_K E.1 az_cl (kz_tys E.2) s := by
  have h0 : ∀ ci : Nat, ∃ q : ClassId × (Nat → Nat), ci < 13 → u_Kn s (az_R ci) (az_T ci) (az_N ci) q.1 q.2 := by
    intro ci
    by_cases h : ci < 13
    · obtain ⟨c, i, hk⟩ := u_known (C := az_R ci) (T := az_T ci) (N := az_N ci) (n := az_N ci) hts (az_ws ci h) (hts _ (az_inst ci h))
      exact ⟨(c, i), fun _ => hk⟩
    · exact ⟨(0, fun _ => 0), fun z => absurd z h⟩
  obtain ⟨f, hf⟩ := Classical.axiomOfChoice h0
  obtain ⟨c0, a0⟩ := az_prim (hts _ aw_int) (fun _ => rfl)
  obtain ⟨c1, a1⟩ := az_prim (hts _ aw_long) (fun _ => rfl)
  obtain ⟨c2, a2⟩ := az_prim (hts _ aw_boolean) (fun _ => rfl)
  obtain ⟨c3, a3⟩ := az_over hN.2.2.1
  obtain ⟨c4, a4⟩ := az_over hN.2.2.2.1
  obtain ⟨c5, a5⟩ := az_over hN.2.2.2.2
  refine ⟨((fun k => (f k).1, fun k => (f k).2), fun t => if t = 0 then c0 else if t = 1 then c1 else if t = 2 then c2 else if t = 3 then c3 else if t = 4 then c4 else c5), ?_, ?_⟩
  · intro c q hq
    have hlt : c < 13 := (List.getElem?_eq_some_iff.mp hq).1
    rw [az_cl_at c hlt] at hq
    cases hq
    exact hf c hlt
  · intro k q hq
    match k, hq with
    | 0, hq => cases hq; exact a0
    | 1, hq => cases hq; exact a1
    | 2, hq => cases hq; exact a2
    | 3, hq => cases hq; exact a3
    | 4, hq => cases hq; exact a4
    | 5, hq => cases hq; exact a5
    | k + 6, hq => simp [kz_tys] at hq
theorem az_nw0 {args : Array Value} {s : State} (hts : ∀ w ∈ lw_tbl, w.before args s = true) : az_Nw s := by
  have h1 : ∀ q ∈ az_nw, Cond.methodLinkNest q.1 q.2.1 q.2.2 "OneBullet" ∈ lw_tbl := by decide +kernel
  have h2 : Cond.fieldLinkNest "OneBullet$Rules" 54 "OneBullet" "TOLD_MOST" "[I" "OneBullet" ∈ lw_tbl := by decide +kernel
  have h3 : Cond.arrayOver (.object "OneBullet$Text") ∈ lw_tbl := by decide +kernel
  have h4 : Cond.arrayOver (.object "OneBullet$Province") ∈ lw_tbl := by decide +kernel
  have h5 : Cond.arrayOver (.object "OneBullet$Book") ∈ lw_tbl := by decide +kernel
  exact ⟨va_Nw.of rfl (hts _ h2), fun q hq => va_Nw.of rfl (hts _ (h1 q hq)), va_AO.of (hts _ h3), va_AO.of (hts _ h4), va_AO.of (hts _ h5)⟩
theorem az_st0 {args : Array Value} {s : State} {A : Nat → Prop} (hts : ∀ w ∈ lw_tbl, w.before args s = true) (hs : ∀ c ∈ flatC (Jvm.Cond.and given_1 narrow_1), c.before args s = true) (hA : ∀ a : Nat, a < s.heap.size → ¬ A a) : ∀ i, i < 4 → ∃ t : Nat, va_Z "OneBullet" (az_st i) "[I" (.ref t) A s s.heap ∧ va_T .int t (az_sl i).length (fun j => .int ((az_sl i).getD j 0)) A s s.heap := by
  intro i hi
  have h1 : ∀ i, i < 4 → Cond.laysStatic "OneBullet" (az_st i) "[I" ∈ lw_tbl := by decide +kernel
  have h2 : Cond.initialized "OneBullet" ∈ lw_tbl := by decide +kernel
  have h3 : ∀ i, i < 4 → Cond.arrayOf (.static "OneBullet" (az_st i) "[I") .int ∈ flatC (Jvm.Cond.and given_1 narrow_1) := by decide +kernel
  have h4 : ∀ i, i < 4 → Cond.eq (.length (.static "OneBullet" (az_st i) "[I")) (.int (Int32.ofNat (az_sl i).length)) ∈ flatC (Jvm.Cond.and given_1 narrow_1) := by decide +kernel
  have h5 : ∀ i, i < 4 → ∀ j, j < (az_sl i).length → Cond.eq (.elem (.static "OneBullet" (az_st i) "[I") (.int (Int32.ofNat j))) (.int ((az_sl i).getD j 0)) ∈ flatC (Jvm.Cond.and given_1 narrow_1) := by decide +kernel
  have h6 : ∀ i, i < 4 → (az_sl i).length < 2 ^ 31 := by decide +kernel
  obtain ⟨t, e, hT⟩ := va_Tof (f := fun j => .int ((az_sl i).getD j 0)) (A := A) (h6 i hi) (hs _ (h3 i hi)) (va_eqt (hs _ (h4 i hi))) (fun j hj => va_eqt (hs _ (h5 i hi j hj))) hA
  exact ⟨t, va_Zof (hts _ (h1 i hi)) (hts _ h2) e hA, hT⟩
abbrev az_tm (i : Nat) : Term := .string "OneBullet$Reader" (az_zi.getD i 0)
theorem az_E0 {args : Array Value} {s : State} {A : Nat → Prop} (hts : ∀ w ∈ lw_tbl, w.before args s = true) (hs : ∀ c ∈ flatC (Jvm.Cond.and given_1 narrow_1), c.before args s = true) (hA : ∀ a : Nat, a < s.heap.size → ¬ A a) : ∃ g : Nat → Nat, az_E g A s s.heap := by
  have h0 : ∀ i : Nat, ∃ t : Nat, i < 4 → va_Z "OneBullet" (az_st i) "[I" (.ref t) A s s.heap ∧ va_T .int t (az_sl i).length (fun j => .int ((az_sl i).getD j 0)) A s s.heap := by
    intro i
    by_cases h : i < 4
    · obtain ⟨t, ht⟩ := az_st0 hts hs hA i h
      exact ⟨t, fun _ => ht⟩
    · exact ⟨0, fun z => absurd z h⟩
  obtain ⟨f, hf⟩ := Classical.axiomOfChoice h0
  have e1 : ∀ i : Nat, i < 11 → Cond.exactly (az_tm i) "java/lang/String" ∈ flatC (Jvm.Cond.and given_1 narrow_1) := by decide +kernel
  have e2 : ∀ i : Nat, i < 11 → Cond.eq (.field (az_tm i) "java/lang/String" "coder" "B") (.int 0) ∈ flatC (Jvm.Cond.and given_1 narrow_1) := by decide +kernel
  have e3 : ∀ i : Nat, i < 11 → Cond.arrayOf (.field (az_tm i) "java/lang/String" "value" "[B") .byte ∈ flatC (Jvm.Cond.and given_1 narrow_1) := by decide +kernel
  have e4 : ∀ i : Nat, i < 11 → Cond.eq (.length (.field (az_tm i) "java/lang/String" "value" "[B")) (.int (Int32.ofNat (az_zl.getD i 0))) ∈ flatC (Jvm.Cond.and given_1 narrow_1) := by decide +kernel
  have e5 := sy_all
  have e6 : ∀ i : Nat, i < 11 → ∀ j : Nat, j < 11 → i ≠ j → Cond.not (Cond.eq (az_tm i) (az_tm j)) ∈ flatC (Jvm.Cond.and given_1 narrow_1) ∨ Cond.not (Cond.eq (az_tm j) (az_tm i)) ∈ flatC (Jvm.Cond.and given_1 narrow_1) := by decide +kernel
  have e7 : ∀ i : Nat, i < 11 → Cond.stringRef "OneBullet$Reader" (az_zi.getD i 0) (az_zt.getD i "") ∈ lw_tbl := by decide +kernel
  obtain ⟨adK, adV, hS, hK⟩ := vk_Sof (tm := az_tm) (N := 11) (len := az_zl) (byt := az_zb) (A := A) az_zl_lt (fun i hi => hs _ (e1 i hi)) (fun i hi => hs _ (e2 i hi)) (fun i hi => hs _ (e3 i hi)) (fun i hi => hs _ (e4 i hi)) (fun i hi j hj => hs _ (e5 i hi j hj)) (fun i j hi hj hn => (e6 i hi j hj hn).imp (hs _) (hs _)) hA
  have s1 : Cond.laysStatic "java/lang/String" "COMPACT_STRINGS" "Z" ∈ lw_tbl := by decide +kernel
  have s2 : Cond.initialized "java/lang/String" ∈ lw_tbl := by decide +kernel
  have s3 : Cond.eq (.static "java/lang/String" "COMPACT_STRINGS" "Z") (.int 1) ∈ flatC (Jvm.Cond.and given_1 narrow_1) := by decide +kernel
  have s4 : Cond.laysStatic "jdk/internal/util/Preconditions" "SIOOBE_FORMATTER" "Ljava/util/function/BiFunction;" ∈ lw_tbl := by decide +kernel
  have s5 : Cond.initialized "jdk/internal/util/Preconditions" ∈ lw_tbl := by decide +kernel
  have s6 : Cond.isRef (.static "jdk/internal/util/Preconditions" "SIOOBE_FORMATTER" "Ljava/util/function/BiFunction;") ∈ flatC (Jvm.Cond.and given_1 narrow_1) := by decide +kernel
  refine ⟨fun k => if k < 10 then f k else if k < 30 then adK (k - 10) else adV (k - 30), fun i hi => ?_, ⟨?_, fun i hi => ?_⟩, va_Zof (hts _ s1) (hts _ s2) (va_eqi (hs _ s3)) hA, va_Zqof (hts _ s4) (hts _ s5) (hs _ s6) hA, az_nw0 hts⟩
  · have : (fun k => if k < 10 then f k else if k < 30 then adK (k - 10) else adV (k - 30)) i = f i := if_pos (by omega)
    rw [this]
    exact hf i hi
  · refine ⟨fun i hi => ?_, fun i j hi hj h => ?_⟩
    · have k1 : (if 10 + i < 10 then f (10 + i) else if 10 + i < 30 then adK (10 + i - 10) else adV (10 + i - 30)) = adK i := by rw [if_neg (by omega), if_pos (by omega), Nat.add_sub_cancel_left]
      have k2 : (if 30 + i < 10 then f (30 + i) else if 30 + i < 30 then adK (30 + i - 10) else adV (30 + i - 30)) = adV i := by rw [if_neg (by omega), if_neg (by omega), Nat.add_sub_cancel_left]
      show va_O _ (if _ then _ else _) A s s.heap ∧ va_OF _ _ _ _ (if _ then _ else _) A s s.heap ∧ va_OF _ _ _ (.ref (if _ then _ else _)) (if _ then _ else _) A s s.heap ∧ va_T _ (if _ then _ else _) _ _ A s s.heap
      rw [k1, k2]
      exact hS.1 i hi
    · have k1 : ∀ i, i < 11 → (if 10 + i < 10 then f (10 + i) else if 10 + i < 30 then adK (10 + i - 10) else adV (10 + i - 30)) = adK i := fun i hi => by rw [if_neg (by omega), if_pos (by omega), Nat.add_sub_cancel_left]
      have h : (if 10 + i < 10 then f (10 + i) else if 10 + i < 30 then adK (10 + i - 10) else adV (10 + i - 30)) = (if 10 + j < 10 then f (10 + j) else if 10 + j < 30 then adK (10 + j - 10) else adV (10 + j - 30)) := h
      rw [k1 i hi, k1 j hj] at h
      exact hS.2 i j hi hj h
  · have k1 : (fun k => if k < 10 then f k else if k < 30 then adK (k - 10) else adV (k - 30)) (10 + i) = adK i := by
      show (if 10 + i < 10 then f (10 + i) else if 10 + i < 30 then adK (10 + i - 10) else adV (10 + i - 30)) = adK i
      rw [if_neg (by omega), if_pos (by omega), Nat.add_sub_cancel_left]
    rw [k1]
    refine vk_R.of (A := args) (hts _ (e7 i hi)) ?_
    have := hK i hi
    exact this
theorem kz_istore_n {Y : az_Y} {E : kz_D} {cc : ByteArray} {nL k n : Nat} {own : String} {rt : Option FieldType} {d : Nat} {Q : State → Prop} {ws : va_W} {pc : Nat} {lv lv' : List (Nat × Value)} {rest : List Value} (C : kz_C Y E cc nL own rt d) {k0 : Fin 4} {i : Nat} {x : Int32} (hdg : decode cc pc = .ok (.istore_n k0, 1)) (hi : (k0 : Nat) = i) (hn : i < nL) (hv : (i, Value.int x) :: lv.filter (fun q => !(q.1 == i) && !(q.1 + 1 == i && q.2.category == 2)) = lv') (kk : KA Y E Q nL k n ws (pc + 1) lv' rest) : KA Y E Q nL k n ws pc lv (.int x :: rest) := fun H locs ls hH hl => lv_istore_n C.hx C.hb hdg hi hl hn hv (fun ls' hl' => kk H locs ls' hH hl')
set_option maxHeartbeats 8000000 in
set_option maxRecDepth 100000 in
theorem whole_open {p : Program} {e : Env} {s : State} {m : MethodId} {below : List Frame} {meth : Method} {c : Code} (l : Launch) {b L : Nat} {xs : Nat → Int32} {Inv : Nat → az_S × Nat → az_M → Prop} {G : Nat} (hI0 : Inv 0 az_Z0 az_M0) (obs : ∀ m Z M, Inv m Z M → Inv (m + 1) Z M) (ob0 : Ob_put Inv G) (ob1 : Ob_bullet Inv G) (ob2 : Ob_place Inv G) (ob3 : Ob_at Inv G) (ob4 : Ob_person Inv G) (ob5 : Ob_of Inv G) (ob6 : Ob_quarrel Inv G) (ob7 : Ob_about Inv G) (ob8 : Ob_terms Inv G) (ob9 : Ob_feed Inv G) (ob10 : Ob_end Inv G) (ob11 : Ob_row Inv G) (ob12 : Ob_chips Inv G) (ob13 : Ob_law Inv G) (ob14 : Ob_orders Inv G) (ob15 : Ob_fault Inv G) (ob16 : Ob_stopped Inv G) (ob17 : Ob_force Inv G) (ob18 : Ob_barred Inv G) (ob19 : Ob_fire Inv G) (ob20 : Ob_duel Inv G) (ob21 : Ob_rest Inv G) (ob22 : Ob_undo Inv G) (ob23 : Ob_log Inv G) (ob24 : Ob_odds Inv G) (ob25 : Ob_queue Inv G) (ob26 : Ob_spades Inv G) (ob27 : Ob_free Inv G) (ob28 : Ob_marks Inv G) (ob29 : Ob_game Inv G) (ob30 : Ob_share Inv G) (ob31 : Ob_season Inv G) (ob32 : Ob_drawn Inv G) (ob33 : Ob_image Inv G) (ob34 : Ob_back Inv G) (ob35 : Ob_count Inv G) (ob36 : Ob_status Inv G) (hL : L ≤ 3072) (C0 : lw_At p s m meth c b L xs) : W p l e room_1 s m #[Value.ref b] below meth c s.heap [] 0 0 (lw_Z below #[Value.ref b] s) (entryFrame m ([Value.ref b] : List Value).toArray 4) := by
  obtain ⟨hx, hb, hr, hml, hown, hts, hX, hbl, hlocks, hgv⟩ := id C0
  have hB : ∀ w ∈ az_B, w.before #[Value.ref b] s = true := fun w hw => hts w (az_Bt w hw)
  have hs := flat_of_before _ hgv
  have hN := az_nw0 hts
  obtain ⟨E, hK⟩ := az_known hB hN
  obtain ⟨g, hE⟩ := az_E0 (A := fun q => s.heap.size ≤ q) hts hs (fun a h => Nat.not_le.mpr h)
  generalize hY : ((p, l, e, room_1, s, m, #[Value.ref b], below, meth, c, (fun q => s.heap.size ≤ q), 0, 0) : az_Y) = Y
  have K : kz_C Y E code 4 RL ret 100 := by
    rw [← hY]
    exact ⟨⟨hx, hb, hml, hown, hB⟩, hr, hlocks, hK, hN, fun q h => h, by show 100 ≤ 2048; decide, by show 100 * 100 ≤ 84000; decide⟩
  have hcl : Y.2.2.2.1.cells = 600000 := by rw [← hY]; rfl
  have hsl : Y.2.2.2.1.slots = 7302250 := by rw [← hY]; rfl
  have key : KA Y E (lw_Z below #[Value.ref b] s) 4 0 0 [] 0 [(0, .ref b)] [] := by
    refine kz_new (fs := [.null, .null, .null, .null, .null, .null, .null, .null, .null, .null, .null, .null, .int 0, .int 0, .int 0, .int 0]) K ln_L_7 df_X11 (by rw [hcl]; decide) (by rw [hsl]; decide) dL_law_0 (fun q0 => ?_)
    refine kz_dup K dL_law_3 rfl ?_
    refine kz_init (wr := []) (wc := [(q0, .inr (11, [.null, .null, .null, .null, .null, .null, .null, .null, .null, .null, .null, .null, .int 0, .int 0, .int 0, .int 0]))]) (rest := [.ref q0]) K [] (k_X11_init q0) (by decide) lc_L_9 [0] [] (by decide) rfl rfl (by decide) (by decide) rfl rfl (Nat.le_of_ble_eq_true rfl) dL_law_4 (by rw [hcl]; decide) (by rw [hsl]; decide) (fun w1 hw => ?_)
    obtain ⟨q1, q2, q3, q4, q5, q6, q7, q8, q9, q10, q11, q12, q13, q14, q15, q16, q17, q18, q19, q20, q21, q22, q23, q24, q25, q26, q27, q28, q29, q30, q31, q32, q33, q34, q35, q36, q37, q38, q39, rfl⟩ := hw
    refine kz_eq (ws2 := [(q0, .inr (11, [.ref q1, .ref q3, .ref q5, .ref q15, .ref q19, .ref q7, .ref q21, .ref q28, .ref q34, .ref q10, .ref q11, .ref q12, .int 0, .int (-1), .int 0, .int (-1)])), (q1, .inr (4, [.ref q2])), (q2, .inl (E.2 0, 145, .inl (az_found))), (q3, .inr (0, [.ref q4, .int 0, .int (-1)])), (q4, .inl (E.2 3, 6, .inr (.inr (.inr (.inr (fun _ => none)))))), (q5, .inr (9, [.ref q6, .int 0])), (q6, .inl (E.2 0, 400, .inl (fun _ => 0))), (q7, .inr (3, [.ref q8, .ref q9, .int 0, .int 0])), (q8, .inl (E.2 0, 16, .inl (fun _ => 0))), (q9, .inl (E.2 0, 2320, .inl (fun _ => 0))), (q10, .inl (E.2 4, 2, .inr (.inr (.inr (.inr (fun _ => none)))))), (q11, .inl (E.2 5, 2, .inr (.inr (.inr (.inr (fun _ => none)))))), (q12, .inl (E.2 0, 5, .inl (fun _ => 0))), (q13, .inr (6, [.ref q14])), (q14, .inl (E.2 0, 51, .inl (fun _ => 0))), (q15, .inr (5, [.ref q16, .ref q5, .int 0, .int 0, .int 0, .int 0, .int 0, .int 0, .int 0])), (q16, .inr (10, [.ref q17, .ref q18, .int 0, .int 0])), (q17, .inl (E.2 0, 400, .inl (fun _ => 0))), (q18, .inl (E.2 0, 72, .inl (fun _ => 0))), (q19, .inr (8, [.int 0, .ref q3, .ref q13, .ref q20])), (q20, .inl (E.2 0, 11, .inl (fun _ => 0))), (q21, .inr (1, [.int 0, .int 0, .ref q1, .ref q19, .ref q7, .ref q13, .ref q22, .ref q24, .ref q27])), (q22, .inr (4, [.ref q23])), (q23, .inl (E.2 0, 145, .inl (fun _ => 0))), (q24, .inr (3, [.ref q25, .ref q26, .int 0, .int 0])), (q25, .inl (E.2 0, 16, .inl (fun _ => 0))), (q26, .inl (E.2 0, 2320, .inl (fun _ => 0))), (q27, .inl (E.2 0, 28, .inl (fun _ => 0))), (q28, .inr (2, [.ref q29, .int 0, .int 0, .int 0, .ref q1, .ref q19, .ref q30, .ref q32, .ref q33])), (q29, .inl (E.2 0, 6, .inl (fun _ => 0))), (q30, .inr (4, [.ref q31])), (q31, .inl (E.2 0, 145, .inl (fun _ => 0))), (q32, .inl (E.2 0, 4, .inl (fun _ => 0))), (q33, .inl (E.2 2, 1000, .inl (fun _ => 0))), (q34, .inr (7, [.int 0, .int 0, .int 0, .int 0, .ref q1, .ref q19, .ref q35, .ref q37, .ref q38, .ref q39, .int 0, .int 0, .int 0, .int 0])), (q35, .inr (4, [.ref q36])), (q36, .inl (E.2 0, 145, .inl (fun _ => 0))), (q37, .inl (E.2 0, 136, .inl (fun _ => 0))), (q38, .inl (E.2 0, 128, .inl (fun _ => 0))), (q39, .inl (E.2 0, 2176, .inl (fun _ => 0)))]) rfl ?_
    refine kz_astore_n K dL_law_7 rfl (by decide) rfl ?_
    refine kz_new (fs := [.int 0, .int 0, .null, .null, .null, .null, .null, .null, .int 0, .null, .null, .int 0, .null, .int 0, .int 0, .int 0, .int 0, .long 0, .int 0, .int 0, .int 0, .int 0, .null, .int 0, .null, .null, .int 0, .null, .null, .int 0, .int 0, .null, .null, .null, .int 0, .null, .null, .null, .int 0, .long 0, .long 0, .long 0, .null, .null, .null, .null, .null, .int 0, .int 0, .null, .null, .null, .null, .int 0, .int 0, .int 0, .int 0, .null, .int 0]) K ln_L_10 df_X12 (by rw [hcl]; decide) (by rw [hsl]; decide) dL_law_8 (fun q40 => ?_)
    refine kz_eq (ws2 := [(q0, .inr (11, [.ref q1, .ref q3, .ref q5, .ref q15, .ref q19, .ref q7, .ref q21, .ref q28, .ref q34, .ref q10, .ref q11, .ref q12, .int 0, .int (-1), .int 0, .int (-1)])), (q1, .inr (4, [.ref q2])), (q2, .inl (E.2 0, 145, .inl (az_found))), (q3, .inr (0, [.ref q4, .int 0, .int (-1)])), (q4, .inl (E.2 3, 6, .inr (.inr (.inr (.inr (fun _ => none)))))), (q5, .inr (9, [.ref q6, .int 0])), (q6, .inl (E.2 0, 400, .inl (fun _ => 0))), (q7, .inr (3, [.ref q8, .ref q9, .int 0, .int 0])), (q8, .inl (E.2 0, 16, .inl (fun _ => 0))), (q9, .inl (E.2 0, 2320, .inl (fun _ => 0))), (q10, .inl (E.2 4, 2, .inr (.inr (.inr (.inr (fun _ => none)))))), (q11, .inl (E.2 5, 2, .inr (.inr (.inr (.inr (fun _ => none)))))), (q12, .inl (E.2 0, 5, .inl (fun _ => 0))), (q13, .inr (6, [.ref q14])), (q14, .inl (E.2 0, 51, .inl (fun _ => 0))), (q15, .inr (5, [.ref q16, .ref q5, .int 0, .int 0, .int 0, .int 0, .int 0, .int 0, .int 0])), (q16, .inr (10, [.ref q17, .ref q18, .int 0, .int 0])), (q17, .inl (E.2 0, 400, .inl (fun _ => 0))), (q18, .inl (E.2 0, 72, .inl (fun _ => 0))), (q19, .inr (8, [.int 0, .ref q3, .ref q13, .ref q20])), (q20, .inl (E.2 0, 11, .inl (fun _ => 0))), (q21, .inr (1, [.int 0, .int 0, .ref q1, .ref q19, .ref q7, .ref q13, .ref q22, .ref q24, .ref q27])), (q22, .inr (4, [.ref q23])), (q23, .inl (E.2 0, 145, .inl (fun _ => 0))), (q24, .inr (3, [.ref q25, .ref q26, .int 0, .int 0])), (q25, .inl (E.2 0, 16, .inl (fun _ => 0))), (q26, .inl (E.2 0, 2320, .inl (fun _ => 0))), (q27, .inl (E.2 0, 28, .inl (fun _ => 0))), (q28, .inr (2, [.ref q29, .int 0, .int 0, .int 0, .ref q1, .ref q19, .ref q30, .ref q32, .ref q33])), (q29, .inl (E.2 0, 6, .inl (fun _ => 0))), (q30, .inr (4, [.ref q31])), (q31, .inl (E.2 0, 145, .inl (fun _ => 0))), (q32, .inl (E.2 0, 4, .inl (fun _ => 0))), (q33, .inl (E.2 2, 1000, .inl (fun _ => 0))), (q34, .inr (7, [.int 0, .int 0, .int 0, .int 0, .ref q1, .ref q19, .ref q35, .ref q37, .ref q38, .ref q39, .int 0, .int 0, .int 0, .int 0])), (q35, .inr (4, [.ref q36])), (q36, .inl (E.2 0, 145, .inl (fun _ => 0))), (q37, .inl (E.2 0, 136, .inl (fun _ => 0))), (q38, .inl (E.2 0, 128, .inl (fun _ => 0))), (q39, .inl (E.2 0, 2176, .inl (fun _ => 0))), (q40, .inr (12, [.int 0, .int 0, .null, .null, .null, .null, .null, .null, .int 0, .null, .null, .int 0, .null, .int 0, .int 0, .int 0, .int 0, .long 0, .int 0, .int 0, .int 0, .int 0, .null, .int 0, .null, .null, .int 0, .null, .null, .int 0, .int 0, .null, .null, .null, .int 0, .null, .null, .null, .int 0, .long 0, .long 0, .long 0, .null, .null, .null, .null, .null, .int 0, .int 0, .null, .null, .null, .null, .int 0, .int 0, .int 0, .int 0, .null, .int 0]))]) rfl ?_
    refine kz_dup K dL_law_11 rfl ?_
    refine kz_init (wr := [(q0, .inr (11, [.ref q1, .ref q3, .ref q5, .ref q15, .ref q19, .ref q7, .ref q21, .ref q28, .ref q34, .ref q10, .ref q11, .ref q12, .int 0, .int (-1), .int 0, .int (-1)])), (q1, .inr (4, [.ref q2])), (q2, .inl (E.2 0, 145, .inl (az_found))), (q3, .inr (0, [.ref q4, .int 0, .int (-1)])), (q4, .inl (E.2 3, 6, .inr (.inr (.inr (.inr (fun _ => none)))))), (q5, .inr (9, [.ref q6, .int 0])), (q6, .inl (E.2 0, 400, .inl (fun _ => 0))), (q7, .inr (3, [.ref q8, .ref q9, .int 0, .int 0])), (q8, .inl (E.2 0, 16, .inl (fun _ => 0))), (q9, .inl (E.2 0, 2320, .inl (fun _ => 0))), (q10, .inl (E.2 4, 2, .inr (.inr (.inr (.inr (fun _ => none)))))), (q11, .inl (E.2 5, 2, .inr (.inr (.inr (.inr (fun _ => none)))))), (q12, .inl (E.2 0, 5, .inl (fun _ => 0))), (q13, .inr (6, [.ref q14])), (q14, .inl (E.2 0, 51, .inl (fun _ => 0))), (q15, .inr (5, [.ref q16, .ref q5, .int 0, .int 0, .int 0, .int 0, .int 0, .int 0, .int 0])), (q16, .inr (10, [.ref q17, .ref q18, .int 0, .int 0])), (q17, .inl (E.2 0, 400, .inl (fun _ => 0))), (q18, .inl (E.2 0, 72, .inl (fun _ => 0))), (q19, .inr (8, [.int 0, .ref q3, .ref q13, .ref q20])), (q20, .inl (E.2 0, 11, .inl (fun _ => 0))), (q21, .inr (1, [.int 0, .int 0, .ref q1, .ref q19, .ref q7, .ref q13, .ref q22, .ref q24, .ref q27])), (q22, .inr (4, [.ref q23])), (q23, .inl (E.2 0, 145, .inl (fun _ => 0))), (q24, .inr (3, [.ref q25, .ref q26, .int 0, .int 0])), (q25, .inl (E.2 0, 16, .inl (fun _ => 0))), (q26, .inl (E.2 0, 2320, .inl (fun _ => 0))), (q27, .inl (E.2 0, 28, .inl (fun _ => 0))), (q28, .inr (2, [.ref q29, .int 0, .int 0, .int 0, .ref q1, .ref q19, .ref q30, .ref q32, .ref q33])), (q29, .inl (E.2 0, 6, .inl (fun _ => 0))), (q30, .inr (4, [.ref q31])), (q31, .inl (E.2 0, 145, .inl (fun _ => 0))), (q32, .inl (E.2 0, 4, .inl (fun _ => 0))), (q33, .inl (E.2 2, 1000, .inl (fun _ => 0))), (q34, .inr (7, [.int 0, .int 0, .int 0, .int 0, .ref q1, .ref q19, .ref q35, .ref q37, .ref q38, .ref q39, .int 0, .int 0, .int 0, .int 0])), (q35, .inr (4, [.ref q36])), (q36, .inl (E.2 0, 145, .inl (fun _ => 0))), (q37, .inl (E.2 0, 136, .inl (fun _ => 0))), (q38, .inl (E.2 0, 128, .inl (fun _ => 0))), (q39, .inl (E.2 0, 2176, .inl (fun _ => 0)))]) (wc := [(q40, .inr (12, [.int 0, .int 0, .null, .null, .null, .null, .null, .null, .int 0, .null, .null, .int 0, .null, .int 0, .int 0, .int 0, .int 0, .long 0, .int 0, .int 0, .int 0, .int 0, .null, .int 0, .null, .null, .int 0, .null, .null, .int 0, .int 0, .null, .null, .null, .int 0, .null, .null, .null, .int 0, .long 0, .long 0, .long 0, .null, .null, .null, .null, .null, .int 0, .int 0, .null, .null, .null, .null, .int 0, .int 0, .int 0, .int 0, .null, .int 0]))]) (rest := [.ref q40]) K [] (k_X12_init q40) (by decide) lc_L_12 [40] [0, 1, 2, 3, 4, 5, 6, 7, 8, 9, 10, 11, 12, 13, 14, 15, 16, 17, 18, 19, 20, 21, 22, 23, 24, 25, 26, 27, 28, 29, 30, 31, 32, 33, 34, 35, 36, 37, 38, 39] (by decide) rfl rfl (by decide) (by decide) rfl rfl (Nat.le_of_ble_eq_true rfl) dL_law_12 (by rw [hcl]; decide) (by rw [hsl]; decide) (fun w1 hw => ?_)
    obtain ⟨q41, q42, q43, q44, q45, q46, q47, q48, q49, q50, q51, q52, q53, q54, q55, q56, q57, q58, q59, q60, q61, q62, q63, q64, q65, q66, q67, q68, q69, q70, rfl⟩ := hw
    refine kz_eq (ws2 := [(q0, .inr (11, [.ref q1, .ref q3, .ref q5, .ref q15, .ref q19, .ref q7, .ref q21, .ref q28, .ref q34, .ref q10, .ref q11, .ref q12, .int 0, .int (-1), .int 0, .int (-1)])), (q1, .inr (4, [.ref q2])), (q2, .inl (E.2 0, 145, .inl (az_found))), (q3, .inr (0, [.ref q4, .int 0, .int (-1)])), (q4, .inl (E.2 3, 6, .inr (.inr (.inr (.inr (fun _ => none)))))), (q5, .inr (9, [.ref q6, .int 0])), (q6, .inl (E.2 0, 400, .inl (fun _ => 0))), (q7, .inr (3, [.ref q8, .ref q9, .int 0, .int 0])), (q8, .inl (E.2 0, 16, .inl (fun _ => 0))), (q9, .inl (E.2 0, 2320, .inl (fun _ => 0))), (q10, .inl (E.2 4, 2, .inr (.inr (.inr (.inr (fun _ => none)))))), (q11, .inl (E.2 5, 2, .inr (.inr (.inr (.inr (fun _ => none)))))), (q12, .inl (E.2 0, 5, .inl (fun _ => 0))), (q13, .inr (6, [.ref q14])), (q14, .inl (E.2 0, 51, .inl (fun _ => 0))), (q15, .inr (5, [.ref q16, .ref q5, .int 0, .int 0, .int 0, .int 0, .int 0, .int 0, .int 0])), (q16, .inr (10, [.ref q17, .ref q18, .int 0, .int 0])), (q17, .inl (E.2 0, 400, .inl (fun _ => 0))), (q18, .inl (E.2 0, 72, .inl (fun _ => 0))), (q19, .inr (8, [.int 0, .ref q3, .ref q13, .ref q20])), (q20, .inl (E.2 0, 11, .inl (fun _ => 0))), (q21, .inr (1, [.int 0, .int 0, .ref q1, .ref q19, .ref q7, .ref q13, .ref q22, .ref q24, .ref q27])), (q22, .inr (4, [.ref q23])), (q23, .inl (E.2 0, 145, .inl (fun _ => 0))), (q24, .inr (3, [.ref q25, .ref q26, .int 0, .int 0])), (q25, .inl (E.2 0, 16, .inl (fun _ => 0))), (q26, .inl (E.2 0, 2320, .inl (fun _ => 0))), (q27, .inl (E.2 0, 28, .inl (fun _ => 0))), (q28, .inr (2, [.ref q29, .int 0, .int 0, .int 0, .ref q1, .ref q19, .ref q30, .ref q32, .ref q33])), (q29, .inl (E.2 0, 6, .inl (fun _ => 0))), (q30, .inr (4, [.ref q31])), (q31, .inl (E.2 0, 145, .inl (fun _ => 0))), (q32, .inl (E.2 0, 4, .inl (fun _ => 0))), (q33, .inl (E.2 2, 1000, .inl (fun _ => 0))), (q34, .inr (7, [.int 0, .int 0, .int 0, .int 0, .ref q1, .ref q19, .ref q35, .ref q37, .ref q38, .ref q39, .int 0, .int 0, .int 0, .int 0])), (q35, .inr (4, [.ref q36])), (q36, .inl (E.2 0, 145, .inl (fun _ => 0))), (q37, .inl (E.2 0, 136, .inl (fun _ => 0))), (q38, .inl (E.2 0, 128, .inl (fun _ => 0))), (q39, .inl (E.2 0, 2176, .inl (fun _ => 0))), (q40, .inr (12, [.int 0, .int 0, .ref q41, .ref q42, .ref q43, .ref q44, .ref q45, .ref q46, .int 0, .ref q47, .ref q48, .int 0, .ref q49, .int 0, .int 0, .int 0, .int 0, .long 0, .int (-1), .int 0, .int 0, .int 0, .ref q50, .int 0, .ref q51, .ref q52, .int 0, .ref q53, .ref q54, .int 0, .int 0, .ref q55, .ref q56, .ref q57, .int 0, .ref q58, .ref q59, .ref q60, .int 0, .long 0, .long 0, .long 0, .ref q61, .ref q62, .ref q63, .ref q64, .ref q65, .int 0, .int 0, .ref q66, .ref q67, .ref q68, .ref q69, .int 0, .int 0, .int (-1), .int 0, .ref q70, .int 0])), (q41, .inl (E.2 0, 7, .inl (fun _ => 0))), (q42, .inl (E.2 0, 5550, .inl (upd (upd (upd (upd (upd (fun _ => 0) 5 (-1)) 7 2) 8 20) 9 1) 11 100))), (q43, .inl (E.2 0, 11100, .inl (fun _ => 0))), (q44, .inl (E.2 2, 2, .inl (fun _ => 0))), (q45, .inl (E.2 0, 3150, .inl (fun _ => 0))), (q46, .inl (E.2 0, 16, .inl (fun _ => 0))), (q47, .inl (E.2 0, 2400, .inl (fun _ => 0))), (q48, .inl (E.2 0, 16, .inl (fun _ => 0))), (q49, .inl (E.2 0, 400, .inl (fun _ => 0))), (q50, .inl (E.2 0, 96, .inl (fun _ => 0))), (q51, .inl (E.2 0, 400, .inl (fun _ => 0))), (q52, .inl (E.2 0, 400, .inl (fun _ => 0))), (q53, .inl (E.2 0, 400, .inl (fun _ => 0))), (q54, .inl (E.2 0, 400, .inl (fun _ => 0))), (q55, .inl (E.2 1, 11, .inr (.inl (vp_updL (vp_updL (vp_updL (vp_updL (vp_updL (vp_updL (vp_updL (vp_updL (vp_updL (vp_updL (vp_updL (fun _ => 0) 0 542723566) 1 1325) 2 17171557) 3 370116) 4 263748) 5 4373139) 6 777297172) 7 208948) 8 611956) 9 4153) 10 441828)))), (q56, .inl (E.2 1, 8, .inr (.inl (vp_updL (vp_updL (vp_updL (vp_updL (vp_updL (vp_updL (vp_updL (vp_updL (fun _ => 0) 0 14839) 1 777297172) 2 208948) 3 611956) 4 146885) 5 5705892) 6 284244) 7 4373139)))), (q57, .inl (E.2 1, 5, .inr (.inl (vp_updL (vp_updL (vp_updL (vp_updL (vp_updL (fun _ => 0) 0 42419) 1 24282707) 2 219098518995) 3 556043443) 4 67155)))), (q58, .inl (E.2 1, 13, .inr (.inl (fun _ => 0)))), (q59, .inl (E.2 1, 13, .inr (.inl (fun _ => 0)))), (q60, .inl (E.2 1, 400, .inr (.inl (fun _ => 0)))), (q61, .inl (E.2 0, 4, .inl (fun _ => 0))), (q62, .inl (E.2 0, 7, .inl (fun _ => 0))), (q63, .inl (E.2 0, 7, .inl (fun _ => 0))), (q64, .inl (E.2 0, 7, .inl (fun _ => 0))), (q65, .inl (E.2 0, 1200, .inl (fun _ => 0))), (q66, .inl (E.2 0, 3, .inl (fun _ => 0))), (q67, .inl (E.2 0, 3, .inl (fun _ => 0))), (q68, .inl (E.2 2, 1000, .inl (fun _ => 0))), (q69, .inl (E.2 0, 96, .inl (fun _ => 0))), (q70, .inl (E.2 0, 6, .inl (fun _ => 0)))]) rfl ?_
    refine kz_astore_n K dL_law_15 rfl (by decide) rfl ?_
    refine kz_iconst (v := 0) K dL_law_16 (by decide) ?_
    refine kz_istore_n K dL_law_17 rfl (by decide) rfl ?_
    have C1 : ∀ k n, k ≤ 600000 → n ≤ 7302250 → az_C (az_Yc Y k n) (az_V0 E g [q0, q1, q2, q3, q4, q5, q6, q7, q8, q9, q10, q11, q12, q13, q14, q15, q16, q17, q18, q19, q20, q21, q22, q23, q24, q25, q26, q27, q28, q29, q30, q31, q32, q33, q34, q35, q36, q37, q38, q39, q40, q41, q42, q43, q44, q45, q46, q47, q48, q49, q50, q51, q52, q53, q54, q55, q56, q57, q58, q59, q60, q61, q62, q63, q64, q65, q66, q67, q68, q69, q70]) code 4 RL ret 100 := by
      intro k n h1 h2
      refine ⟨K.1, K.hr, K.hlk, K.hK, ?_, K.hA, ⟨K.hR.1, K.hR.2, ?_, ?_⟩, az_V0_L⟩
      · rw [← hY]; exact hE
      · show k ≤ Y.2.2.2.1.cells; rw [hcl]; exact h1
      · show n ≤ Y.2.2.2.1.slots; rw [hsl]; exact h2
    refine kz_of_az (V := az_V0 E g [q0, q1, q2, q3, q4, q5, q6, q7, q8, q9, q10, q11, q12, q13, q14, q15, q16, q17, q18, q19, q20, q21, q22, q23, q24, q25, q26, q27, q28, q29, q30, q31, q32, q33, q34, q35, q36, q37, q38, q39, q40, q41, q42, q43, q44, q45, q46, q47, q48, q49, q50, q51, q52, q53, q54, q55, q56, q57, q58, q59, q60, q61, q62, q63, q64, q65, q66, q67, q68, q69, q70]) (M := az_M0) rfl (az_w0 E g q0 q1 q2 q3 q4 q5 q6 q7 q8 q9 q10 q11 q12 q13 q14 q15 q16 q17 q18 q19 q20 q21 q22 q23 q24 q25 q26 q27 q28 q29 q30 q31 q32 q33 q34 q35 q36 q37 q38 q39 q40 q41 q42 q43 q44 q45 q46 q47 q48 q49 q50 q51 q52 q53 q54 q55 q56 q57 q58 q59 q60 q61 q62 q63 q64 q65 q66 q67 q68 q69 q70).symm ?_
    have hS : az_sc (p, l, e, room_1, s, m, #[Value.ref b], below, meth, c, (fun q => s.heap.size ≤ q), 0, 0) b L xs := ⟨hX, hbl, Nat.not_le.mpr hbl⟩
    have hloop := lw_loop obs ob0 ob1 ob2 ob3 ob4 ob5 ob6 ob7 ob8 ob9 ob10 ob11 ob12 ob13 ob14 ob15 ob16 ob17 ob18 ob19 ob20 ob21 ob22 ob23 ob24 ob25 ob26 ob27 ob28 ob29 ob30 ob31 ob32 ob33 ob34 ob35 ob36 hS hL 520 0 (by omega) (by omega)
    rw [hY] at hloop
    have h18 := hloop (az_V0 E g [q0, q1, q2, q3, q4, q5, q6, q7, q8, q9, q10, q11, q12, q13, q14, q15, q16, q17, q18, q19, q20, q21, q22, q23, q24, q25, q26, q27, q28, q29, q30, q31, q32, q33, q34, q35, q36, q37, q38, q39, q40, q41, q42, q43, q44, q45, q46, q47, q48, q49, q50, q51, q52, q53, q54, q55, q56, q57, q58, q59, q60, q61, q62, q63, q64, q65, q66, q67, q68, q69, q70]) az_M0 _ _ (C1 (0 + 1 + 39 + 1 + 30) (0 + az_N 11 + 9746 + az_N 12 + 27120) (by decide) (by decide)) hI0 (by decide) (by decide)
    refine az_sub [3, 2, 1, 0] rfl ?_
    exact h18
  have hl := lv_entry ([.ref b]) (n := 4) (Nat.le_of_ble_eq_true rfl)
  rw [lg_entry_eq]
  have := key s.heap [] _ ⟨fun k q h => by simp at h, ⟨fun i j p q h => by simp at h, fun k q h => by simp at h⟩, by rw [← hY]; exact va_S.rf⟩ hl
  rw [← hY] at this
  exact this
