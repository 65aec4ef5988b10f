/-! undo and rest -/
theorem sp_past.nat {B : Nat} {el cnt : Int32} {kinds prov : Nat → Int32} {n : Int32} {sorts und : Nat → Int32} (h : sp_past B el cnt kinds prov n sorts und) : ∃ e c, e < 16 ∧ c ≤ 16 ∧ el = nI e ∧ cnt = nI c ∧ n = nI c := by
  obtain ⟨e, c, h1, h2, h3, h4, h5, h6⟩ := h
  exact ⟨e, c, h1, h2, h3, h4, h5⟩
theorem sp_past.nth {B e c : Nat} {kinds prov sorts und : Nat → Int32} (h : sp_past B (nI e) (nI c) kinds prov (nI c) sorts und) (he : e < 16) (hc : c ≤ 16) {k : Nat} (hk : k < c) : kinds ((e + k) % 16) = sorts k ∧ sp_in (sorts k) 0 2 ∧ sp_pr (fun j => prov (145 * ((e + k) % 16) + j)) (fun j => und (150 * k + j)) ∧ sp_rg B (fun j => prov (145 * ((e + k) % 16) + j)) := by
  obtain ⟨e0, c0, a1, a2, a3, a4, a5, a6⟩ := h
  rw [n_eq (by omega) (by omega)] at a3
  rw [n_eq (by omega) (by omega)] at a4
  subst a3 a4
  exact a6 k hk
theorem sp_past.pop {B e c : Nat} {kinds prov sorts und : Nat → Int32} (h : sp_past B (nI e) (nI (c + 1)) kinds prov (nI (c + 1)) sorts und) (he : e < 16) (hc : c + 1 ≤ 16) : sp_past B (nI e) (nI c) kinds prov (nI c) sorts und :=
  ⟨e, c, he, by omega, rfl, rfl, rfl, fun k hk => h.nth he hc (by omega)⟩
theorem p_settleDeed0 {v : Int32} (h : 0 ≤ v) (M : az_M) : f_X11_settleDeed v M = some (v, az_i (az_i M 0 12 0) 34 13 0) := by
  unfold f_X11_settleDeed
  rw [if_pos h]; rfl
theorem ob_undo : Ob_undo az_Inv sp_G := by
  intro m Z M _ h
  obtain ⟨g1, g2, g3, ⟨ls, g4, g4b⟩, g5, g6, g7, g8, g9, g10, g11⟩ := h.mono
  obtain ⟨e, c, he, hc, e1, e2, e3⟩ := g8.nat
  rw [e1, e2, e3] at g8
  rcases Nat.eq_zero_or_pos c with h0 | h0
  · subst h0
    refine ⟨-3, p_rc M (-3) 2, _, ?_, ?_, h.refuse (v := -3) (j := 2) (j' := 3) (by simp)⟩
    · unfold f_X11_undo; rw [e2, if_pos (show nI 0 = 0 from rfl)]; rfl
    · unfold f_X12_undo
      rw [show (az_i (p_rc M (-3) 2) 40 0 0).1 40 8 = nI 0 from e3, if_pos (show nI 0 = 0 from rfl)]; rfl
  · obtain ⟨c, rfl⟩ : ∃ c', c = c' + 1 := ⟨c - 1, by omega⟩
    have hs : (e + c) % 16 < 16 := Nat.mod_lt _ (by decide)
    obtain ⟨x, y, z, w⟩ := g8.nth he hc (k := c) (by omega)
    obtain ⟨v, hv, _, hv2⟩ := y.nat (by decide) (by decide)
    have hM : M.1 7 3 - 1 = nI c := by rw [e2, n_subr (by omega)]; rfl
    have t1 : f_X3_takeBack 7 1 M = some (nI v, ro (az_i M 7 3 (nI c)) 2 (cpy (M.1 9) (M.1 2) (145 * ((e + c) % 16)) 0 145)) := by
      unfold f_X3_takeBack
      rw [hM, e2]
      rw [show (az_i M 7 3 (nI c)).1 7 2 = nI e from e1, show (az_i M 7 3 (nI c)).1 7 3 = nI c from rfl]
      simp (disch := omega) only [n_addl, n_addr, n_add, n_mull, n_mulr, n_mul, n_sub, n_subr, n_subl, n_cl, n_lt, n_le, n_eq, n_ltl, n_ltr, n_lel, n_ler, n_eqr, n_eql, n_nm1, n_m1n, n_m1lt, n_ltm1, l_ltr, l_ltl, l_ler, l_lel, l_m1lt, l_nneg, n_remr, if_true, if_false, or_false, false_or, or_true, true_or, and_true, true_and, and_false, false_and, not_true_eq_false, not_false_eq_true, Option.bind_some, Option.bind_none, reduceIte, ltT, ltF, leT, leF, eqT, eqF, nI_lt0]
      rw [show (e + c) % 16 * 145 = 145 * ((e + c) % 16) from Nat.mul_comm _ _, az_cp_ro]
      show some (M.1 8 ((e + c) % 16), _) = _
      rw [x, hv]; rfl
    refine ⟨nI v, az_i (az_i (ro (az_i M 7 3 (nI c)) 2 (cpy (M.1 9) (M.1 2) (145 * ((e + c) % 16)) 0 145)) 0 12 0) 34 13 0, az_i (ro (az_i (az_i (az_i (az_i (ro (az_i M 7 3 (nI c)) 2 (cpy (M.1 9) (M.1 2) (145 * ((e + c) % 16)) 0 145)) 0 12 0) 34 13 0) 40 0 0) 40 8 (nI c)) 42 (r_back (M.1 42) (M.1 45) c)) 40 1 0, ?_, ?_, ?_⟩
    · unfold f_X11_undo
      rw [e2, t1]
      simp (disch := omega) only [n_addl, n_addr, n_add, n_mull, n_mulr, n_mul, n_sub, n_subr, n_subl, n_cl, n_lt, n_le, n_eq, n_ltl, n_ltr, n_lel, n_ler, n_eqr, n_eql, n_nm1, n_m1n, n_m1lt, n_ltm1, l_ltr, l_ltl, l_ler, l_lel, l_m1lt, l_nneg, if_true, if_false, or_false, false_or, or_true, true_or, and_true, true_and, and_false, false_and, not_true_eq_false, not_false_eq_true, Option.bind_some, Option.bind_none, reduceIte, ltT, ltF, leT, leF, eqT, eqF, nI_lt0]
      rfl
    · unfold f_X12_undo
      rw [show (az_i (az_i (az_i (ro (az_i M 7 3 (nI c)) 2 (cpy (M.1 9) (M.1 2) (145 * ((e + c) % 16)) 0 145)) 0 12 0) 34 13 0) 40 0 0).1 40 8 = nI (c + 1) from e3]
      rw [show nI (c + 1) - 1 = nI c by rw [n_subr (by omega)]; rfl]
      simp (disch := omega) only [n_addl, n_addr, n_add, n_mull, n_mulr, n_mul, n_sub, n_subr, n_subl, n_cl, n_lt, n_le, n_eq, n_ltl, n_ltr, n_lel, n_ler, n_eqr, n_eql, n_nm1, n_m1n, n_m1lt, n_ltm1, l_ltr, l_ltl, l_ler, l_lel, l_m1lt, l_nneg, if_true, if_false, or_false, false_or, or_true, true_or, and_true, true_and, and_false, false_and, not_true_eq_false, not_false_eq_true, Option.bind_some, Option.bind_none, reduceIte, ltT, ltF, leT, leF, eqT, eqF, nI_lt0]
      rw [show (az_i (az_i (az_i (az_i (ro (az_i M 7 3 (nI c)) 2 (cpy (M.1 9) (M.1 2) (145 * ((e + c) % 16)) 0 145)) 0 12 0) 34 13 0) 40 0 0) 40 8 (nI c)).1 40 8 = nI c from rfl, p_putBack (by omega), Option.bind_some]
      rw [ro_ne (by decide), show (az_i (az_i (az_i (az_i (ro (az_i M 7 3 (nI c)) 2 (cpy (M.1 9) (M.1 2) (145 * ((e + c) % 16)) 0 145)) 0 12 0) 34 13 0) 40 0 0) 40 8 (nI c)).1 40 8 = nI c from rfl]
      simp (disch := omega) only [n_addl, n_addr, n_add, n_mull, n_mulr, n_mul, n_sub, n_subr, n_subl, n_cl, n_lt, n_le, n_eq, n_ltl, n_ltr, n_lel, n_ler, n_eqr, n_eql, n_nm1, n_m1n, n_m1lt, n_ltm1, l_ltr, l_ltl, l_ler, l_lel, l_m1lt, l_nneg, if_true, if_false, or_false, false_or, or_true, true_or, and_true, true_and, and_false, false_and, not_true_eq_false, not_false_eq_true, Option.bind_some, Option.bind_none, reduceIte, ltT, ltF, leT, leF, eqT, eqF, nI_lt0]
      rw [ro_ne (by decide), show (az_i (az_i (az_i (az_i (ro (az_i M 7 3 (nI c)) 2 (cpy (M.1 9) (M.1 2) (145 * ((e + c) % 16)) 0 145)) 0 12 0) 34 13 0) 40 0 0) 40 8 (nI c)).1 46 c = nI v from hv, p_tell (nI_pos' (by omega))]
      rfl
    · have hN : ∀ j, j < 145 → cpy (M.1 9) (M.1 2) (145 * ((e + c) % 16)) 0 145 j = M.1 9 (145 * ((e + c) % 16) + j) := fun j hj => by
        rw [cpy_in (by omega), Nat.sub_zero]
      refine h.step (by omega) ⟨?_, w.congN hN⟩ rfl rfl (fun j hj => ?_) (fun k hk => ?_) rfl (Or.inl rfl) g5 ⟨rfl, g6.2⟩ g7 ?_ rfl rfl g10 g11.1 (fun _ _ => rfl)
      · refine sp_pr.congN hN w.q7 (sp_pr.congR' (fun j h1 h4 h5 => ?_) w.q7 z)
        show r_back (M.1 42) (M.1 45) c j = _
        unfold r_back
        rw [if_pos (by omega)]
      · show r_back (M.1 42) (M.1 45) c j = _
        unfold r_back
        rw [if_neg (by omega)]
      · rw [gi_k (by omega), ro_ne (by omega), gi_k (by omega), gi_k (by omega), gi_k (by omega), gi_k (by omega), ro_ne (by omega), gi_k (by omega)]
      · show sp_past _ (M.1 7 2) (nI c) (M.1 8) (M.1 9) (nI c) (M.1 46) (M.1 45)
        rw [e1]; exact g8.pop he hc
/-! days -/
theorem p_within (x lo hi : Int32) (M : az_M) : f_X12_within x.toInt64 lo hi M = some (if lo ≤ x then (if x ≤ hi then x else hi) else lo) := by
  unfold f_X12_within f_X12_within_24
  have h1 : (lo.toInt64 ≤ x.toInt64) = (lo ≤ x) := by
    rw [Int64.le_iff_toInt_le, Int32.le_iff_toInt_le, Int32.toInt_toInt64, Int32.toInt_toInt64]
  have h2 : (x.toInt64 ≤ hi.toInt64) = (x ≤ hi) := by
    rw [Int64.le_iff_toInt_le, Int32.le_iff_toInt_le, Int32.toInt_toInt64, Int32.toInt_toInt64]
  simp only [h1, h2, Int32.toInt32_toInt64]
  split
  · split <;> rfl
  · rfl
def dN (N : Nat → Int32) (d r n : Nat) : Nat → Int32 := up (up N 16 (nI (d + min n (999 - d)))) 2 (nI (min (r + min n (999 - d)) 99))
def dR (R : Nat → Int32) (d r n : Nat) : Nat → Int32 := up (up R 13 (nI (min (r + min n (999 - d)) 99))) 6 (nI (d + min n (999 - d)))
theorem n_min {a b : Nat} (ha : a < 2147483648) (hb : b < 2147483648) : (if nI a < nI b then nI a else nI b) = nI (min a b) := by
  simp only [n_lt ha hb]
  by_cases h : a < b
  · rw [if_pos h, Nat.min_eq_left (by omega)]
  · rw [if_neg h, Nat.min_eq_right (by omega)]
theorem sp_days_nat {N : Nat → Int32} {d r n : Nat} (hd : N 16 = nI d) (hr : N 2 = nI r) (h1 : d ≤ 999) (h2 : r ≤ 99) (hn : n < 1000000) : sp_days N (nI n) = dN N d r n := by
  have e : (if 999 - nI d < nI n then 999 - nI d else nI n) = nI (min n (999 - d)) := by
    rw [n_subl (by omega), show (if nI (999 - d) < nI n then nI (999 - d) else nI n) = nI (min (999 - d) n) from n_min (by omega) (by omega), Nat.min_comm]
  funext j
  unfold sp_days dN
  rw [hd, hr, e, n_add, n_add]
  by_cases h : j = 16
  · subst h; rw [if_pos rfl, up_ne (by decide), up_eq]
  · rw [if_neg h]
    by_cases h' : j = 2
    · subst h'; rw [if_pos rfl, up_eq]; exact n_min (b := 99) (by omega) (by omega)
    · rw [if_neg h', up_ne h', up_ne h]
theorem p_passDays (o : Nat) (n : Int32) (M : az_M) : f_X4_passDays o n M = some (ro M (o + 1) (sp_days (M.1 (o + 1)) n)) := by
  unfold f_X4_passDays
  rw [az_i_ro, az_i_ro, ro_eq, ro_ro]
  refine congrArg (fun x => some (ro M (o + 1) x)) (funext fun j => ?_)
  unfold sp_days
  by_cases h : j = 16
  · subst h; rw [if_pos rfl, up_ne (by decide), up_eq]
  · rw [if_neg h]
    by_cases h' : j = 2
    · subst h'; rw [if_pos rfl, up_eq]; rfl
    · rw [if_neg h', up_ne h', up_ne h]
theorem n_wi {v lo hi : Nat} (h1 : lo ≤ v) (h2 : v < 2147483648) (h3 : hi < 2147483648) : (if nI lo ≤ nI v then (if nI v ≤ nI hi then nI v else nI hi) else nI lo) = nI (min v hi) := by
  simp only [n_le (show lo < 2147483648 by omega) h2, n_le h2 h3, if_pos h1]
  by_cases h : v ≤ hi
  · rw [if_pos h, Nat.min_eq_left h]
  · rw [if_neg h, Nat.min_eq_right (by omega)]
theorem p_goDays {d r n : Nat} {M : az_M} (hd : M.1 42 6 = nI d) (hr : M.1 42 13 = nI r) (h1 : d ≤ 999) (h2 : r ≤ 99) (hn : n < 1000000) : f_X12_goDays (nI n) M = some (ro M 42 (dR (M.1 42) d r n)) := by
  unfold f_X12_goDays
  rw [show f_X12_term 0 M = some (nI d) from (p_term (k := 0) (by decide) M).trans (congrArg some hd), show f_X12_bulletOf 2 M = some (nI r) from (p_bulletOf (k := 2) (by decide) M).trans (congrArg some hr)]
  simp only [Option.bind_some]
  rw [n_add, p_within, show (if (0 : Int32) ≤ nI (d + n) then (if nI (d + n) ≤ 999 then nI (d + n) else 999) else 0) = nI (min (d + n) 999) from n_wi (lo := 0) (hi := 999) (by omega) (by omega) (by omega)]
  simp only [Option.bind_some]
  rw [show nI r + nI (min (d + n) 999) - nI d = nI (r + min n (999 - d)) by rw [n_add, n_sub (by omega)]; congr 1; omega, p_within, show (if (0 : Int32) ≤ nI (r + min n (999 - d)) then (if nI (r + min n (999 - d)) ≤ 99 then nI (r + min n (999 - d)) else 99) else 0) = nI (min (r + min n (999 - d)) 99) from n_wi (lo := 0) (hi := 99) (by omega) (by omega) (by omega)]
  simp only [Option.bind_some]
  rw [az_i_ro, az_i_ro, ro_eq, ro_ro, show min (d + n) 999 = d + min n (999 - d) by omega]
  rfl
theorem dN_pr {N R : Nat → Int32} (h : sp_pr N R) (hq : (N 25).toNatClampNeg ≤ 7) (d r n : Nat) : sp_pr (dN N d r n) (dR R d r n) := by
  unfold dN dR
  rw [up_comm R (by decide)]
  exact (h.upd hq (a := 16) (b := 6) (by decide) rfl (by decide) _).upd hq (a := 2) (b := 13) (by decide) rfl (by decide) _
theorem dN_rg {B : Nat} {N : Nat → Int32} (h : sp_rg B N) {d r : Nat} (h1 : d ≤ 999) (h2 : r ≤ 99) (n : Nat) : sp_rg B (dN N d r n) := by
  unfold dN
  refine (h.upd (a := 16) (by decide) (fun _ => ?_)).upd (a := 2) (by decide) (fun _ => ?_)
  · rw [sp_in_nI (by omega)]
    show (0 : Int) ≤ _ ∧ _ ≤ (999 : Int)
    omega
  · rw [sp_in_nI (by omega)]
    show (0 : Int) ≤ _ ∧ _ ≤ (99 : Int)
    omega
theorem ob_rest : Ob_rest az_Inv sp_G := by
  intro m Z M a1 _ h
  obtain ⟨g1, g2, g3, ⟨ls, g4, g4b⟩, g5, g6, g7, g8, g9, g10, g11⟩ := h.mono
  rcases r_cases a1 1 99 (by decide) (by decide) with ⟨n, hn1, hn2, rfl⟩ | ⟨hb, hi⟩
  · obtain ⟨e, c, he, hc, e1, e2, e3⟩ := g8.nat
    rw [e1, e2, e3] at g8
    obtain ⟨d, hd, _, hd2⟩ := g3.2.2.1.1.nat (by decide) (by decide)
    obtain ⟨r, hr, _, hr2⟩ := g3.2.1.2.2.1.nat (by decide) (by decide)
    obtain ⟨M1, e', c', s, f1, b1, b2, b3, b4, b5, b6, b7⟩ := p_keep e1 e2 he hc 2
    have n1 : M1.1 2 = M.1 2 := b1 2 (by decide) (by decide) (by decide)
    have hd1 : M.1 42 6 = nI d := (g3.1.2.1 0 (by decide)).symm.trans hd
    have hr1 : M.1 42 13 = nI r := g3.1.1.2.2.1.symm.trans hr
    have f2 : f_X1_tryRest (nI n) M = some (nI (d + min n (999 - d)), ro M1 2 (dN (M.1 2) d r n)) := by
      unfold f_X1_tryRest
      rw [f1, Option.bind_some, p_passDays, n1, sp_days_nat hd hr (by omega) (by omega) (by omega)]
      exact (i_good (lo := 1) (hi := 99) hn1 hn2 (by decide)).trans rfl
    have K1 : ∀ k, k ≠ 7 → k ≠ 8 → k ≠ 9 → k ≠ 2 → k ≠ 0 → k ≠ 34 → k ≠ 40 → (az_i (az_i (az_i (ro M1 2 (dN (M.1 2) d r n)) 0 12 0) 34 13 0) 40 0 0).1 k = M.1 k := fun k h7 h8 h9 h2 h0 h34 h40 => by
      rw [gi_k h40, gi_k h34, gi_k h0, ro_ne h2, b1 k h7 h8 h9]
    have J1 : ∀ j, j ≠ 0 → (az_i (az_i (az_i (ro M1 2 (dN (M.1 2) d r n)) 0 12 0) 34 13 0) 40 0 0).1 40 j = M.1 40 j := fun j h => by
      rw [gi, if_pos rfl, if_neg h, gi_k (by decide), gi_k (by decide), ro_ne (by decide), b1 40 (by decide) (by decide) (by decide)]
    obtain ⟨M2, d', f3, i1, i2, i3, i4, i5⟩ := p_rem (M := az_i (az_i (az_i (ro M1 2 (dN (M.1 2) d r n)) 0 12 0) 34 13 0) 40 0 0) (c := c) ((J1 8 (by decide)).trans e3) hc 2
    rw [K1 42 (by decide) (by decide) (by decide) (by decide) (by decide) (by decide) (by decide), K1 45 (by decide) (by decide) (by decide) (by decide) (by decide) (by decide) (by decide), K1 46 (by decide) (by decide) (by decide) (by decide) (by decide) (by decide) (by decide)] at i5
    have e42 : M2.1 42 = M.1 42 := (i1 42 (by decide) (by decide) (by decide)).trans (K1 42 (by decide) (by decide) (by decide) (by decide) (by decide) (by decide) (by decide))
    have f4 : f_X12_goDays (nI n) M2 = some (ro M2 42 (dR (M.1 42) d r n)) := by
      rw [p_goDays (d := d) (r := r) (by rw [e42]; exact hd1) (by rw [e42]; exact hr1) (by omega) (by omega) (by omega), e42]
    have K2 : ∀ k, k ≠ 7 → k ≠ 8 → k ≠ 9 → k ≠ 2 → k ≠ 0 → k ≠ 34 → k ≠ 40 → k ≠ 42 → k ≠ 45 → k ≠ 46 → (az_i (ro M2 42 (dR (M.1 42) d r n)) 40 1 0).1 k = M.1 k := fun k h7 h8 h9 h2 h0 h34 h40 h42 h45 h46 => by
      rw [gi_k h40, ro_ne h42, i1 k h40 h45 h46, K1 k h7 h8 h9 h2 h0 h34 h40]
    have J2 : ∀ j, j ≠ 0 → j ≠ 1 → j ≠ 8 → (az_i (ro M2 42 (dR (M.1 42) d r n)) 40 1 0).1 40 j = M.1 40 j := fun j h0 h1 h8 => by
      rw [gi, if_pos rfl, if_neg h1, ro_ne (by decide), i2 j h8, J1 j h0]
    refine ⟨nI (d + min n (999 - d)), az_i (az_i (ro M1 2 (dN (M.1 2) d r n)) 0 12 0) 34 13 0, az_i (ro M2 42 (dR (M.1 42) d r n)) 40 1 0, ?_, ?_, ?_⟩
    · unfold f_X11_rest
      rw [f2, Option.bind_some, p_settleDeed0 (nI_pos' (by omega))]; rfl
    · unfold f_X12_rest f_X12_restNow
      rw [show f_X12_in (nI n).toInt64 1 99 _ = some 1 from g_in hn1 hn2 (by decide) _, Option.bind_some, if_neg (by decide), f3, Option.bind_some, f4, Option.bind_some]
      rw [show f_X12_term 0 (ro M2 42 (dR (M.1 42) d r n)) = some (nI (d + min n (999 - d))) from p_term (k := 0) (by decide) _, Option.bind_some, Option.bind_some, p_tell (nI_pos' (by omega))]
      rfl
    · have k2 : (az_i (ro M2 42 (dR (M.1 42) d r n)) 40 1 0).1 2 = dN (M.1 2) d r n := by
        rw [gi_k (by decide), ro_ne (by decide), i1 2 (by decide) (by decide) (by decide)]; rfl
      have k42 : (az_i (ro M2 42 (dR (M.1 42) d r n)) 40 1 0).1 42 = dR (M.1 42) d r n := rfl
      have kk : ∀ k, k ≠ 40 → k ≠ 42 → k ≠ 45 → k ≠ 46 → (az_i (ro M2 42 (dR (M.1 42) d r n)) 40 1 0).1 k = (az_i (az_i (az_i (ro M1 2 (dN (M.1 2) d r n)) 0 12 0) 34 13 0) 40 0 0).1 k := fun k h1 h2 h3 h4 => by
        rw [gi_k h1, ro_ne h2, i1 k h1 h3 h4]
      have m0 : M1.1 0 = M.1 0 := b1 0 (by decide) (by decide) (by decide)
      refine h.step (by omega) ⟨?_, ?_⟩ ?_ ?_ ?_ (fun k hk => K2 k (by omega) (by omega) (by omega) (by omega) (by omega) (by omega) (by omega) (by omega) (by omega) (by omega)) ?_ (Or.inl ?_) ?_ ?_ ?_ ?_ (K2 43 (by decide) (by decide) (by decide) (by decide) (by decide) (by decide) (by decide) (by decide) (by decide) (by decide)) (K2 44 (by decide) (by decide) (by decide) (by decide) (by decide) (by decide) (by decide) (by decide) (by decide) (by decide)) ?_ ?_ ?_
      · rw [k2, k42]; exact dN_pr g3.1 g3.2.q7 d r n
      · rw [k2]; exact dN_rg g3.2 (by omega) (by omega) n
      · rw [K2 3 (by decide) (by decide) (by decide) (by decide) (by decide) (by decide) (by decide) (by decide) (by decide) (by decide)]
      · rw [K2 3 (by decide) (by decide) (by decide) (by decide) (by decide) (by decide) (by decide) (by decide) (by decide) (by decide)]
      · intro j hj; rw [k42]; unfold dR; rw [up_ne (by omega), up_ne (by omega)]
      · show M2.2.2 = M.2.2
        rw [i3]; show M1.2.2 = M.2.2; rw [b2]
      · rw [kk 34 (by decide) (by decide) (by decide) (by decide)]; rfl
      · rw [K2 5 (by decide) (by decide) (by decide) (by decide) (by decide) (by decide) (by decide) (by decide) (by decide) (by decide), K2 6 (by decide) (by decide) (by decide) (by decide) (by decide) (by decide) (by decide) (by decide) (by decide) (by decide), K2 49 (by decide) (by decide) (by decide) (by decide) (by decide) (by decide) (by decide) (by decide) (by decide) (by decide), J2 13 (by decide) (by decide) (by decide)]; exact g5
      · rw [kk 0 (by decide) (by decide) (by decide) (by decide), J2 18 (by decide) (by decide) (by decide), J2 11 (by decide) (by decide) (by decide), J2 55 (by decide) (by decide) (by decide)]
        refine ⟨rfl, ?_⟩
        show M1.1 0 13 = _ ∧ M1.1 0 14 = _ ∧ M1.1 0 15 = _
        rw [m0]; exact g6.2
      · rw [K2 12 (by decide) (by decide) (by decide) (by decide) (by decide) (by decide) (by decide) (by decide) (by decide) (by decide), K2 41 (by decide) (by decide) (by decide) (by decide) (by decide) (by decide) (by decide) (by decide) (by decide) (by decide)]; exact g7
      · rw [kk 7 (by decide) (by decide) (by decide) (by decide), kk 8 (by decide) (by decide) (by decide) (by decide), kk 9 (by decide) (by decide) (by decide) (by decide)]
        show sp_past _ (M1.1 7 2) (M1.1 7 3) (M1.1 8) (M1.1 9) (M2.1 40 8) (M2.1 46) (M2.1 45)
        rw [b3, b4, i4]
        exact past_push g8 he hc g3.1 g3.2 ⟨by decide, by decide⟩ b5 b6 b7 i5
      · rw [K2 28 (by decide) (by decide) (by decide) (by decide) (by decide) (by decide) (by decide) (by decide) (by decide) (by decide), K2 29 (by decide) (by decide) (by decide) (by decide) (by decide) (by decide) (by decide) (by decide) (by decide) (by decide), K2 70 (by decide) (by decide) (by decide) (by decide) (by decide) (by decide) (by decide) (by decide) (by decide) (by decide), J2 58 (by decide) (by decide) (by decide)]; exact g10
      · rw [J2 20 (by decide) (by decide) (by decide)]; exact g11.1
      · intro k _
        show M2.2.1 k = M.2.1 k
        rw [i3]; show M1.2.1 k = M.2.1 k; rw [b2]
  · refine t_refuse h (j := 0) (j' := 1) (v := -1) (by simp) ?_ (fun M => (congrArg (fun x => Option.bind (Option.bind x _) _) (hi _)).trans rfl)
    unfold f_X11_rest
    have e1 : f_X1_tryRest a1 M = some (-1, M) := by
      unfold f_X1_tryRest f_X1_tryRest_11
      exact i_bad (lo := 1) (hi := 99) hb
    rw [e1, Option.bind_some]
    unfold f_X11_settleDeed
    rw [if_neg (show ¬ (0 : Int32) ≤ -1 by decide), p_refuse1]
    rfl
