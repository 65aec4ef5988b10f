/-! draws, and a quarrel that is over -/
def lI (k : Nat) : Int64 := Int64.ofNat k
theorem lI_toInt {k : Nat} (h : k < 9223372036854775808) : (lI k).toInt = (k : Int) := Int64.toInt_ofNat_of_lt h
theorem nI_64 {k : Nat} (h : k < 2147483648) : (nI k).toInt64 = lI k := by
  apply Int64.toInt_inj.mp
  rw [Int32.toInt_toInt64, n_int h, lI_toInt (by omega)]
theorem lI_32 {k : Nat} (h : k < 2147483648) : (lI k).toInt32 = nI k := by
  rw [← nI_64 h, Int32.toInt32_toInt64]
theorem l_mul (a b : Nat) : lI a * lI b = lI (a * b) := (Int64.ofNat_mul a b).symm
theorem l_add (a b : Nat) : lI a + lI b = lI (a + b) := (Int64.ofNat_add a b).symm
theorem l_sub {a b : Nat} (h : b ≤ a) : lI a - lI b = lI (a - b) := by
  have : lI a = lI (a - b) + lI b := by rw [l_add]; congr 1; omega
  rw [this, Int64.add_sub_cancel]
theorem l_div {a b : Nat} (ha : a < 9223372036854775808) (hb : b < 9223372036854775808) : lI a / lI b = lI (a / b) := by
  have hd : a / b < 9223372036854775808 := Nat.lt_of_le_of_lt (Nat.div_le_self a b) ha
  apply Int64.toInt_inj.mp
  rw [lI_toInt hd, Int64.toInt_div_of_ne_left _ _ (by intro h; have := congrArg Int64.toInt h; rw [lI_toInt ha] at this; have e : Int64.minValue.toInt = -9223372036854775808 := rfl; omega), lI_toInt ha, lI_toInt hb]
  rw [Int.tdiv_eq_ediv_of_nonneg (by omega)]; omega
theorem l_rem {a b : Nat} (ha : a < 9223372036854775808) (hb : b < 9223372036854775808) : az_reml (lI a) (lI b) = lI (a % b) := by
  have h : a / b * b ≤ a := Nat.div_mul_le_self a b
  unfold az_reml
  rw [l_div ha hb, l_mul, l_sub h]
  congr 1
  have := Nat.div_add_mod a b
  rw [Nat.mul_comm] at this
  omega
theorem l_eq0 {k : Nat} (h : k < 9223372036854775808) (h0 : 0 < k) : ¬ lI k = 0 := by
  intro hE
  have := congrArg Int64.toInt hE
  rw [lI_toInt h] at this
  have e : (0 : Int64).toInt = 0 := rfl
  omega
def sp_sd (s : Nat) : Nat := (s * 1103 + 12345) % 1000003
theorem sp_sd_lt (s : Nat) : sp_sd s ≤ 1000002 := by
  have := Nat.mod_lt (s * 1103 + 12345) (show 0 < 1000003 by decide)
  unfold sp_sd; omega
theorem p_draw {s p : Nat} {M : az_M} (hs : M.1 19 0 = nI s) (h : s ≤ 1000002) (h1 : 1 ≤ p) (h2 : p ≤ 100) : f_X8_draw (nI p) M = some (nI (sp_sd s % p), ro M 19 (up (M.1 19) 0 (nI (sp_sd s)))) := by
  have hl := sp_sd_lt s
  have e : az_rem (nI s * 1103 + 12345) 1000003 = nI (sp_sd s) := by
    rw [n_mulr, n_addr]; exact n_remr (c := 1000003) (by omega) (by decide)
  unfold f_X8_draw f_X8_draw_34
  rw [hs, e, az_i_ro, ro_eq, up_eq, n_rem (by omega) (by omega)]
  simp (disch := omega) only [n_addl, n_addr, n_add, n_mull, n_mulr, n_mul, n_sub, n_subr, n_subl, n_cl, n_lt, n_le, n_eq, n_ltl, n_ltr, n_lel, n_ler, n_eqr, n_eql, n_nm1, n_m1n, n_m1lt, n_ltm1, l_ltr, l_ltl, l_ler, l_lel, l_m1lt, l_nneg, if_true, if_false, or_false, false_or, or_true, true_or, and_true, true_and, and_false, false_and, not_true_eq_false, not_false_eq_true, Option.bind_some, Option.bind_none, reduceIte, ltT, ltF, leT, leF, eqT, eqF, nI_lt0]
theorem r_draw {s p : Nat} {M : az_M} (hs : M.2.1 40 41 = lI s) (h : s ≤ 1000002) (h1 : 1 ≤ p) (h2 : p ≤ 100) : f_X12_draw (nI p) M = some (nI (sp_sd s % p), az_l M 40 41 (lI (sp_sd s))) := by
  have hl := sp_sd_lt s
  have e : az_reml (lI s * 1103 + 12345) 1000003 = lI (sp_sd s) := by
    rw [show (1103 : Int64) = lI 1103 from rfl, show (12345 : Int64) = lI 12345 from rfl, show (1000003 : Int64) = lI 1000003 from rfl, l_mul, l_add, l_rem (by omega) (by decide)]; rfl
  have hlt : sp_sd s % p < p := Nat.mod_lt _ (by omega)
  unfold f_X12_draw
  rw [nI_64 (show p < 2147483648 by omega), if_neg (l_eq0 (by omega) (by omega)), hs, e, gl, if_pos rfl, if_pos rfl, l_rem (by omega) (by omega), lI_32 (by omega)]
/-- class and reference without the q-th quarrel -/
def sp_drop (N : Nat → Int32) (n q : Nat) : Nat → Int32 := up (cpy (cpy (cpy (cpy N N (93 + q + 1) (93 + q) (n - 1 - q)) (cpy N N (93 + q + 1) (93 + q) (n - 1 - q)) (100 + q + 1) (100 + q) (n - 1 - q)) (cpy (cpy N N (93 + q + 1) (93 + q) (n - 1 - q)) (cpy N N (93 + q + 1) (93 + q) (n - 1 - q)) (100 + q + 1) (100 + q) (n - 1 - q)) (107 + q + 1) (107 + q) (n - 1 - q)) (cpy (cpy (cpy N N (93 + q + 1) (93 + q) (n - 1 - q)) (cpy N N (93 + q + 1) (93 + q) (n - 1 - q)) (100 + q + 1) (100 + q) (n - 1 - q)) (cpy (cpy N N (93 + q + 1) (93 + q) (n - 1 - q)) (cpy N N (93 + q + 1) (93 + q) (n - 1 - q)) (100 + q + 1) (100 + q) (n - 1 - q)) (107 + q + 1) (107 + q) (n - 1 - q)) (114 + q + 1) (114 + q) (n - 1 - q)) 25 (nI (n - 1))
theorem drop_in {N : Nat → Int32} {n q : Nat} (hq : q < n) (hn : n ≤ 7) {x k : Nat} (hx : x = 93 ∨ x = 100 ∨ x = 107 ∨ x = 114) (hk : k < n - 1) : sp_drop N n q (x + k) = N (x + if k < q then k else k + 1) := by
  unfold sp_drop
  rw [up_ne (by omega)]
  rcases hx with rfl | rfl | rfl | rfl
  · rw [cpy_out (by omega), cpy_out (by omega), cpy_out (by omega)]
    by_cases h : k < q
    · rw [cpy_out (by omega), if_pos h]
    · rw [cpy_in (by omega), if_neg h]; congr 1; omega
  · rw [cpy_out (by omega), cpy_out (by omega)]
    by_cases h : k < q
    · rw [cpy_out (by omega), cpy_out (by omega), if_pos h]
    · rw [cpy_in (by omega), cpy_out (by omega), if_neg h]; congr 1; omega
  · rw [cpy_out (by omega)]
    by_cases h : k < q
    · rw [cpy_out (by omega), cpy_out (by omega), cpy_out (by omega), if_pos h]
    · rw [cpy_in (by omega), cpy_out (by omega), cpy_out (by omega), if_neg h]; congr 1; omega
  · by_cases h : k < q
    · rw [cpy_out (by omega), cpy_out (by omega), cpy_out (by omega), cpy_out (by omega), if_pos h]
    · rw [cpy_in (by omega), cpy_out (by omega), cpy_out (by omega), cpy_out (by omega), if_neg h]; congr 1; omega
theorem drop_out {N : Nat → Int32} {n q : Nat} (hn : n ≤ 7) (hq : q < n) {j : Nat} (hj : j ≠ 25) (h : j < 93 ∨ 121 ≤ j) : sp_drop N n q j = N j := by
  unfold sp_drop
  rw [up_ne hj, cpy_out (by omega), cpy_out (by omega), cpy_out (by omega), cpy_out (by omega)]
theorem p_dropQuarrel {o n q : Nat} {M : az_M} (hn : M.1 (o + 1) 25 = nI n) (hq : q < n) (h7 : n ≤ 7) : f_X4_dropQuarrel sp_G o (nI q) M = some (ro M (o + 1) (sp_drop (M.1 (o + 1)) n q)) := by
  have st : ∀ (F x : Nat) (h : Nat → Int32), x = 93 ∨ x = 100 ∨ x = 107 ∨ x = 114 → f_X4_dropQuarrel_15 sp_G o (F + 1) (nI q) (nI (n - 1 - q)) (nI x) (ro M (o + 1) h) = f_X4_dropQuarrel_15 sp_G o F (nI q) (nI (n - 1 - q)) (nI (x + 7)) (ro M (o + 1) (cpy h h (x + q + 1) (x + q) (n - 1 - q))) := by
    intro F x h hx
    rw [f_X4_dropQuarrel_15]
    simp (disch := omega) only [n_addl, n_addr, n_add, n_mull, n_mulr, n_mul, n_sub, n_subr, n_subl, n_cl, n_lt, n_le, n_eq, n_ltl, n_ltr, n_lel, n_ler, n_eqr, n_eql, n_nm1, n_m1n, n_m1lt, n_ltm1, l_ltr, l_ltl, l_ler, l_lel, l_m1lt, l_nneg, if_true, if_false, or_false, false_or, or_true, true_or, and_true, true_and, and_false, false_and, not_true_eq_false, not_false_eq_true, Option.bind_some, Option.bind_none, reduceIte, ltT, ltF, leT, leF, eqT, eqF, nI_lt0]
    rw [az_cp_ro, ro_eq, ro_ro]; rfl
  unfold f_X4_dropQuarrel
  rw [hn, show nI n - 1 - nI q = nI (n - 1 - q) by rw [n_subr (by omega), n_sub (by omega)]]
  show f_X4_dropQuarrel_15 sp_G o (999995 + 1 + 1 + 1 + 1 + 1) (nI q) (nI (n - 1 - q)) (nI 93) M = _
  rw [← ro_self M (o + 1), st _ 93 _ (by simp), st _ 100 _ (by simp), st _ 107 _ (by simp), st _ 114 _ (by simp), f_X4_dropQuarrel_15, if_pos (by decide), az_i_ro, ro_eq, ro_ro, ro_eq]
  rw [cpy_out (by omega), cpy_out (by omega), cpy_out (by omega), cpy_out (by omega), hn, n_subr (by omega), ro_ro]
  rfl
def rDrop (R : Nat → Int32) (n q : Nat) : Nat → Int32 := up (cpy R R (99 + 4 * q) (95 + 4 * q) (24 - 4 * q)) 2 (nI (n - 1))
theorem r_dropQuarrel {n q : Nat} {M : az_M} (hn : M.1 42 2 = nI n) (hq : q < n) (h7 : n ≤ 7) : f_X12_dropQuarrel sp_G (nI q) M = some (ro M 42 (rDrop (M.1 42) n q)) := by
  unfold f_X12_dropQuarrel
  rw [n_mull, n_addl]
  have e : ∀ (F : Nat), 24 - 4 * q < F → f_X12_dropQuarrel_7 sp_G F (nI (95 + 4 * q)) M = some (ro M 42 (rDrop (M.1 42) n q)) := by
    intro F hF
    have := lp_fill (f := fun F i M => f_X12_dropQuarrel_7 sp_G F (nI (95 + 4 * q) + i) M) (fin := fun M => some (az_i M 42 2 (M.1 42 2 - 1))) (M := M) (k := 42) (d := 95 + 4 * q) (n := 24 - 4 * q) (g := fun i => M.1 42 (99 + 4 * q + i)) (F := F) ?_ ?_ hF
    · have e0 : nI (95 + 4 * q) + nI 0 = nI (95 + 4 * q) := by rw [n_add]; rfl
      rw [e0] at this
      rw [this, az_i_ro, ro_eq, ro_ro]
      refine congrArg (fun x => some (ro M 42 x)) ?_
      show up (cpy (M.1 42) (M.1 42) (99 + 4 * q) (95 + 4 * q) (24 - 4 * q)) 2 (cpy (M.1 42) (M.1 42) (99 + 4 * q) (95 + 4 * q) (24 - 4 * q) 2 - 1) = _
      rw [cpy_out (by omega), hn, n_subr (by omega)]; rfl
    · intro F i h hi hh
      show f_X12_dropQuarrel_7 sp_G (F + 1) (nI (95 + 4 * q) + nI i) _ = f_X12_dropQuarrel_7 sp_G F (nI (95 + 4 * q) + nI (i + 1)) _
      rw [n_add, n_add, f_X12_dropQuarrel_7]
      simp (disch := omega) only [n_addl, n_addr, n_add, n_mull, n_mulr, n_mul, n_sub, n_subr, n_subl, n_cl, n_lt, n_le, n_eq, n_ltl, n_ltr, n_lel, n_ler, n_eqr, n_eql, n_nm1, n_m1n, n_m1lt, n_ltm1, l_ltr, l_ltl, l_ler, l_lel, l_m1lt, l_nneg, if_true, if_false, or_false, false_or, or_true, true_or, and_true, true_and, and_false, false_and, not_true_eq_false, not_false_eq_true, Option.bind_some, Option.bind_none, reduceIte, ltT, ltF, leT, leF, eqT, eqF, nI_lt0, az_i_ro, ro_eq, ro_ro]
      rw [hh _ (by omega), show 95 + 4 * q + i + 4 = 99 + 4 * q + i by omega]
      rfl
    · intro F h
      show f_X12_dropQuarrel_7 sp_G (F + 1) (nI (95 + 4 * q) + nI (24 - 4 * q)) _ = _
      rw [n_add, f_X12_dropQuarrel_7]
      simp (disch := omega) only [n_addl, n_addr, n_add, n_mull, n_mulr, n_mul, n_sub, n_subr, n_subl, n_cl, n_lt, n_le, n_eq, n_ltl, n_ltr, n_lel, n_ler, n_eqr, n_eql, n_nm1, n_m1n, n_m1lt, n_ltm1, l_ltr, l_ltl, l_ler, l_lel, l_m1lt, l_nneg, if_true, if_false, or_false, false_or, or_true, true_or, and_true, true_and, and_false, false_and, not_true_eq_false, not_false_eq_true, Option.bind_some, Option.bind_none, reduceIte, ltT, ltF, leT, leF, eqT, eqF, nI_lt0]
  exact e sp_G (Nat.lt_of_le_of_lt (Nat.sub_le _ _) (by decide))
theorem drop_pr {N R : Nat → Int32} (h : sp_pr N R) {n q : Nat} (hn : N 25 = nI n) (hq : q < n) (h7 : n ≤ 7) : sp_pr (sp_drop N n q) (rDrop R n q) := by
  have e : (N 25).toNatClampNeg = n := by rw [hn, n_cl (by omega)]
  have h0 := h.eqv (by omega)
  rw [e] at h0
  have ro : ∀ j, j ≠ 2 → j < 95 ∨ 119 ≤ j → rDrop R n q j = R j := by
    intro j h2 hj
    unfold rDrop
    rw [up_ne h2, cpy_out (by omega)]
  have ri : ∀ k y, k < n - 1 → y < 4 → rDrop R n q (95 + y + 4 * k) = R (95 + y + 4 * if k < q then k else k + 1) := by
    intro k y hk hy
    unfold rDrop
    rw [up_ne (by omega)]
    by_cases hkq : k < q
    · rw [cpy_out (by omega), if_pos hkq]
    · rw [cpy_in (by omega), if_neg hkq]; congr 1; omega
  refine sp_eqv.pr (n := n - 1) (fun j hj hl => ?_) (by unfold sp_drop; rw [up_eq]) (by omega)
  by_cases h25 : j = 25
  · subst h25; unfold sp_drop rDrop; rw [up_eq]; exact (up_eq _ _ _).symm
  · by_cases hj1 : j < 93 ∨ 121 ≤ j
    · have ht := sp_tr_lt j hj
      have hne : ∀ k, k < 7 → sp_tr j ≠ 95 + 4 * k ∧ sp_tr j ≠ 96 + 4 * k ∧ sp_tr j ≠ 97 + 4 * k ∧ sp_tr j ≠ 98 + 4 * k := fun k hk => by
        rw [← tr_93 hk, ← tr_100 hk, ← tr_107 hk, ← tr_114 hk]
        exact ⟨sp_tr_inj _ hj _ (by omega) (by omega), sp_tr_inj _ hj _ (by omega) (by omega), sp_tr_inj _ hj _ (by omega) (by omega), sp_tr_inj _ hj _ (by omega) (by omega)⟩
      have h2 : sp_tr j ≠ 2 := fun hE => absurd hE (sp_tr_inj j hj 25 (by omega) h25)
      rw [drop_out h7 hq h25 hj1, ro _ h2 (by
        by_cases ha : sp_tr j < 95
        · exact Or.inl ha
        · by_cases hb : sp_tr j < 119
          · exfalso
            obtain ⟨n1, n2, n3, n4⟩ := hne ((sp_tr j - 95) / 4) (by omega)
            omega
          · exact Or.inr (by omega))]
      exact h0 j hj (by unfold sp_live at hl ⊢; omega)
    · have hl' : sp_live (n - 1) j := hl
      unfold sp_live at hl'
      rcases (show (93 ≤ j ∧ j < 100) ∨ (100 ≤ j ∧ j < 107) ∨ (107 ≤ j ∧ j < 114) ∨ (114 ≤ j ∧ j < 121) by omega) with hc | hc | hc | hc
      · obtain ⟨k, rfl⟩ : ∃ k, j = 93 + k := ⟨j - 93, by omega⟩
        rw [drop_in hq h7 (by simp) (by omega), tr_93 (by omega), show 95 + 4 * k = 95 + 0 + 4 * k by omega, ri k 0 (by omega) (by omega)]
        have := h0 (93 + if k < q then k else k + 1) (by split <;> omega) (by unfold sp_live; split <;> omega)
        rw [this, tr_93 (by split <;> omega)]
      · obtain ⟨k, rfl⟩ : ∃ k, j = 100 + k := ⟨j - 100, by omega⟩
        rw [drop_in hq h7 (by simp) (by omega), tr_100 (by omega), show 96 + 4 * k = 95 + 1 + 4 * k by omega, ri k 1 (by omega) (by omega)]
        have := h0 (100 + if k < q then k else k + 1) (by split <;> omega) (by unfold sp_live; split <;> omega)
        rw [this, tr_100 (by split <;> omega)]
      · obtain ⟨k, rfl⟩ : ∃ k, j = 107 + k := ⟨j - 107, by omega⟩
        rw [drop_in hq h7 (by simp) (by omega), tr_107 (by omega), show 97 + 4 * k = 95 + 2 + 4 * k by omega, ri k 2 (by omega) (by omega)]
        have := h0 (107 + if k < q then k else k + 1) (by split <;> omega) (by unfold sp_live; split <;> omega)
        rw [this, tr_107 (by split <;> omega)]
      · obtain ⟨k, rfl⟩ : ∃ k, j = 114 + k := ⟨j - 114, by omega⟩
        rw [drop_in hq h7 (by simp) (by omega), tr_114 (by omega), show 98 + 4 * k = 95 + 3 + 4 * k by omega, ri k 3 (by omega) (by omega)]
        have := h0 (114 + if k < q then k else k + 1) (by split <;> omega) (by unfold sp_live; split <;> omega)
        rw [this, tr_114 (by split <;> omega)]
theorem drop_rg {B : Nat} {N : Nat → Int32} (h : sp_rg B N) {n q : Nat} (hn : N 25 = nI n) (hq : q < n) (h7 : n ≤ 7) : sp_rg B (sp_drop N n q) := by
  have K : ∀ j, j ≠ 25 → j < 93 → sp_drop N n q j = N j := fun j h1 h2 => drop_out h7 hq h1 (Or.inl h2)
  have k25 : sp_drop N n q 25 = nI (n - 1) := by unfold sp_drop; rw [up_eq]
  obtain ⟨⟨a0, a1, a2, a3⟩, ⟨b0, b1, b2, b3, b4⟩, ⟨c1, c2⟩, ⟨d0, d1, d2, d3⟩, e, f, g⟩ := h
  unfold sp_rg
  rw [K 0 (by decide) (by decide), K 1 (by decide) (by decide), K 2 (by decide) (by decide), K 3 (by decide) (by decide), K 16 (by decide) (by decide), K 17 (by decide) (by decide), K 18 (by decide) (by decide), K 19 (by decide) (by decide), K 20 (by decide) (by decide), K 21 (by decide) (by decide), K 22 (by decide) (by decide), K 23 (by decide) (by decide), K 24 (by decide) (by decide), K 26 (by decide) (by decide), k25]
  refine ⟨⟨a0, a1, a2, a3⟩, ⟨b0, b1, b2, b3, b4⟩, ⟨c1, c2⟩, ⟨d0, d1, by rw [sp_in_nI (by omega)]; omega, d3⟩, fun p hp => ?_, fun p hp => ?_, fun k hk => ?_⟩
  · rw [K _ (by omega) (by omega), K _ (by omega) (by omega), K _ (by omega) (by omega), K _ (by omega) (by omega)]; exact e p hp
  · rw [K _ (by omega) (by omega), K _ (by omega) (by omega), K _ (by omega) (by omega)]; exact f p hp
  · rw [n_cl (by omega)] at hk
    rw [drop_in hq h7 (by simp) hk, drop_in hq h7 (by simp) hk, drop_in hq h7 (by simp) hk, drop_in hq h7 (by simp) hk]
    exact g _ (by rw [hn, n_cl (by omega)]; split <;> omega)
