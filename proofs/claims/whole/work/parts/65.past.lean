/-! what can be undone -/
theorem up_comm (f : Nat → Int32) {i j : Nat} (h : i ≠ j) (a b : Int32) : up (up f i a) j b = up (up f j b) i a := by
  funext q
  by_cases h1 : q = j
  · subst h1; rw [up_eq, up_ne (fun e => h e.symm), up_eq]
  · rw [up_ne h1]
    by_cases h2 : q = i
    · subst h2; rw [up_eq, up_eq]
    · rw [up_ne h2, up_ne h2, up_ne h1]
theorem sp_pr.congN {N N' R : Nat → Int32} (hN : ∀ j, j < 145 → N' j = N j) (hq : (N 25).toNatClampNeg ≤ 7) (h : sp_pr N R) : sp_pr N' R := by
  have e := hN 25 (by decide)
  exact sp_pr.mk (by rw [e]; exact hq) (fun j hj hl => by rw [e] at hl; rw [hN j hj]; exact h.at hq hj hl)
theorem sp_rg.congN {B : Nat} {N N' : Nat → Int32} (hN : ∀ j, j < 145 → N' j = N j) (h : sp_rg B N) : sp_rg B N' := by
  have hq := h.q7
  obtain ⟨⟨a0, a1, a2, a3⟩, ⟨b0, b1, b2, b3, b4⟩, ⟨c1, c2⟩, ⟨d0, d1, d2, d3⟩, e, f, g⟩ := h
  unfold sp_rg
  rw [hN 0 (by decide), hN 1 (by decide), hN 2 (by decide), hN 3 (by decide), hN 16 (by decide), hN 17 (by decide), hN 18 (by decide), hN 19 (by decide), hN 20 (by decide), hN 21 (by decide), hN 22 (by decide), hN 23 (by decide), hN 24 (by decide), hN 25 (by decide), hN 26 (by decide)]
  refine ⟨⟨a0, a1, a2, a3⟩, ⟨b0, b1, b2, b3, b4⟩, ⟨c1, c2⟩, ⟨d0, d1, d2, d3⟩, fun p hp => ?_, fun p hp => ?_, fun q hq => ?_⟩
  · rw [hN _ (by omega), hN _ (by omega), hN _ (by omega), hN _ (by omega)]; exact e p hp
  · rw [hN _ (by omega), hN _ (by omega), hN _ (by omega)]; exact f p hp
  · rw [hN _ (by omega), hN _ (by omega), hN _ (by omega), hN _ (by omega)]; exact g q hq
theorem p_keep28 {e c : Nat} {M : az_M} (he : M.1 7 2 = nI e) (hc : M.1 7 3 = nI c) (h : e < 16) (h' : c < 16) (v : Int32) : ∃ M', f_X3_keep_28 7 1 v M = some M' ∧ (∀ k, k ≠ 7 → k ≠ 8 → k ≠ 9 → M'.1 k = M.1 k) ∧ M'.2 = M.2 ∧ M'.1 7 2 = nI e ∧ M'.1 7 3 = nI (c + 1) ∧ M'.1 8 = up (M.1 8) ((e + c) % 16) v ∧ M'.1 9 = cpy (M.1 2) (M.1 9) 0 (145 * ((e + c) % 16)) 145 := by
  have hs : (e + c) % 16 < 16 := Nat.mod_lt _ (by decide)
  refine ⟨ro (ro (ro M 8 (up (M.1 8) ((e + c) % 16) v)) 9 (cpy (M.1 2) (M.1 9) 0 (145 * ((e + c) % 16)) 145)) 7 (up (M.1 7) 3 (nI (c + 1))), ?_, ?_, rfl, he, rfl, rfl, rfl⟩
  · unfold f_X3_keep_28
    rw [he, hc]
    simp (disch := omega) only [n_addl, n_addr, n_add, n_mull, n_mulr, n_mul, n_sub, n_subr, n_subl, n_cl, n_lt, n_le, n_eq, n_ltl, n_ltr, n_lel, n_ler, n_eqr, n_eql, n_nm1, n_m1n, n_m1lt, n_ltm1, l_ltr, l_ltl, l_ler, l_lel, l_m1lt, l_nneg, n_remr, if_true, if_false, or_false, false_or, or_true, true_or, and_true, true_and, and_false, false_and, not_true_eq_false, not_false_eq_true, Option.bind_some, Option.bind_none, reduceIte, ltT, ltF, leT, leF, eqT, eqF, nI_lt0]
    rw [show (e + c) % 16 * 145 = 145 * ((e + c) % 16) from Nat.mul_comm _ _, az_i_ro, az_i_ro, az_cp_ro]
    show some (ro (ro (ro M 8 (up (M.1 8) ((e + c) % 16) v)) 9 (cpy (M.1 2) (M.1 9) 0 (145 * ((e + c) % 16)) 145)) 7 (up (M.1 7) 3 (M.1 7 3 + 1))) = _
    rw [hc, n_addr]
  · intro k h7 h8 h9
    rw [ro_ne h7, ro_ne h9, ro_ne h8]
theorem p_keep {e c : Nat} {M : az_M} (he : M.1 7 2 = nI e) (hc : M.1 7 3 = nI c) (h : e < 16) (h' : c ≤ 16) (v : Int32) : ∃ M' e' c' s, f_X3_keep 7 1 v M = some M' ∧ (∀ k, k ≠ 7 → k ≠ 8 → k ≠ 9 → M'.1 k = M.1 k) ∧ M'.2 = M.2 ∧ M'.1 7 2 = nI e' ∧ M'.1 7 3 = nI c' ∧ M'.1 8 = up (M.1 8) s v ∧ M'.1 9 = cpy (M.1 2) (M.1 9) 0 (145 * s) 145 ∧ ((c < 16 ∧ e' = e ∧ c' = c + 1 ∧ s = (e + c) % 16) ∨ (c = 16 ∧ e' = (e + 1) % 16 ∧ c' = 16 ∧ s = e)) := by
  unfold f_X3_keep
  by_cases hh : c < 16
  · obtain ⟨M', a, b, d, f, g, i, j⟩ := p_keep28 he hc h hh v
    refine ⟨M', e, c + 1, (e + c) % 16, ?_, b, d, f, g, i, j, Or.inl ⟨hh, rfl, rfl, rfl⟩⟩
    rw [hc]
    simp (disch := omega) only [n_addl, n_addr, n_add, n_mull, n_mulr, n_mul, n_sub, n_subr, n_subl, n_cl, n_lt, n_le, n_eq, n_ltl, n_ltr, n_lel, n_ler, n_eqr, n_eql, n_nm1, n_m1n, n_m1lt, n_ltm1, l_ltr, l_ltl, l_ler, l_lel, l_m1lt, l_nneg, if_true, if_false, or_false, false_or, or_true, true_or, and_true, true_and, and_false, false_and, not_true_eq_false, not_false_eq_true, Option.bind_some, Option.bind_none, reduceIte, ltT, ltF, leT, leF, eqT, eqF, nI_lt0]
    exact a
  · obtain rfl : c = 16 := by omega
    have hs : (e + 1) % 16 < 16 := Nat.mod_lt _ (by decide)
    obtain ⟨M', a, b, d, f, g, i, j⟩ := p_keep28 (M := az_i (az_i M 7 2 (nI ((e + 1) % 16))) 7 3 15) (e := (e + 1) % 16) (c := 15) rfl rfl hs (by decide) v
    have es : ((e + 1) % 16 + 15) % 16 = e := by omega
    rw [es] at i j
    refine ⟨M', (e + 1) % 16, 16, e, ?_, fun k h7 h8 h9 => ?_, d, f, g, i, j, Or.inr ⟨rfl, rfl, rfl, rfl⟩⟩
    · rw [hc, he]
      simp (disch := omega) only [n_addl, n_addr, n_add, n_mull, n_mulr, n_mul, n_sub, n_subr, n_subl, n_cl, n_lt, n_le, n_eq, n_ltl, n_ltr, n_lel, n_ler, n_eqr, n_eql, n_nm1, n_m1n, n_m1lt, n_ltm1, l_ltr, l_ltl, l_ler, l_lel, l_m1lt, l_nneg, n_remr, if_true, if_false, or_false, false_or, or_true, true_or, and_true, true_and, and_false, false_and, not_true_eq_false, not_false_eq_true, Option.bind_some, Option.bind_none, reduceIte, ltT, ltF, leT, leF, eqT, eqF, nI_lt0]
      exact a
    · rw [b k h7 h8 h9, gi_k h7, gi_k h7]
theorem p_rem {c : Nat} {M : az_M} (hc : M.1 40 8 = nI c) (h' : c ≤ 16) (v : Int32) : ∃ M' c', f_X12_remember sp_G v M = some M' ∧ (∀ k, k ≠ 40 → k ≠ 45 → k ≠ 46 → M'.1 k = M.1 k) ∧ (∀ j, j ≠ 8 → M'.1 40 j = M.1 40 j) ∧ M'.2 = M.2 ∧ M'.1 40 8 = nI c' ∧ ((c < 16 ∧ c' = c + 1 ∧ M'.1 46 = up (M.1 46) c v ∧ M'.1 45 = cpy (M.1 42) (M.1 45) 0 (150 * c) 150) ∨ (c = 16 ∧ c' = 16 ∧ M'.1 46 = up (cpy (M.1 46) (M.1 46) 1 0 15) 15 v ∧ M'.1 45 = cpy (M.1 42) (cpy (M.1 45) (M.1 45) 150 0 2250) 0 2250 150)) := by
  by_cases hh : c < 16
  · refine ⟨_, c + 1, p_remember hc hh v, fun k h1 h2 h3 => ?_, fun j hj => up_ne hj, rfl, rfl, Or.inl ⟨hh, rfl, rfl, rfl⟩⟩
    unfold r_keep; rw [ro_ne h1, ro_ne h3, ro_ne h2]
  · obtain rfl : c = 16 := by omega
    refine ⟨_, 16, p_rememberFull hc v, fun k h1 h2 h3 => ?_, fun j hj => (up_ne hj).trans (up_ne hj), rfl, rfl, Or.inr ⟨rfl, rfl, rfl, rfl⟩⟩
    unfold r_keep r_shift; rw [ro_ne h1, ro_ne h3, ro_ne h2, ro_ne h1, ro_ne h3, ro_ne h2]
/-- class and reference keep the same -/
theorem past_push {B e c e' c' s d' : Nat} {kinds prov sorts und N R kinds' prov' sorts' und' : Nat → Int32} {v : Int32}
    (h : sp_past B (nI e) (nI c) kinds prov (nI c) sorts und) (he : e < 16) (hc : c ≤ 16) (hp : sp_pr N R) (hg : sp_rg B N) (hv : sp_in v 0 2)
    (k1 : kinds' = up kinds s v) (k2 : prov' = cpy N prov 0 (145 * s) 145)
    (k3 : (c < 16 ∧ e' = e ∧ c' = c + 1 ∧ s = (e + c) % 16) ∨ (c = 16 ∧ e' = (e + 1) % 16 ∧ c' = 16 ∧ s = e))
    (k4 : (c < 16 ∧ d' = c + 1 ∧ sorts' = up sorts c v ∧ und' = cpy R und 0 (150 * c) 150) ∨ (c = 16 ∧ d' = 16 ∧ sorts' = up (cpy sorts sorts 1 0 15) 15 v ∧ und' = cpy R (cpy und und 150 0 2250) 0 2250 150)) :
    sp_past B (nI e') (nI c') kinds' prov' (nI d') sorts' und' := by
  obtain ⟨e0, c0, a1, a2, a3, a4, a5, a6⟩ := h
  rw [n_eq (by omega) (by omega)] at a3
  rw [n_eq (by omega) (by omega)] at a4
  subst a3 a4
  have nw : ∀ (x : Nat) (U : Nat → Int32), (∀ j, j < 150 → U j = R j) → sp_pr (fun j => cpy N prov 0 (145 * s) 145 (145 * s + j)) U ∧ sp_rg B (fun j => cpy N prov 0 (145 * s) 145 (145 * s + j)) := by
    intro x U hU
    have hN : ∀ j, j < 145 → (fun j => cpy N prov 0 (145 * s) 145 (145 * s + j)) j = N j := fun j hj => by
      show cpy N prov 0 (145 * s) 145 (145 * s + j) = N j
      rw [cpy_in (by omega), Nat.add_sub_cancel_left, Nat.zero_add]
    exact ⟨(hp.congR hU hg.q7).congN hN hg.q7, hg.congN hN⟩
  rcases k3 with ⟨b1, rfl, rfl, b4⟩ | ⟨b1, rfl, rfl, b4⟩
  · obtain ⟨_, rfl, rfl, rfl⟩ := k4.resolve_right (by omega)
    refine ⟨e', c + 1, a1, by omega, rfl, rfl, rfl, fun k hk => ?_⟩
    subst k1 k2
    by_cases hkc : k = c
    · subst hkc
      rw [← b4, up_eq, up_eq]
      obtain ⟨x, y⟩ := nw 0 (fun j => cpy R und 0 (150 * k) 150 (150 * k + j)) (fun j hj => by
        show cpy R und 0 (150 * k) 150 (150 * k + j) = R j
        rw [cpy_in (by omega), Nat.add_sub_cancel_left, Nat.zero_add])
      exact ⟨rfl, hv, x, y⟩
    · have hne : (e' + k) % 16 ≠ s := by omega
      obtain ⟨x, y, z, w⟩ := a6 k (by omega)
      have hN : ∀ j, j < 145 → (fun j => cpy N prov 0 (145 * s) 145 (145 * ((e' + k) % 16) + j)) j = prov (145 * ((e' + k) % 16) + j) := fun j hj => by
        show cpy N prov 0 (145 * s) 145 (145 * ((e' + k) % 16) + j) = _
        rw [cpy_out (by omega)]
      rw [up_ne hne, up_ne hkc]
      refine ⟨x, y, sp_pr.congN hN w.q7 (sp_pr.congR (fun j hj => ?_) w.q7 z), w.congN hN⟩
      show cpy R und 0 (150 * c) 150 (150 * k + j) = _
      rw [cpy_out (by omega)]
  · obtain ⟨_, rfl, rfl, rfl⟩ := k4.resolve_left (by omega)
    refine ⟨(e + 1) % 16, 16, Nat.mod_lt _ (by decide), by omega, rfl, rfl, rfl, fun k hk => ?_⟩
    subst k1 k2 b1
    by_cases hkc : k = 15
    · subst hkc
      have es : ((e + 1) % 16 + 15) % 16 = s := by omega
      rw [es, up_eq, up_eq]
      obtain ⟨x, y⟩ := nw 0 (fun j => cpy R (cpy und und 150 0 2250) 0 2250 150 (150 * 15 + j)) (fun j hj => by
        show cpy R (cpy und und 150 0 2250) 0 2250 150 (150 * 15 + j) = R j
        rw [cpy_in (by omega), show 0 + (150 * 15 + j - 2250) = j by omega])
      exact ⟨rfl, hv, x, y⟩
    · have es : ((e + 1) % 16 + k) % 16 = (e + (k + 1)) % 16 := by omega
      have hne : (e + (k + 1)) % 16 ≠ s := by omega
      rw [es]
      obtain ⟨x, y, z, w⟩ := a6 (k + 1) (by omega)
      have hN : ∀ j, j < 145 → (fun j => cpy N prov 0 (145 * s) 145 (145 * ((e + (k + 1)) % 16) + j)) j = prov (145 * ((e + (k + 1)) % 16) + j) := fun j hj => by
        show cpy N prov 0 (145 * s) 145 (145 * ((e + (k + 1)) % 16) + j) = _
        rw [cpy_out (by omega)]
      have ek : cpy sorts sorts 1 0 15 k = sorts (k + 1) := by rw [cpy_in (by omega), Nat.sub_zero, Nat.add_comm]
      rw [up_ne hne, up_ne hkc, ek]
      refine ⟨x, y, sp_pr.congN hN w.q7 (sp_pr.congR (fun j hj => ?_) w.q7 z), w.congN hN⟩
      show cpy R (cpy und und 150 0 2250) 0 2250 150 (150 * k + j) = _
      rw [cpy_out (by omega), cpy_in (by omega), show 150 + (150 * k + j - 0) = 150 * (k + 1) + j by omega]
