/-! force -/
theorem sp_pr.congR' {N R R' : Nat → Int32} (hR : ∀ j, j < 147 → j ≠ 4 → j ≠ 5 → R' j = R j) (hq : (N 25).toNatClampNeg ≤ 7) (h : sp_pr N R) : sp_pr N R' :=
  sp_pr.mk hq (fun j hj hl => by
    have := sp_tr_lt j hj
    rw [hR _ this.1 this.2.1 this.2.2]; exact h.at hq hj hl)
theorem sp_bk.force {Z : az_S × Nat} {A : Nat → Nat → Int32} {ref : Nat → Option Nat} {cnt inF : Int32} {R : Nat → Int32} {ls : Nat → sp_L} (h : sp_bk Z A ref cnt inF R ls) {v : Int32} (hv : v = -1 ∨ ∃ f n, v = nI f ∧ cnt = nI n ∧ f < n ∧ n ≤ 6) : sp_bk Z A ref cnt v (up R 5 v) ls := by
  obtain ⟨n, h1, h2, h3, h4, h5, h6⟩ := h
  refine ⟨n, h1, h2, h3, (up_eq _ _ _).symm, ?_, fun i hi => ?_⟩
  · rcases hv with hv | ⟨f, n', e1, e2, e3, e4⟩
    · exact Or.inl hv
    · rw [h2, n_eq (by omega) (by omega)] at e2
      exact Or.inr ⟨f, by omega, e1⟩
  · obtain ⟨t, a, b, c, d⟩ := h6 i hi
    exact ⟨t, a, b, c.congR b.2.2.2.1 (fun j h1 h2 => up_ne (by omega)), d⟩
theorem sp_bk.cnt {Z : az_S × Nat} {A : Nat → Nat → Int32} {ref : Nat → Option Nat} {cnt inF : Int32} {R : Nat → Int32} {ls : Nat → sp_L} (h : sp_bk Z A ref cnt inF R ls) : ∃ n, n ≤ 6 ∧ cnt = nI n ∧ R 4 = nI n := by
  obtain ⟨n, h1, h2, h3, _⟩ := h
  exact ⟨n, h1, h2, h3⟩
theorem az_Inv.force {m : Nat} {Z : az_S × Nat} {M : az_M} (h : az_Inv m Z M) {v : Int32} (hv : v = -1 ∨ ∃ f n, v = nI f ∧ M.1 3 1 = nI n ∧ f < n ∧ n ≤ 6) : az_Inv (m + 1) Z (az_i (az_i (az_i (az_i (az_i (az_i M 3 2 v) 0 12 0) 34 13 0) 40 0 0) 42 5 v) 40 1 0) := by
  obtain ⟨g1, g2, g3, ⟨ls, g4, g4b⟩, g5, g6, g7, g8, g9, g10, g11⟩ := h.mono
  have hA : ∀ k, 71 ≤ k → (az_i (az_i (az_i (az_i (az_i (az_i M 3 2 v) 0 12 0) 34 13 0) 40 0 0) 42 5 v) 40 1 0).1 k = M.1 k := fun k hk => by
    rw [gi_k (by omega), gi_k (by omega), gi_k (by omega), gi_k (by omega), gi_k (by omega), gi_k (by omega)]
  have e42 : (az_i (az_i (az_i (az_i (az_i (az_i M 3 2 v) 0 12 0) 34 13 0) 40 0 0) 42 5 v) 40 1 0).1 42 = up (M.1 42) 5 v := rfl
  refine ⟨g1, g2, ⟨?_, g3.2⟩, ⟨ls, ?_, Or.inl rfl⟩, g5, ⟨rfl, g6.2⟩, g7, g8, ⟨g9.1.cong hA rfl rfl rfl, g9.2.1.cong hA rfl rfl rfl, g9.2.2⟩, g10, g11⟩
  · rw [e42]; exact g3.1.congR' (fun j _ _ h5 => up_ne h5) g3.2.q7
  · rw [e42]; exact (g4.cong hA).force hv
theorem ob_force : Ob_force az_Inv sp_G := by
  intro m Z M a1 _ h
  obtain ⟨g1, g2, g3, ⟨ls, g4, g4b⟩, g5, g6, g7, g8, g9, g10, g11⟩ := h
  have h : az_Inv m Z M := ⟨g1, g2, g3, ⟨ls, g4, g4b⟩, g5, g6, g7, g8, g9, g10, g11⟩
  obtain ⟨n, hn, hc, hr⟩ := g4.cnt
  have e5 : M.1 42 5 = M.1 3 2 := by obtain ⟨_, _, _, _, h4, _⟩ := g4; exact h4.symm
  rcases v_cases a1 (n := n) (by omega) with ⟨k, hk, rfl⟩ | ⟨hb, hr'⟩
  · refine ⟨M.1 3 2, az_i (az_i (az_i M 3 2 (nI k)) 0 12 0) 34 13 0, _, ?_, ?_, h.force (v := nI k) (Or.inr ⟨k, n, rfl, hc, hk, hn⟩)⟩
    · unfold f_X11_force
      rw [hc]
      simp (disch := omega) only [n_addl, n_addr, n_add, n_mull, n_mulr, n_mul, n_sub, n_subr, n_subl, n_cl, n_lt, n_le, n_eq, n_ltl, n_ltr, n_lel, n_ler, n_eqr, n_eql, n_nm1, n_m1n, n_m1lt, n_ltm1, l_ltr, l_ltl, l_ler, l_lel, l_m1lt, l_nneg, if_true, if_false, or_false, false_or, or_true, true_or, and_true, true_and, and_false, false_and, not_true_eq_false, not_false_eq_true, Option.bind_some, Option.bind_none, reduceIte, ltT, ltF, leT, leF, eqT, eqF, nI_lt0]
      rfl
    · unfold f_X12_force
      rw [p_in]
      show (if nI k = -1 then _ else Option.bind (some (if (nI k).toInt64 < 0 then 0 else if (M.1 42 4).toInt64 - 1 < (nI k).toInt64 then 0 else 1)) _) = _
      rw [hr]
      simp (disch := omega) only [n_addl, n_addr, n_add, n_mull, n_mulr, n_mul, n_sub, n_subr, n_subl, n_cl, n_lt, n_le, n_eq, n_ltl, n_ltr, n_lel, n_ler, n_eqr, n_eql, n_nm1, n_m1n, n_m1lt, n_ltm1, l_ltr, l_ltl, l_ler, l_lel, l_m1lt, l_nneg, if_true, if_false, or_false, false_or, or_true, true_or, and_true, true_and, and_false, false_and, not_true_eq_false, not_false_eq_true, Option.bind_some, Option.bind_none, reduceIte, ltT, ltF, leT, leF, eqT, eqF, nI_lt0]
      show some (M.1 42 5, _) = _
      rw [e5]; rfl
  · by_cases h1 : a1 = -1
    · subst h1
      refine ⟨M.1 3 2, az_i (az_i (az_i M 3 2 (-1)) 0 12 0) 34 13 0, _, ?_, ?_, h.force (v := -1) (Or.inl rfl)⟩
      · unfold f_X11_force
        rw [if_neg (by decide), hc, if_pos]
        · rfl
        · rw [Int32.lt_iff_toInt_lt, n_int (by omega)]
          have : (-1 : Int32).toInt = -1 := rfl
          omega
      · show some (M.1 42 5, _) = _
        rw [e5]; rfl
    · refine ⟨-2, p_rc M (-2) 1, _, ?_, ?_, h.refuse (v := -2) (j := 1) (j' := 2) (by simp)⟩
      · unfold f_X11_force
        by_cases h2 : a1 < -1
        · rw [if_pos h2]; rfl
        · rw [if_neg h2, hc, if_neg]
          · rfl
          · rcases hb with hb | hb
            · exfalso
              have e0 : (0 : Int32).toInt = 0 := rfl
              have e1 : (-1 : Int32).toInt = -1 := rfl
              rw [Int32.lt_iff_toInt_lt] at h2 hb
              rw [← Int32.toInt_inj] at h1
              omega
            · rw [Int32.lt_iff_toInt_lt]
              rw [Int32.le_iff_toInt_le] at hb
              omega
      · unfold f_X12_force
        rw [if_neg h1, p_in]
        show Option.bind (some (if a1.toInt64 < 0 then 0 else if (M.1 42 4).toInt64 - 1 < a1.toInt64 then 0 else 1)) _ = _
        rw [hr]
        by_cases h3 : a1.toInt64 < 0
        · rw [if_pos h3]; rfl
        · rw [if_neg h3, if_pos (hr'.resolve_left h3)]; rfl
