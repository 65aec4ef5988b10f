theorem ob_terms : Ob_terms az_Inv sp_G := by
  intro m Z M a1 a2 _ h
  obtain ⟨⟨_, ht, _⟩, hg⟩ := h.2.2.1
  rcases n_cases a1 with hn | ⟨k, hk, rfl⟩
  · refine t_refuse h (j := 0) (j' := 1) (v := -1) (by simp) (by unfold f_X11_terms; rw [if_pos hn]; rfl) (fun M => ?_)
    have e : f_X12_isTerm a1 a2 (az_i M 40 0 0) = some 0 := by
      unfold f_X12_isTerm
      rw [if_neg (fun e => by rw [e] at hn; exact absurd hn (by decide)), if_neg (fun e => by rw [e] at hn; exact absurd hn (by decide)), if_neg (fun e => by rw [e] at hn; exact absurd hn (by decide)), if_neg (fun e => by rw [e] at hn; exact absurd hn (by decide)), if_neg (fun e => by rw [e] at hn; exact absurd hn (by decide))]
    exact (congrArg (fun x => Option.bind x _) e).trans rfl
  · have bad : f_X11_terms (nI k) a2 M = some (-1, p_rc M (-1) 0) → (∀ M, f_X12_terms (nI k) a2 M = some (-1, p_rf (az_i M 40 0 0) (-1) 1)) → ∃ (r : Int32) (M1 M2 : az_M), f_X11_terms (nI k) a2 M = some (r, M1) ∧ f_X12_terms (nI k) a2 M1 = some (r, M2) ∧ az_Inv (m + 1) Z M2 := fun h1 h2 => t_refuse h (j := 0) (j' := 1) (v := -1) (by simp) h1 h2
    by_cases h5 : k < 5
    · rcases (show k = 0 ∨ k = 1 ∨ k = 2 ∨ k = 3 ∨ k = 4 by omega) with rfl | rfl | rfl | rfl | rfl
      · rcases r_cases a2 0 999 (by decide) (by decide) with ⟨v, hv0, hv, rfl⟩ | ⟨hn, hi⟩
        · refine ⟨_, _, _, (i_good (lo := 0) (hi := 999) hv0 hv (by decide)).trans rfl, ?_, t_put (a := 16) (v := v) h (by decide) ⟨by omega, by show (0 : Int) ≤ v; omega, by show (v : Int) ≤ 999; omega⟩⟩
          exact (congrArg (fun x => Option.bind (Option.bind x _) _) (g_in hv0 hv (by decide) _)).trans (congrArg (fun x => some (x, _)) (ht 0 (by decide)).symm)
        · exact bad ((i_bad (lo := 0) (hi := 999) hn).trans rfl) (fun M => (congrArg (fun x => Option.bind (Option.bind x _) _) (hi _)).trans rfl)
      · rcases r_cases a2 1 4 (by decide) (by decide) with ⟨v, hv0, hv, rfl⟩ | ⟨hn, hi⟩
        · refine ⟨_, _, _, (i_good (lo := 1) (hi := 4) hv0 hv (by decide)).trans rfl, ?_, t_put (a := 17) (v := v) h (by decide) ⟨by omega, by show (1 : Int) ≤ v; omega, by show (v : Int) ≤ 4; omega⟩⟩
          exact (congrArg (fun x => Option.bind (Option.bind x _) _) (g_in hv0 hv (by decide) _)).trans (congrArg (fun x => some (x, _)) (ht 1 (by decide)).symm)
        · exact bad ((i_bad (lo := 1) (hi := 4) hn).trans rfl) (fun M => (congrArg (fun x => Option.bind (Option.bind x _) _) (hi _)).trans rfl)
      · rcases r_cases a2 1 99 (by decide) (by decide) with ⟨v, hv0, hv, rfl⟩ | ⟨hn, hi⟩
        · refine ⟨_, _, _, (i_good (lo := 1) (hi := 99) hv0 hv (by decide)).trans rfl, ?_, t_put (a := 18) (v := v) h (by decide) ⟨by omega, by show (1 : Int) ≤ v; omega, by show (v : Int) ≤ 99; omega⟩⟩
          exact (congrArg (fun x => Option.bind (Option.bind x _) _) (g_in hv0 hv (by decide) _)).trans (congrArg (fun x => some (x, _)) (ht 2 (by decide)).symm)
        · exact bad ((i_bad (lo := 1) (hi := 99) hn).trans rfl) (fun M => (congrArg (fun x => Option.bind (Option.bind x _) _) (hi _)).trans rfl)
      · rcases r_cases a2 1 9 (by decide) (by decide) with ⟨v, hv0, hv, rfl⟩ | ⟨hn, hi⟩
        · refine ⟨_, _, _, (i_good (lo := 1) (hi := 9) hv0 hv (by decide)).trans rfl, ?_, t_put (a := 19) (v := v) h (by decide) ⟨by omega, by show (1 : Int) ≤ v; omega, by show (v : Int) ≤ 9; omega⟩⟩
          exact (congrArg (fun x => Option.bind (Option.bind x _) _) (g_in hv0 hv (by decide) _)).trans (congrArg (fun x => some (x, _)) (ht 3 (by decide)).symm)
        · exact bad ((i_bad (lo := 1) (hi := 9) hn).trans rfl) (fun M => (congrArg (fun x => Option.bind (Option.bind x _) _) (hi _)).trans rfl)
      · rcases r_cases a2 0 9 (by decide) (by decide) with ⟨v, hv0, hv, rfl⟩ | ⟨hn, hi⟩
        · refine ⟨_, _, _, (i_good (lo := 0) (hi := 9) hv0 hv (by decide)).trans rfl, ?_, t_put (a := 20) (v := v) h (by decide) ⟨by omega, by show (0 : Int) ≤ v; omega, by show (v : Int) ≤ 9; omega⟩⟩
          exact (congrArg (fun x => Option.bind (Option.bind x _) _) (g_in hv0 hv (by decide) _)).trans (congrArg (fun x => some (x, _)) (ht 4 (by decide)).symm)
        · exact bad ((i_bad (lo := 0) (hi := 9) hn).trans rfl) (fun M => (congrArg (fun x => Option.bind (Option.bind x _) _) (hi _)).trans rfl)
    · refine bad ?_ (fun M => ?_)
      · unfold f_X11_terms
        simp (disch := omega) only [n_addl, n_addr, n_add, n_mull, n_mulr, n_mul, n_sub, n_subr, n_subl, n_cl, n_lt, n_le, n_eq, n_ltl, n_ltr, n_lel, n_ler, n_eqr, n_eql, n_nm1, n_m1n, n_m1lt, n_ltm1, l_ltr, l_ltl, l_ler, l_lel, l_m1lt, l_nneg, if_true, if_false, or_false, false_or, or_true, true_or, and_true, true_and, and_false, false_and, not_true_eq_false, not_false_eq_true, Option.bind_some, Option.bind_none, reduceIte, ltT, ltF, leT, leF, eqT, eqF, nI_lt0]; rfl
      · have e : f_X12_isTerm (nI k) a2 (az_i M 40 0 0) = some 0 := by
          unfold f_X12_isTerm
          simp (disch := omega) only [n_addl, n_addr, n_add, n_mull, n_mulr, n_mul, n_sub, n_subr, n_subl, n_cl, n_lt, n_le, n_eq, n_ltl, n_ltr, n_lel, n_ler, n_eqr, n_eql, n_nm1, n_m1n, n_m1lt, n_ltm1, l_ltr, l_ltl, l_ler, l_lel, l_m1lt, l_nneg, if_true, if_false, or_false, false_or, or_true, true_or, and_true, true_and, and_false, false_and, not_true_eq_false, not_false_eq_true, Option.bind_some, Option.bind_none, reduceIte, ltT, ltF, leT, leF, eqT, eqF, nI_lt0]
        exact (congrArg (fun x => Option.bind x _) e).trans rfl
theorem ob_log : Ob_log az_Inv sp_G := by
  intro m Z M a1 _ h
  have hI := (h.ke (sp_ke_thrown M 0)).mono
  obtain ⟨hp, hg⟩ := h.2.2.1
  obtain ⟨_, _, _, ⟨_, _, _, p26⟩, _, _, _, p121⟩ := hp
  obtain ⟨n, hn, _, hn2⟩ := hg.2.2.2.1.2.2.2.nat (by decide) (by decide)
  have e42 : (az_i M 40 0 0).1 42 3 = nI n := p26.symm.trans hn
  rcases v_cases a1 (n := n) (by omega) with ⟨k, hk, rfl⟩ | ⟨hb, hr⟩
  · refine ⟨M.1 2 (121 + k), _, ?_, ?_, hI⟩
    · unfold f_X11_log
      rw [p_shotAt hg.2.2.2.1.2.2.2, hn]
      simp (disch := omega) only [n_addl, n_addr, n_add, n_mull, n_mulr, n_mul, n_sub, n_subr, n_subl, n_cl, n_lt, n_le, n_eq, n_ltl, n_ltr, n_lel, n_ler, n_eqr, n_eql, n_nm1, n_m1n, n_m1lt, n_ltm1, l_ltr, l_ltl, l_ler, l_lel, l_m1lt, l_nneg, if_true, if_false, or_false, false_or, or_true, true_or, and_true, true_and, and_false, false_and, not_true_eq_false, not_false_eq_true, Option.bind_some, Option.bind_none, reduceIte, ltT, ltF, leT, leF, eqT, eqF, nI_lt0]
    · unfold f_X12_log f_X12_log_36
      rw [p_in, e42]
      simp (disch := omega) only [n_addl, n_addr, n_add, n_mull, n_mulr, n_mul, n_sub, n_subr, n_subl, n_cl, n_lt, n_le, n_eq, n_ltl, n_ltr, n_lel, n_ler, n_eqr, n_eql, n_nm1, n_m1n, n_m1lt, n_ltm1, l_ltr, l_ltl, l_ler, l_lel, l_m1lt, l_nneg, if_true, if_false, or_false, false_or, or_true, true_or, and_true, true_and, and_false, false_and, not_true_eq_false, not_false_eq_true, Option.bind_some, Option.bind_none, reduceIte, ltT, ltF, leT, leF, eqT, eqF, nI_lt0]
      exact congrArg (fun x => some (x, _)) (p121 k (by omega)).symm
  · refine ⟨-1, _, ?_, ?_, hI⟩
    · unfold f_X11_log
      rw [p_shotAt hg.2.2.2.1.2.2.2]
      by_cases h1 : a1 < 0
      · rw [if_pos h1]; rfl
      · rw [if_neg h1, if_pos (hn ▸ hb.resolve_left h1)]; rfl
    · unfold f_X12_log
      rw [p_in, e42]
      by_cases h1 : a1.toInt64 < 0
      · rw [if_pos h1]; rfl
      · rw [if_neg h1, if_pos (hr.resolve_left h1)]; rfl
theorem ob_end : Ob_end az_Inv sp_G := by
  intro m Z M a1 _ h
  obtain ⟨g1, g2, g3, ⟨ls, g4, g4b⟩, g5, g6, g7, g8, g9, g10, g11⟩ := h.mono
  obtain ⟨n, hn, _, hn2⟩ := g5.2.1.nat (by decide) (by decide)
  have e : (az_i M 40 0 0).1 40 13 = nI n := g5.1.symm.trans hn
  rcases r_cases a1 0 n (by decide) (by omega) with ⟨k, _, hk, rfl⟩ | ⟨hb, _⟩
  · refine ⟨nI k, az_i M 5 1 (nI k), az_i (az_i (az_i M 5 1 (nI k)) 40 0 0) 40 13 (nI k), ?_, ?_, ?_⟩
    · unfold f_X11_end
      rw [hn]; exact i_good (lo := 0) (Nat.zero_le _) hk (by omega)
    · show (if nI k < 0 then _ else if nI k ≤ (az_i M 40 0 0).1 40 13 then _ else _) = _
      rw [e]; exact i_good (lo := 0) (Nat.zero_le _) hk (by omega)
    · refine h.step (by omega) g3 rfl rfl (fun _ _ => rfl) (fun k hk => ?_) rfl (Or.inr ⟨fun _ _ => rfl, rfl⟩) ⟨rfl, ?_, g5.2.2⟩ g6 g7 g8 rfl rfl g10 g11.1 (fun _ _ => rfl)
      · rw [gi_k (by omega), gi_k (by omega), gi_k (by omega)]
      · show sp_in (nI k) 0 400
        rw [sp_in_nI (by omega)]; omega
  · refine ⟨-1, M, az_i M 40 0 0, ?_, ?_, (h.ke (sp_ke_thrown M 0)).mono⟩
    · unfold f_X11_end f_X11_end_15
      rw [hn]; exact i_bad (lo := 0) hb
    · unfold f_X12_end f_X12_end_17
      rw [e]; exact i_bad (lo := 0) hb
theorem ob_drawn : Ob_drawn az_Inv sp_G := by
  intro m Z M a1 _ h
  have hI := (h.ke (sp_ke_thrown M 0)).mono
  obtain ⟨e, hd⟩ := h.2.2.2.2.2.2.2.2.2.1
  have e' : (az_i M 40 0 0).1 40 58 = M.1 28 1 := e.symm
  unfold f_X11_drawn f_X12_drawn
  rw [e']
  rcases hd with hd | ⟨hd, hr⟩
  · rw [hd]; exact ⟨-1, _, rfl, rfl, hI⟩
  · rw [hd, if_neg (show ¬ (1 : Int32) = 0 by decide), if_neg (show ¬ (1 : Int32) = 0 by decide)]
    rcases r_cases a1 0 5 (by decide) (by decide) with ⟨k, _, hk, rfl⟩ | ⟨hb, hi⟩
    · refine ⟨M.1 29 k, az_i M 40 0 0, ?_, ?_, hI⟩
      · simp (disch := omega) only [n_addl, n_addr, n_add, n_mull, n_mulr, n_mul, n_sub, n_subr, n_subl, n_cl, n_lt, n_le, n_eq, n_ltl, n_ltr, n_lel, n_ler, n_eqr, n_eql, n_nm1, n_m1n, n_m1lt, n_ltm1, l_ltr, l_ltl, l_ler, l_lel, l_m1lt, l_nneg, if_true, if_false, or_false, false_or, or_true, true_or, and_true, true_and, and_false, false_and, not_true_eq_false, not_false_eq_true, Option.bind_some, Option.bind_none, reduceIte, ltT, ltF, leT, leF, eqT, eqF, nI_lt0]
      · simp (disch := omega) only [p_in1, n_addl, n_addr, n_add, n_mull, n_mulr, n_mul, n_sub, n_subr, n_subl, n_cl, n_lt, n_le, n_eq, n_ltl, n_ltr, n_lel, n_ler, n_eqr, n_eql, n_nm1, n_m1n, n_m1lt, n_ltm1, l_ltr, l_ltl, l_ler, l_lel, l_m1lt, l_nneg, if_true, if_false, or_false, false_or, or_true, true_or, and_true, true_and, and_false, false_and, not_true_eq_false, not_false_eq_true, Option.bind_some, Option.bind_none, reduceIte, ltT, ltF, leT, leF, eqT, eqF, nI_lt0]
        exact congrArg (fun x => some (x, _)) (hr k (by omega)).symm
    · refine ⟨-1, az_i M 40 0 0, ?_, (congrArg (fun x => Option.bind x _) (hi _)).trans rfl, hI⟩
      rcases hb with hb | hb
      · rw [if_pos (show a1 < 0 from hb)]; rfl
      · by_cases h1 : a1 < 0
        · rw [if_pos h1]; rfl
        · rw [if_neg h1, if_neg]
          · rfl
          · rw [Int32.lt_iff_toInt_lt] at hb ⊢
            have e1 : (nI 5).toInt = 5 := rfl
            have e2 : (6 : Int32).toInt = 6 := rfl
            omega
theorem ob_count : Ob_count az_Inv sp_G := by
  intro m Z M a1 _ h
  have hI := (h.ke (sp_ke_thrown M 0)).mono
  obtain ⟨⟨_, ht, ⟨l1, l2⟩, ⟨c0, c1, c2, c3⟩, _⟩, hg⟩ := h.2.2.1
  obtain ⟨ls, ⟨n, _, k1, k2, k3, _⟩, _⟩ := h.2.2.2.1
  obtain ⟨t1, _⟩ := h.2.2.2.2.1
  obtain ⟨f1, f2, f3, f4, f5⟩ := h.2.2.2.2.2.2.1
  obtain ⟨_, c, _, _, _, u1, u2, _⟩ := h.2.2.2.2.2.2.2.1
  rcases n_cases a1 with hn | ⟨k, hk, rfl⟩
  · refine ⟨-1, az_i M 40 0 0, by unfold f_X11_count; rw [if_pos hn]; rfl, ?_, hI⟩
    have e : ∀ v : Nat, v < 2147483648 → ¬ a1 = nI v := fun v hv e => by rw [e] at hn; exact absurd hn (nI_pos hv)
    unfold f_X12_count f_X12_count_204
    rw [if_neg (show ¬ a1 = 0 from e 0 (by decide)), if_neg (show ¬ a1 = 1 from e 1 (by decide)), if_neg (show ¬ a1 = 2 from e 2 (by decide)), if_neg (show ¬ a1 = 3 from e 3 (by decide)), if_neg (show ¬ a1 = 4 from e 4 (by decide)), if_neg (show ¬ a1 = 5 from e 5 (by decide)), if_neg (show ¬ a1 = 6 from e 6 (by decide)), if_neg (show ¬ a1 = 7 from e 7 (by decide)), if_neg (show ¬ a1 = 8 from e 8 (by decide)), if_neg (show ¬ a1 = 9 from e 9 (by decide)), if_neg (show ¬ a1 = 10 from e 10 (by decide)), if_neg (show ¬ a1 = 11 from e 11 (by decide)), if_neg (show ¬ a1 = 12 from e 12 (by decide)), if_neg (show ¬ a1 = 13 from e 13 (by decide)), if_neg (show ¬ a1 = 14 from e 14 (by decide)), if_neg (show ¬ a1 = 15 from e 15 (by decide)), if_neg (show ¬ a1 = 16 from e 16 (by decide)), if_neg (show ¬ a1 = 17 from e 17 (by decide)), if_neg (show ¬ a1 = 18 from e 18 (by decide)), if_neg (show ¬ a1 = 19 from e 19 (by decide)), p_in, if_pos]
    · rfl
    · have h1 := l_neg hn
      rw [Int64.lt_iff_toInt_lt] at h1 ⊢
      have e1 : (13 : Int64).toInt = 13 := rfl
      have e2 : (0 : Int64).toInt = 0 := rfl
      omega
  · by_cases h20 : k < 20
    · rcases (show k = 0 ∨ k = 1 ∨ k = 2 ∨ k = 3 ∨ k = 4 ∨ k = 5 ∨ k = 6 ∨ k = 7 ∨ k = 8 ∨ k = 9 ∨ k = 10 ∨ k = 11 ∨ k = 12 ∨ k = 13 ∨ k = 14 ∨ k = 15 ∨ k = 16 ∨ k = 17 ∨ k = 18 ∨ k = 19 by omega) with rfl | rfl | rfl | rfl | rfl | rfl | rfl | rfl | rfl | rfl | rfl | rfl | rfl | rfl | rfl | rfl | rfl | rfl | rfl | rfl
      · exact ⟨M.1 2 23, az_i M 40 0 0, rfl, congrArg (fun x => some (x, _)) c0.symm, hI⟩
      · exact ⟨M.1 2 24, az_i M 40 0 0, rfl, congrArg (fun x => some (x, _)) c1.symm, hI⟩
      · exact ⟨M.1 2 25, az_i M 40 0 0, rfl, congrArg (fun x => some (x, _)) c2.symm, hI⟩
      · exact ⟨M.1 2 26, az_i M 40 0 0, rfl, congrArg (fun x => some (x, _)) c3.symm, hI⟩
      · exact ⟨M.1 3 1, az_i M 40 0 0, rfl, congrArg (fun x => some (x, _)) (k1.trans k2.symm).symm, hI⟩
      · exact ⟨M.1 7 3, az_i M 40 0 0, rfl, congrArg (fun x => some (x, _)) (u1.trans u2.symm).symm, hI⟩
      · exact ⟨M.1 5 1, az_i M 40 0 0, rfl, congrArg (fun x => some (x, _)) t1.symm, hI⟩
      · exact ⟨M.1 12 0, az_i M 40 0 0, rfl, congrArg (fun x => some (x, _)) f1.symm, hI⟩
      · exact ⟨M.1 12 1, az_i M 40 0 0, rfl, congrArg (fun x => some (x, _)) f2.symm, hI⟩
      · exact ⟨M.1 12 2, az_i M 40 0 0, rfl, congrArg (fun x => some (x, _)) f3.symm, hI⟩
      · exact ⟨M.1 12 3, az_i M 40 0 0, rfl, congrArg (fun x => some (x, _)) f4.symm, hI⟩
      · exact ⟨M.1 12 4, az_i M 40 0 0, rfl, congrArg (fun x => some (x, _)) f5.symm, hI⟩
      · exact ⟨M.1 3 2, az_i M 40 0 0, rfl, congrArg (fun x => some (x, _)) k3.symm, hI⟩
      · exact ⟨M.1 2 16, az_i M 40 0 0, rfl, congrArg (fun x => some (x, _)) (ht 0 (by decide)).symm, hI⟩
      · exact ⟨M.1 2 17, az_i M 40 0 0, rfl, congrArg (fun x => some (x, _)) (ht 1 (by decide)).symm, hI⟩
      · exact ⟨M.1 2 18, az_i M 40 0 0, rfl, congrArg (fun x => some (x, _)) (ht 2 (by decide)).symm, hI⟩
      · exact ⟨M.1 2 19, az_i M 40 0 0, rfl, congrArg (fun x => some (x, _)) (ht 3 (by decide)).symm, hI⟩
      · exact ⟨M.1 2 20, az_i M 40 0 0, rfl, congrArg (fun x => some (x, _)) (ht 4 (by decide)).symm, hI⟩
      · exact ⟨M.1 2 21, az_i M 40 0 0, rfl, congrArg (fun x => some (x, _)) l1.symm, hI⟩
      · exact ⟨M.1 2 22, az_i M 40 0 0, rfl, congrArg (fun x => some (x, _)) l2.symm, hI⟩
    · refine ⟨-1, az_i M 40 0 0, ?_, ?_, hI⟩
      · unfold f_X11_count
        simp (disch := omega) only [n_addl, n_addr, n_add, n_mull, n_mulr, n_mul, n_sub, n_subr, n_subl, n_cl, n_lt, n_le, n_eq, n_ltl, n_ltr, n_lel, n_ler, n_eqr, n_eql, n_nm1, n_m1n, n_m1lt, n_ltm1, l_ltr, l_ltl, l_ler, l_lel, l_m1lt, l_nneg, if_true, if_false, or_false, false_or, or_true, true_or, and_true, true_and, and_false, false_and, not_true_eq_false, not_false_eq_true, Option.bind_some, Option.bind_none, reduceIte, ltT, ltF, leT, leF, eqT, eqF, nI_lt0]; rfl
      · unfold f_X12_count f_X12_count_204
        simp (disch := omega) only [p_in, n_addl, n_addr, n_add, n_mull, n_mulr, n_mul, n_sub, n_subr, n_subl, n_cl, n_lt, n_le, n_eq, n_ltl, n_ltr, n_lel, n_ler, n_eqr, n_eql, n_nm1, n_m1n, n_m1lt, n_ltm1, l_ltr, l_ltl, l_ler, l_lel, l_m1lt, l_nneg, if_true, if_false, or_false, false_or, or_true, true_or, and_true, true_and, and_false, false_and, not_true_eq_false, not_false_eq_true, Option.bind_some, Option.bind_none, reduceIte, ltT, ltF, leT, leF, eqT, eqF, nI_lt0]; rfl
