theorem game_run {m : Nat} {Z : az_S × Nat} {M : az_M} (h : az_Inv m Z M) (hm : m < 512) (hcan : ¬ sp_can (M.1 2) = 0) {p0 : Nat} (hp0 : p0 ≤ 2) (X : az_M) (h42 : X.1 42 = M.1 42) (h20 : X.1 40 20 = M.1 40 20) :
    ∃ M' Mr' r, f_X2_play Z sp_G M = some M' ∧ r = (if p0 = 0 then (if M'.1 28 2 ≤ 0 then 0 else 1) else if p0 = 1 then M'.1 28 2 else M'.1 28 3) ∧ f_X12_game_38 sp_G sp_G (nI p0) (M.1 2 0) (M.1 2 18) X = some (r, Mr') ∧ (∀ k, k ≠ 14 → k ≠ 20 → k ≠ 28 → k ≠ 31 → k ≠ 33 → M'.1 k = M.1 k) ∧ (∀ j, j ≠ 2 → j ≠ 3 → M'.1 28 j = M.1 28 j) ∧ M'.2 = M.2 ∧ (∀ k, k ≠ 40 → k ≠ 68 → Mr'.1 k = X.1 k) ∧ (∀ j, j ≠ 34 → j ≠ 38 → Mr'.1 40 j = X.1 40 j) ∧ (∀ k, k ≠ 40 → k ≠ 58 → k ≠ 60 → Mr'.2.1 k = X.2.1 k) ∧ Mr'.2.2 = X.2.2 := by
  obtain ⟨ls, R, C, wl, C1⟩ := h.paperC hm
  obtain ⟨pr, rg0⟩ := h.2.2.1
  obtain ⟨W, hW, _, hW2⟩ := rg0.1.1.nat (by decide) (by decide)
  obtain ⟨lst, hl, hl1, hl2⟩ := rg0.2.1.2.2.1.nat (by decide) (by decide)
  obtain ⟨n, hn, _, hn2⟩ := rg0.2.2.2.1.1.nat (by decide) (by decide)
  have hle : lst ≤ W := by
    unfold sp_can at hcan
    rw [hW, hl] at hcan
    by_cases h3 : M.1 2 3 = 0
    · rw [if_pos h3] at hcan
      by_cases h4 : nI W < nI lst
      · rw [if_pos h4] at hcan; exact absurd rfl hcan
      · rw [n_lt (by omega) (by omega)] at h4; omega
    · rw [if_neg h3] at hcan; exact absurd rfl hcan
  have big : W + 1 - lst < sp_G := Nat.lt_of_le_of_lt (show W + 1 - lst ≤ 1000 by omega) (by decide)
  have R0 := R X h42 h20
  obtain ⟨M', Mr', F2, a1, a2, a3, a4, a5, a6, a7, a8, a9, a10, a11, _⟩ := game_loop (x1 := nI p0) C.rg (show W ≤ 999 by omega) (show n ≤ 12 by omega) ((cpy_same 18 (by decide)).trans hl) (by omega) (W + 1 - lst) lst (by omega) (by omega) sp_G sp_G big big (ro M 31 (cpy (M.1 2) (M.1 31) 0 0 145)) X (nI W) (by rw [← hW, show M.1 2 0 = cpy (M.1 2) (M.1 31) 0 0 145 0 from (cpy_same 0 (by decide)).symm, up_self]; exact C) R0 (by rw [ro_ne (by decide)]; exact hn) (by rw [h42]; exact pr.2.2.2.1.1.symm.trans hn) (fun j h1 h2 => absurd h2 (by omega))
  obtain ⟨b1, b2⟩ := a11 hle
  have m0 : Mr'.1 42 0 = nI n := by rw [a7 42 (by decide) (by decide), h42]; exact pr.2.2.2.1.1.symm.trans hn
  obtain ⟨M4, c1, c2⟩ := r_down (p0 := p0) (show W ≤ 999 by omega) (show n ≤ 12 by omega) n (Nat.le_refl n) sp_G (Nat.lt_of_le_of_lt (show n ≤ 12 by omega) (by decide)) Mr' a3 rfl
  have e0 : dcnt (sp_won (sp_law (M.1 3 2) ls) (cpy (M.1 2) (M.1 31) 0 0 145) (Mr'.1 68) W) n n = 0 := Nat.sub_self _
  rw [e0, Nat.sub_self] at c1
  have e109 : f_X12_game_109 sp_G 1 (nI p0) (nI W) (nI (wcnt (sp_won (sp_law (M.1 3 2) ls) (cpy (M.1 2) (M.1 31) 0 0 145) (Mr'.1 68) W) n)) (wfst (sp_won (sp_law (M.1 3 2) ls) (cpy (M.1 2) (M.1 31) 0 0 145) (Mr'.1 68) W) n) (-1) M4 = some ((if p0 = 0 then (if M'.1 28 2 ≤ 0 then 0 else 1) else if p0 = 1 then M'.1 28 2 else M'.1 28 3), M4) := by
    rw [b1, b2, f_X12_game_109, if_pos (by decide)]
    unfold f_X12_game_164
    simp (disch := omega) only [n_addl, n_addr, n_add, n_mull, n_mulr, n_mul, n_sub, n_subr, n_subl, n_cl, n_lt, n_le, n_eq, n_ltl, n_ltr, n_lel, n_ler, n_eqr, n_eql, n_nm1, n_m1n, n_m1lt, n_ltm1, l_ltr, l_ltl, l_ler, l_lel, l_m1lt, l_nneg, if_true, if_false, or_false, false_or, or_true, true_or, and_true, true_and, and_false, false_and, not_true_eq_false, not_false_eq_true, Option.bind_some, Option.bind_none, reduceIte, ltT, ltF, leT, leF, eqT, eqF, nI_lt0]
    repeat' split
    all_goals rfl
  refine ⟨M', M4, _, ?_, rfl, ?_, fun k a b c d e => ?_, fun j a b => ?_, a6, fun k a b => ?_, fun j a b => ?_, fun k a b c => ?_, ?_⟩
  · unfold f_X2_play
    rw [p_copy, Option.bind_some]
    show f_X2_play_32 Z sp_G sp_G (M.1 2 0) (M.1 2 18) (ro M 31 (cpy (M.1 2) (M.1 31) 0 0 145)) = _
    rw [hW, hl]; exact a1
  · rw [hW, hl, a2, f_X12_game_38, if_pos (by rw [n_lt (by omega) (by omega)]; omega), m0]
    exact c1.trans e109
  · rw [a4 k a b c d e, ro_ne d]
  · rw [a5 j a b, ro_ne (by decide)]
  · rw [c2.1 k a, a7 k a b]
  · rw [c2.2.1 j a b, a8 j a b]
  · rw [c2.2.2.1 k a b c, a9 k a b c]
  · rw [c2.2.2.2.2, a10]
theorem ob_game : Ob_game az_Inv sp_G := by
  intro m Z M a1 hm h
  have hI := (h.ke (sp_ke_thrown M 0)).mono
  obtain ⟨pr, rg⟩ := h.2.2.1
  have bad : f_X11_game Z sp_G a1 M = some (-1, M) → f_X12_game sp_G a1 M = some (-1, az_i M 40 0 0) → ∃ (r : Int32) (M1 M2 : az_M), f_X11_game Z sp_G a1 M = some (r, M1) ∧ f_X12_game sp_G a1 M1 = some (r, M2) ∧ az_Inv (m + 1) Z M2 := fun h1 h2 => ⟨_, _, _, h1, h2, hI⟩
  have cc : f_X4_canBeFired 1 M = some (sp_can (M.1 2)) := p_canBeFired 1 M
  have cr : ∀ X : az_M, X.1 42 = M.1 42 → f_X12_canFire X = some (sp_can (M.1 2)) := fun X hX => p_canFire' (by rw [hX]; exact pr)
  rcases r_cases a1 0 2 (by decide) (by decide) with ⟨p, _, hp, rfl⟩ | ⟨hb, hi⟩
  · have hin : ∀ X, f_X12_in (nI p).toInt64 0 2 X = some 1 := fun X => g_in (Nat.zero_le p) hp (by decide) X
    by_cases hcan : sp_can (M.1 2) = 0
    · refine bad ?_ ?_
      · unfold f_X11_game f_X11_game_19
        rw [cc, Option.bind_some, if_pos hcan]
      · unfold f_X12_game f_X12_game_24
        rw [hin, Option.bind_some, if_neg (by decide), cr _ (gi_k (by decide)), Option.bind_some, if_pos hcan]
    · obtain ⟨M0, _, r0, k1, kr, _, kk, k28, k2, _⟩ := game_run h hm hcan hp M rfl rfl
      have x42 : (az_i M0 40 0 0).1 42 = M.1 42 := by rw [gi_k (by decide), kk 42 (by decide) (by decide) (by decide) (by decide) (by decide)]
      have xJ : ∀ j, j ≠ 0 → (az_i M0 40 0 0).1 40 j = M.1 40 j := fun j hj => by rw [gi, if_pos rfl, if_neg hj, kk 40 (by decide) (by decide) (by decide) (by decide) (by decide)]
      obtain ⟨M', Mr', r, q1, qr, q2, _, _, _, b1, b2, b3, b4⟩ := game_run h hm hcan hp (az_i M0 40 0 0) x42 (xJ 20 (by decide))
      have e := k1.symm.trans q1
      injection e with e
      subst e
      have er : r = r0 := qr.trans kr.symm
      refine ⟨r, M0, Mr', ?_, ?_, (h.ke ?_).mono⟩
      · unfold f_X11_game f_X11_game_47 f_X11_game_70
        rw [cc, Option.bind_some, if_neg hcan, k1, qr]
        simp (disch := omega) only [n_addl, n_addr, n_add, n_mull, n_mulr, n_mul, n_sub, n_subr, n_subl, n_cl, n_lt, n_le, n_eq, n_ltl, n_ltr, n_lel, n_ler, n_eqr, n_eql, n_nm1, n_m1n, n_m1lt, n_ltm1, l_ltr, l_ltl, l_ler, l_lel, l_m1lt, l_nneg, if_true, if_false, or_false, false_or, or_true, true_or, and_true, true_and, and_false, false_and, not_true_eq_false, not_false_eq_true, Option.bind_some, Option.bind_none, reduceIte, ltT, ltF, leT, leF, eqT, eqF, nI_lt0]
        repeat' split
        all_goals rfl
      · unfold f_X12_game
        rw [hin, Option.bind_some, if_neg (by decide), cr _ x42, Option.bind_some, if_neg hcan, show f_X12_bulletOf 0 (az_i M0 40 0 0) = some (M.1 2 0) from (p_bulletOf (k := 0) (by decide) _).trans (congrArg some (by rw [x42]; exact pr.1.1.symm)), Option.bind_some, show f_X12_term 2 (az_i M0 40 0 0) = some (M.1 2 18) from (p_term (k := 2) (by decide) _).trans (congrArg some (by rw [x42]; exact (pr.2.1 2 (by decide)).symm)), Option.bind_some, q2]
      · have K : ∀ k, k ≠ 14 → k ≠ 20 → k ≠ 28 → k ≠ 31 → k ≠ 33 → k ≠ 40 → k ≠ 68 → Mr'.1 k = M.1 k := fun k a b c d e f g => by rw [b1 k f g, gi_k f, kk k a b c d e]
        refine ⟨fun k hk => K k (by omega) (by omega) ?_ (by omega) (by omega) (by omega) (by omega), fun j _ => by rw [K 45 (by decide) (by decide) (by decide) (by decide) (by decide) (by decide) (by decide)], fun j _ => by rw [K 0 (by decide) (by decide) (by decide) (by decide) (by decide) (by decide) (by decide)], fun j _ => by rw [K 3 (by decide) (by decide) (by decide) (by decide) (by decide) (by decide) (by decide)], by rw [K 5 (by decide) (by decide) (by decide) (by decide) (by decide) (by decide) (by decide)], fun j _ => by rw [K 7 (by decide) (by decide) (by decide) (by decide) (by decide) (by decide) (by decide)], by rw [b1 28 (by decide) (by decide), gi_k (by decide), k28 1 (by decide) (by decide)], fun j _ => by rw [K 34 (by decide) (by decide) (by decide) (by decide) (by decide) (by decide) (by decide)], fun j hj => by rw [b2 j (by omega) (by omega), xJ j (by omega)], fun k hk => ?_, ?_⟩
        · omega
        · rw [b3 k (by omega) (by omega) (by omega)]; show M0.2.1 k = _; rw [k2]
        · rw [b4]; show M0.2.2 = _; rw [k2]
  · refine bad ?_ ?_
    · unfold f_X11_game f_X11_game_19
      rw [cc, Option.bind_some]
      split
      · rfl
      · exact i_bad (lo := 0) (hi := 2) hb
    · unfold f_X12_game
      rw [show f_X12_in a1.toInt64 0 2 _ = some 0 from hi _]
      rfl
