/-! a season: the call -/
def sp_fin (M : az_M) : az_M := az_i (az_i (az_i (az_cp M 31 0 29 0 4) 29 4 ((az_cp M 31 0 29 0 4).1 31 16)) 29 5 ((az_i (az_cp M 31 0 29 0 4) 29 4 ((az_cp M 31 0 29 0 4).1 31 16)).1 31 25)) 28 1 1
theorem az_Inv.paperC {m : Nat} {Z : az_S × Nat} {M : az_M} (h : az_Inv m Z M) (hm : m < 512) : ∃ ls, (∀ X : az_M, X.1 42 = M.1 42 → X.1 40 20 = M.1 40 20 → RefAt Z (sp_B m + 999) (M.1 3 2) ls (cpy (M.1 2) (M.1 31) 0 0 145) X) ∧ ClsAt Z (sp_B m + 999) 30 (M.1 3 2) ls (cpy (M.1 2) (M.1 31) 0 0 145) (ro M 31 (cpy (M.1 2) (M.1 31) 0 0 145)) ∧ sp_wl (sp_B m + 999) (cpy (M.1 2) (M.1 31) 0 0 145) ∧ ClsAt Z (sp_B m + 999) 1 (M.1 3 2) ls (M.1 2) M := by
  obtain ⟨ls, D⟩ := h.deed0 hm
  have rg := D.cls.rg.congN (N' := cpy (M.1 2) (M.1 31) 0 0 145) cpy_same
  refine ⟨ls, fun X h1 h2 => ⟨?_, ?_, ?_, rg, D.cls.hB⟩, D.cls.to rfl (fun k hk => ro_ne (by omega)) rfl (ro_eq _ _ _) rg D.cls.hB (by decide), ?_, D.cls⟩
  · rw [h1]; exact D.ref.bk
  · rw [h2]; exact D.ref.h20
  · rw [h1]; exact D.ref.pr.congN cpy_same D.cls.rg.q7
  · have := D.wl
    unfold sp_wl at this ⊢
    rw [cpy_same 21 (by decide), cpy_same 22 (by decide), cpy_same 0 (by decide)]; exact this
theorem season_run {m : Nat} {Z : az_S × Nat} {M : az_M} (h : az_Inv m Z M) (hm : m < 512) {s d : Nat} (hs : s ≤ 1000000) (hd : d ≤ 30) (X : az_M) (h42 : X.1 42 = M.1 42) (h20 : X.1 40 20 = M.1 40 20) (h41 : X.2.1 40 41 = lI s) :
    ∃ G2 c M' Mr' N' B', f_X2_drawSeason Z sp_G (nI s) (nI d) M = some (nI c, sp_fin M') ∧ f_X12_season_57 sp_G sp_G (nI d) 0 0 X = f_X12_season_57 sp_G (G2 + 1) (nI d) (nI c) (nI d) Mr' ∧ c ≤ 30 ∧ M'.1 31 = N' ∧ sp_pr N' (Mr'.1 42) ∧ sp_rg B' N' ∧ sp_hc 30 M M' ∧ sp_fd X Mr' := by
  obtain ⟨ls, R, C, wl, _⟩ := h.paperC hm
  have hcd : sp_hc 30 (ro M 31 (cpy (M.1 2) (M.1 31) 0 0 145)) (az_i (ro M 31 (cpy (M.1 2) (M.1 31) 0 0 145)) 19 0 (nI s)) := ⟨fun k _ h _ _ => gi_k h, rfl⟩
  have P : Pair Z (sp_B m + 999) 30 (M.1 3 2) ls (cpy (M.1 2) (M.1 31) 0 0 145) (az_i (ro M 31 (cpy (M.1 2) (M.1 31) 0 0 145)) 19 0 (nI s)) X :=
    ⟨C.hc (by decide) hcd (by rw [gi_k (by decide), ro_eq]) C.rg C.hB, R X h42 h20, wl⟩
  obtain ⟨G1, G2, c', M', Mr', N', a1, a2, a3, a4, a5, a6⟩ := season_loop hd d 0 (by omega) sp_G sp_G (Nat.lt_of_le_of_lt hd (by decide)) (Nat.lt_of_le_of_lt hd (by decide)) _ _ _ X s 0 P (by rw [gi, if_pos rfl, if_pos rfl]) h41 (by omega) (by omega) (by unfold sp_B; omega)
  refine ⟨G2, c', M', Mr', N', _, ?_, a2, by omega, a4.cls.row, a4.ref.pr, a4.cls.rg, ?_, a6⟩
  · unfold f_X2_drawSeason
    rw [p_copy, Option.bind_some]
    refine Eq.trans a1 ?_
    rw [f_X2_drawSeason_24, if_pos (by rw [Int32.le_iff_toInt_le]; omega)]
    rfl
  · have h0 : sp_hc 30 M (ro M 31 (cpy (M.1 2) (M.1 31) 0 0 145)) := ⟨fun k _ _ _ h => ro_ne h, rfl⟩
    exact h0.trans (hcd.trans a5)
theorem ob_season : Ob_season az_Inv sp_G := by
  intro m Z M a1 a2 hm h
  rcases r_cases a1 0 1000000 (by decide) (by decide) with ⟨s, _, hs, rfl⟩ | ⟨hb, hi⟩
  · rcases r_cases a2 1 30 (by decide) (by decide) with ⟨d, hd1, hd, rfl⟩ | ⟨hb, hi⟩
    · obtain ⟨g1, g2, g3, ⟨ls, g4, g4b⟩, g5, g6, g7, g8, g9, g10, g11⟩ := h.mono
      obtain ⟨_, c0, M0, _, _, _, k1, _, hc0, _, _, _, hc, _⟩ := season_run h hm hs hd (az_l M 40 41 (lI s)) rfl rfl (by rw [gl, if_pos rfl, if_pos rfl])
      -- the reference starts behind the class
      have fK : ∀ k, k ≠ 28 → k ≠ 29 → (sp_fin M0).1 k = M0.1 k := fun k h28 h29 => by
        unfold sp_fin; rw [gi_k h28, gi_k h29, gi_k h29, az_cp_ro, ro_ne h29]
      have f28 : ∀ j, j ≠ 1 → (sp_fin M0).1 28 j = M0.1 28 j := fun j hj => by
        unfold sp_fin; rw [gi, if_pos rfl, if_neg hj, gi_k (by decide), gi_k (by decide), az_cp_ro, ro_ne (by decide)]
      let X0 : az_M := az_i (az_i (az_i (sp_fin M0) 0 12 0) 34 13 0) 40 0 0
      have xK : ∀ k, k ≠ 0 → k ≠ 34 → k ≠ 40 → k ≠ 28 → k ≠ 29 → k ≠ 14 → k ≠ 19 → k ≠ 20 → k ≠ 31 → X0.1 k = M.1 k := fun k h0 h34 h40 h28 h29 a b c d => by
        show (az_i (az_i (az_i (sp_fin M0) 0 12 0) 34 13 0) 40 0 0).1 k = _
        rw [gi_k h40, gi_k h34, gi_k h0, fK k h28 h29, hc.1 k a b c d]
      have xJ : ∀ j, j ≠ 0 → X0.1 40 j = M.1 40 j := fun j hj => by
        show (az_i (az_i (az_i (sp_fin M0) 0 12 0) 34 13 0) 40 0 0).1 40 j = _
        rw [gi, if_pos rfl, if_neg hj, gi_k (by decide), gi_k (by decide), fK 40 (by decide) (by decide), hc.1 40 (by decide) (by decide) (by decide) (by decide)]
      have x2 : X0.2 = M.2 := by show M0.2 = M.2; exact hc.2
      have x42 : X0.1 42 = M.1 42 := xK 42 (by decide) (by decide) (by decide) (by decide) (by decide) (by decide) (by decide) (by decide) (by decide)
      let X : az_M := az_i (az_l (ro X0 45 (cpy (X0.1 42) (X0.1 45) 0 (150 * 16) 150)) 40 41 (lI s)) 40 58 1
      have X42 : X.1 42 = M.1 42 := by
        show (az_i (az_l (ro X0 45 (cpy (X0.1 42) (X0.1 45) 0 (150 * 16) 150)) 40 41 (lI s)) 40 58 1).1 42 = _
        rw [gi_k (by decide), az_l_1, ro_ne (by decide)]; exact x42
      have XJ : ∀ j, j ≠ 58 → X.1 40 j = X0.1 40 j := fun j hj => by
        show (az_i (az_l (ro X0 45 (cpy (X0.1 42) (X0.1 45) 0 (150 * 16) 150)) 40 41 (lI s)) 40 58 1).1 40 j = _
        rw [gi, if_pos rfl, if_neg hj, az_l_1, ro_ne (by decide)]
      have XK : ∀ k, k ≠ 40 → k ≠ 45 → X.1 k = X0.1 k := fun k h40 h45 => by
        show (az_i (az_l (ro X0 45 (cpy (X0.1 42) (X0.1 45) 0 (150 * 16) 150)) 40 41 (lI s)) 40 58 1).1 k = _
        rw [gi_k h40, az_l_1, ro_ne h45]
      obtain ⟨G2, c, M', Mr', N', B', q1, q2, hc1, r31, pr, rg, hc', fd⟩ := season_run h hm hs hd X X42 (by rw [XJ 20 (by decide), xJ 20 (by decide)]) (by show (az_l (ro X0 45 (cpy (X0.1 42) (X0.1 45) 0 (150 * 16) 150)) 40 41 (lI s)).2.1 40 41 = _; rw [gl, if_pos rfl, if_pos rfl])
      have e := k1.symm.trans q1
      injection e with e
      injection e with e1 e2
      obtain ⟨M4, t1, t2, t3, t4, t5, t6, u0, u1, u2, u3, u4, u5⟩ := season_end (F := G2) (d := nI d) (Mr := Mr') hc1
      have y45 : Mr'.1 45 = X.1 45 := fd.1 45 (by decide) (by decide)
      have X45 : X.1 45 = cpy (M.1 42) (M.1 45) 0 (150 * 16) 150 := by
        show (az_i (az_l (ro X0 45 (cpy (X0.1 42) (X0.1 45) 0 (150 * 16) 150)) 40 41 (lI s)) 40 58 1).1 45 = _
        rw [gi_k (by decide), az_l_1, ro_eq, x42, xK 45 (by decide) (by decide) (by decide) (by decide) (by decide) (by decide) (by decide) (by decide) (by decide)]
      have z42 : M4.1 42 = M.1 42 := by
        rw [t2]
        refine r_back_same (fun j hj => ?_) (fun j hj => ?_)
        · rw [y45, X45, cpy_in (by omega), show 0 + (150 * 16 + j - 150 * 16) = j by omega]
        · rw [fd.2.2.2.2.2 j hj, X42]
      have zK : ∀ k, k ≠ 0 → k ≠ 34 → k ≠ 40 → k ≠ 28 → k ≠ 29 → k ≠ 14 → k ≠ 19 → k ≠ 20 → k ≠ 31 → k ≠ 42 → k ≠ 45 → k ≠ 70 → M4.1 k = M.1 k := fun k a b c d e f g i j l n o => by
        rw [t3 k c l o, fd.1 k c l, XK k c n, xK k a b c d e f g i j]
      have zJ : ∀ j, j ≠ 0 → j ≠ 1 → j ≠ 34 → j ≠ 38 → j ≠ 58 → M4.1 40 j = M.1 40 j := fun j a b c d e => by
        rw [t4 j b, fd.2.1 j c d, XJ j e, xJ j a]
      have z0 : ∀ k, k ≠ 40 → k ≠ 42 → k ≠ 45 → k ≠ 70 → M4.1 k = X0.1 k := fun k a b c d => by rw [t3 k a b d, fd.1 k a b, XK k a c]
      have z28 : M4.1 28 1 = 1 := by rw [z0 28 (by decide) (by decide) (by decide) (by decide)]; rfl
      have z29 : M4.1 29 = (sp_fin M').1 29 := by rw [z0 29 (by decide) (by decide) (by decide) (by decide), ← e2]; rfl
      refine ⟨nI c0, az_i (az_i (sp_fin M0) 0 12 0) 34 13 0, M4, ?_, ?_, ?_⟩
      · unfold f_X11_season
        rw [k1, Option.bind_some, p_settle]
        simp (disch := omega) only [n_addl, n_addr, n_add, n_mull, n_mulr, n_mul, n_sub, n_subr, n_subl, n_cl, n_lt, n_le, n_eq, n_ltl, n_ltr, n_lel, n_ler, n_eqr, n_eql, n_nm1, n_m1n, n_m1lt, n_ltm1, l_ltr, l_ltl, l_ler, l_lel, l_m1lt, l_nneg, if_true, if_false, or_false, false_or, or_true, true_or, and_true, true_and, and_false, false_and, not_true_eq_false, not_false_eq_true, Option.bind_some, Option.bind_none, reduceIte, ltT, ltF, leT, leF, eqT, eqF, nI_lt0]
      · unfold f_X12_season
        rw [show f_X12_in (nI s).toInt64 0 1000000 _ = some 1 from g_in (Nat.zero_le s) hs (by decide) _, Option.bind_some, if_neg (by decide), show f_X12_in (nI d).toInt64 1 30 _ = some 1 from g_in hd1 hd (by decide) _, Option.bind_some, if_neg (by decide), show ∀ M, f_X12_keepAll sp_G 16 M = some (ro M 45 (cpy (M.1 42) (M.1 45) 0 (150 * 16) 150)) from fun M => p_keepAll (q := 16) (by decide) M, Option.bind_some, nI_64 (by omega)]
        refine Eq.trans q2 ?_
        rw [t1, e1]
      · refine h.step (by omega) ⟨?_, ?_⟩ ?_ ?_ ?_ (fun k hk => zK k (by omega) (by omega) (by omega) (by omega) (by omega) (by omega) (by omega) (by omega) (by omega) (by omega) (by omega) (by omega)) ?_ (Or.inl ?_) ?_ ⟨?_, ?_, ?_, ?_⟩ ?_ ?_ ?_ ?_ ?_ ?_ ?_
        · rw [z42, zK 2 (by decide) (by decide) (by decide) (by decide) (by decide) (by decide) (by decide) (by decide) (by decide) (by decide) (by decide) (by decide)]; exact g3.1
        · rw [zK 2 (by decide) (by decide) (by decide) (by decide) (by decide) (by decide) (by decide) (by decide) (by decide) (by decide) (by decide) (by decide)]; exact g3.2
        · rw [zK 3 (by decide) (by decide) (by decide) (by decide) (by decide) (by decide) (by decide) (by decide) (by decide) (by decide) (by decide) (by decide)]
        · rw [zK 3 (by decide) (by decide) (by decide) (by decide) (by decide) (by decide) (by decide) (by decide) (by decide) (by decide) (by decide) (by decide)]
        · intro j _; rw [z42]
        · rw [t6, fd.2.2.2.2.1]; show X0.2.2 = M.2.2; rw [x2]
        · rw [z0 34 (by decide) (by decide) (by decide) (by decide)]; rfl
        · rw [zK 5 (by decide) (by decide) (by decide) (by decide) (by decide) (by decide) (by decide) (by decide) (by decide) (by decide) (by decide) (by decide), zK 6 (by decide) (by decide) (by decide) (by decide) (by decide) (by decide) (by decide) (by decide) (by decide) (by decide) (by decide) (by decide), zK 49 (by decide) (by decide) (by decide) (by decide) (by decide) (by decide) (by decide) (by decide) (by decide) (by decide) (by decide) (by decide), zJ 13 (by decide) (by decide) (by decide) (by decide) (by decide)]; exact g5
        · rw [t5, z0 0 (by decide) (by decide) (by decide) (by decide)]; rfl
        · rw [z0 0 (by decide) (by decide) (by decide) (by decide), zJ 18 (by decide) (by decide) (by decide) (by decide) (by decide)]
          show (sp_fin M0).1 0 13 = _
          rw [fK 0 (by decide) (by decide), hc.1 0 (by decide) (by decide) (by decide) (by decide)]; exact g6.2.1
        · rw [z0 0 (by decide) (by decide) (by decide) (by decide), zJ 11 (by decide) (by decide) (by decide) (by decide) (by decide)]
          show (sp_fin M0).1 0 14 = _
          rw [fK 0 (by decide) (by decide), hc.1 0 (by decide) (by decide) (by decide) (by decide)]; exact g6.2.2.1
        · rw [z0 0 (by decide) (by decide) (by decide) (by decide), zJ 55 (by decide) (by decide) (by decide) (by decide) (by decide)]
          show (sp_fin M0).1 0 15 = _
          rw [fK 0 (by decide) (by decide), hc.1 0 (by decide) (by decide) (by decide) (by decide)]; exact g6.2.2.2
        · rw [zK 12 (by decide) (by decide) (by decide) (by decide) (by decide) (by decide) (by decide) (by decide) (by decide) (by decide) (by decide) (by decide), zK 41 (by decide) (by decide) (by decide) (by decide) (by decide) (by decide) (by decide) (by decide) (by decide) (by decide) (by decide) (by decide)]; exact g7
        · rw [zK 7 (by decide) (by decide) (by decide) (by decide) (by decide) (by decide) (by decide) (by decide) (by decide) (by decide) (by decide) (by decide), zK 8 (by decide) (by decide) (by decide) (by decide) (by decide) (by decide) (by decide) (by decide) (by decide) (by decide) (by decide) (by decide), zK 9 (by decide) (by decide) (by decide) (by decide) (by decide) (by decide) (by decide) (by decide) (by decide) (by decide) (by decide) (by decide), zK 46 (by decide) (by decide) (by decide) (by decide) (by decide) (by decide) (by decide) (by decide) (by decide) (by decide) (by decide) (by decide), zJ 8 (by decide) (by decide) (by decide) (by decide) (by decide)]
          refine g8.congU (fun j hj => ?_)
          rw [t3 45 (by decide) (by decide) (by decide), y45, X45, cpy_out (by omega)]
        · exact zK 43 (by decide) (by decide) (by decide) (by decide) (by decide) (by decide) (by decide) (by decide) (by decide) (by decide) (by decide) (by decide)
        · exact zK 44 (by decide) (by decide) (by decide) (by decide) (by decide) (by decide) (by decide) (by decide) (by decide) (by decide) (by decide) (by decide)
        · have z58 : M4.1 40 58 = 1 := by rw [t4 58 (by decide), fd.2.1 58 (by decide) (by decide)]; rfl
          refine ⟨by rw [z28, z58], Or.inr ⟨z28, fun j hj => ?_⟩⟩
          rw [z29]
          have p1 := pr.1
          have p2 := pr.2.1 0 (by decide)
          have p3 := pr.2.2.2.1.2.2.1
          rcases (show j = 0 ∨ j = 1 ∨ j = 2 ∨ j = 3 ∨ j = 4 ∨ j = 5 by omega) with rfl | rfl | rfl | rfl | rfl | rfl
          · rw [u0, ← p1.1, ← r31]; rfl
          · rw [u1, ← p1.2.1, ← r31]; rfl
          · rw [u2, ← p1.2.2.1, ← r31]; rfl
          · rw [u3, ← p1.2.2.2, ← r31]; rfl
          · rw [u4, ← p2, ← r31]; rfl
          · rw [u5, ← p3, ← r31]; rfl
        · rw [zJ 20 (by decide) (by decide) (by decide) (by decide) (by decide)]; exact g11.1
        · intro k hk
          rw [t6, fd.2.2.1 k (by omega) (by omega) (by omega)]
          show (az_l (ro X0 45 (cpy (X0.1 42) (X0.1 45) 0 (150 * 16) 150)) 40 41 (lI s)).2.1 k = _
          rw [az_l_ne (by omega)]; show X0.2.1 k = _; rw [x2]
    · refine t_refuse h (j := 0) (j' := 1) (v := -1) (by simp) ?_ (fun M => ?_)
      · unfold f_X11_season f_X11_season_22
        rw [if_neg (show ¬ nI s < 0 from nI_nlt (Nat.zero_le s) (by omega)), if_neg (show ¬ (1000000 : Int32) < nI s from fun hE => absurd ((n_lt (a := 1000000) (b := s) (by omega) (by omega)).mp hE) (by omega))]
        exact (i_bad (lo := 1) (hi := 30) hb).trans rfl
      · unfold f_X12_season
        rw [show f_X12_in (nI s).toInt64 0 1000000 _ = some 1 from g_in (Nat.zero_le s) hs (by decide) _, Option.bind_some, if_neg (by decide), show f_X12_in a2.toInt64 1 30 _ = some 0 from hi _]
        rfl
  · refine t_refuse h (j := 0) (j' := 1) (v := -1) (by simp) ?_ (fun M => ?_)
    · unfold f_X11_season f_X11_season_22
      exact (i_bad' (lo := 0) (hi := 1000000) hb).trans rfl
    · unfold f_X12_season
      rw [show f_X12_in a1.toInt64 0 1000000 _ = some 0 from hi _]
      rfl
