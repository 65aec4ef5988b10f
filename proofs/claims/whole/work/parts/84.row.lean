/-! row -/
theorem row_loop {B L : Nat} (hL : L ≤ 400) {T : Nat → Int32} (hT : ∀ i, i < 400 → sp_in (T i) 0 255) :
    ∀ (e i : Nat), L ≤ i + 3 * e → i < L + 3 → ∀ (F F' : Nat), e < F → e < F' → ∀ (M Mr : az_M) (t c : Nat), sp_pr (M.1 2) (Mr.1 42) → sp_rg B (M.1 2) → M.1 5 1 = nI L → (∀ j, j < 400 → M.1 6 j = T j) → (∀ j, j < 400 → Mr.1 49 j = T j) → M.1 0 14 = nI c → Mr.1 40 11 = nI c → t ≤ i → c ≤ i →
    ∃ F1 F2 i' t' c' M' Mr', f_X11_row_26 sp_G F (nI t) (nI i) M = f_X11_row_26 sp_G (F1 + 1) (nI t') (nI i') M' ∧ f_X12_row_35 sp_G F' (nI L) (nI t) (nI i) Mr = f_X12_row_35 sp_G (F2 + 1) (nI L) (nI t') (nI i') Mr' ∧ L ≤ i' ∧ i' < 1000 ∧ t' < 1000 ∧ sp_pr (M'.1 2) (Mr'.1 42) ∧ sp_rg B (M'.1 2) ∧ M'.1 0 14 = nI c' ∧ Mr'.1 40 11 = nI c' ∧ M'.1 5 1 = nI L ∧ (∀ k, k ≠ 0 → k ≠ 2 → M'.1 k = M.1 k) ∧ (∀ j, j ≠ 14 → M'.1 0 j = M.1 0 j) ∧ M'.2 = M.2 ∧ (∀ k, k ≠ 40 → k ≠ 42 → Mr'.1 k = Mr.1 k) ∧ (∀ j, j ≠ 11 → Mr'.1 40 j = Mr.1 40 j) ∧ Mr'.2 = Mr.2 ∧ ∀ j, j = 4 ∨ j = 5 ∨ (150 ≤ j ∧ j < 5550) → Mr'.1 42 j = Mr.1 42 j := by
  intro e
  induction e with
  | zero =>
    intro i h1 h2 F F' hF hF' M Mr t c pr rg m5 m6 r49 c1 c2 ht hc
    obtain ⟨F, rfl⟩ : ∃ F1, F = F1 + 1 := ⟨F - 1, by omega⟩
    obtain ⟨F', rfl⟩ : ∃ F1, F' = F1 + 1 := ⟨F' - 1, by omega⟩
    exact ⟨F, F', i, t, c, M, Mr, rfl, rfl, by omega, by omega, by omega, pr, rg, c1, c2, m5, fun _ _ _ => rfl, fun _ _ => rfl, rfl, fun _ _ _ => rfl, fun _ _ => rfl, rfl, fun _ _ => rfl⟩
  | succ e ih =>
    intro i h1 h2 F F' hF hF' M Mr t c pr rg m5 m6 r49 c1 c2 ht hc
    obtain ⟨F, rfl⟩ : ∃ F1, F = F1 + 1 := ⟨F - 1, by omega⟩
    obtain ⟨F', rfl⟩ : ∃ F1, F' = F1 + 1 := ⟨F' - 1, by omega⟩
    by_cases hi : L ≤ i
    · exact ⟨F, F', i, t, c, M, Mr, rfl, rfl, hi, by omega, by omega, pr, rg, c1, c2, m5, fun _ _ _ => rfl, fun _ _ => rfl, rfl, fun _ _ _ => rfl, fun _ _ => rfl, rfl, fun _ _ => rfl⟩
    · obtain ⟨n, hn, _, hn2⟩ := rg.2.2.2.1.1.nat (by decide) (by decide)
      have n42 : Mr.1 42 0 = nI n := pr.2.2.2.1.1.symm.trans hn
      -- a chip
      have chip : f_X11_placeFromTape (nI i) M = some (0, M) → f_X12_row_35 sp_G (F' + 1) (nI L) (nI t) (nI i) Mr = f_X12_row_82 sp_G (f_X12_row_35 sp_G F') (nI L) (nI t) (nI i) Mr →
          ∃ F1 F2 i' t' c' M' Mr', f_X11_row_26 sp_G (F + 1) (nI t) (nI i) M = f_X11_row_26 sp_G (F1 + 1) (nI t') (nI i') M' ∧ f_X12_row_35 sp_G (F' + 1) (nI L) (nI t) (nI i) Mr = f_X12_row_35 sp_G (F2 + 1) (nI L) (nI t') (nI i') Mr' ∧ L ≤ i' ∧ i' < 1000 ∧ t' < 1000 ∧ sp_pr (M'.1 2) (Mr'.1 42) ∧ sp_rg B (M'.1 2) ∧ M'.1 0 14 = nI c' ∧ Mr'.1 40 11 = nI c' ∧ M'.1 5 1 = nI L ∧ (∀ k, k ≠ 0 → k ≠ 2 → M'.1 k = M.1 k) ∧ (∀ j, j ≠ 14 → M'.1 0 j = M.1 0 j) ∧ M'.2 = M.2 ∧ (∀ k, k ≠ 40 → k ≠ 42 → Mr'.1 k = Mr.1 k) ∧ (∀ j, j ≠ 11 → Mr'.1 40 j = Mr.1 40 j) ∧ Mr'.2 = Mr.2 ∧ ∀ j, j = 4 ∨ j = 5 ∨ (150 ≤ j ∧ j < 5550) → Mr'.1 42 j = Mr.1 42 j := by
        intro e1 e2
        obtain ⟨F1, F2, i', t', c', M', Mr', a1, a2, a3, a4, a5, a6, a7, a8, a9, a10, a11, a12, a13, a14, a15, a16, a17⟩ := ih (i + 3) (by omega) (by omega) F F' (by omega) (by omega) (az_i M 0 14 (nI (c + 1))) (az_i Mr 40 11 (nI (c + 1))) t (c + 1) (by rw [gi_k (by decide), gi_k (by decide)]; exact pr) (by rw [gi_k (by decide)]; exact rg) (by rw [gi_k (by decide)]; exact m5) (by rw [gi_k (by decide)]; exact m6) (by rw [gi_k (by decide)]; exact r49) (by rw [gi, if_pos rfl, if_pos rfl]) (by rw [gi, if_pos rfl, if_pos rfl]) (by omega) (by omega)
        refine ⟨F1, F2, i', t', c', M', Mr', ?_, ?_, a3, a4, a5, a6, a7, a8, a9, a10, fun k h0 h2 => ?_, fun j hj => ?_, a13, fun k h40 h42 => ?_, fun j hj => ?_, a16, fun j hj => ?_⟩
        · rw [← a1, f_X11_row_26, m5, if_neg (by rw [n_le (by omega) (by omega)]; exact hi), e1, Option.bind_some, if_pos rfl, c1]
          unfold f_X11_row_61
          rw [n_addr, n_addr]
        · rw [e2, ← a2]
          unfold f_X12_row_82 f_X12_row_92
          rw [c2, n_addr, n_addr]
        · rw [a11 k h0 h2, gi_k h0]
        · rw [a12 j hj, gi, if_pos rfl, if_neg hj]
        · rw [a14 k h40 h42, gi_k h40]
        · rw [a15 j hj, gi, if_pos rfl, if_neg hj]
        · rw [a17 j hj, gi_k (by decide)]
      by_cases hs : L ≤ i + 2
      · refine chip ?_ ?_
        · unfold f_X11_placeFromTape f_X11_placeFromTape_28
          rw [m5, n_addr, if_pos (by rw [n_lt (by omega) (by omega)]; omega)]
        · rw [f_X12_row_35]
          simp (disch := omega) only [n_addl, n_addr, n_add, n_mull, n_mulr, n_mul, n_sub, n_subr, n_subl, n_cl, n_lt, n_le, n_eq, n_ltl, n_ltr, n_lel, n_ler, n_eqr, n_eql, n_nm1, n_m1n, n_m1lt, n_ltm1, l_ltr, l_ltl, l_ler, l_lel, l_m1lt, l_nneg, if_true, if_false, or_false, false_or, or_true, true_or, and_true, true_and, and_false, false_and, not_true_eq_false, not_false_eq_true, Option.bind_some, Option.bind_none, reduceIte, ltT, ltF, leT, leF, eqT, eqF, nI_lt0]
      · have ref : f_X12_row_35 sp_G (F' + 1) (nI L) (nI t) (nI i) Mr = ((f_X12_place1 (T i) (T (i + 1)) (T (i + 2)) Mr).bind fun q11 => (if q11.1 < 0 then f_X12_row_82 sp_G (f_X12_row_35 sp_G F') (nI L) (nI t) (nI i) q11.2 else f_X12_row_92 sp_G (f_X12_row_35 sp_G F') (nI L) (nI t + 1) (nI i) q11.2)) := by
          rw [f_X12_row_35]
          simp (disch := omega) only [n_addl, n_addr, n_add, n_mull, n_mulr, n_mul, n_sub, n_subr, n_subl, n_cl, n_lt, n_le, n_eq, n_ltl, n_ltr, n_lel, n_ler, n_eqr, n_eql, n_nm1, n_m1n, n_m1lt, n_ltm1, l_ltr, l_ltl, l_ler, l_lel, l_m1lt, l_nneg, if_true, if_false, or_false, false_or, or_true, true_or, and_true, true_and, and_false, false_and, not_true_eq_false, not_false_eq_true, Option.bind_some, Option.bind_none, reduceIte, ltT, ltF, leT, leF, eqT, eqF, nI_lt0]
          rw [r49 _ (by omega), r49 _ (by omega), r49 _ (by omega)]
        have cls : f_X11_placeFromTape (nI i) M = (if n < 12 then ((f_X11_isPlace (T i) (T (i + 1)) (T (i + 2)) M).bind fun q6 => (if q6 = 0 then some (0, M) else ((f_X4_addPlace 1 (T i) (T (i + 1)) (T (i + 2)) M).bind fun q9 => some (1, q9.2)))) else some (0, M)) := by
          unfold f_X11_placeFromTape f_X11_placeFromTape_28
          rw [m5, hn]
          simp (disch := omega) only [n_addl, n_addr, n_add, n_mull, n_mulr, n_mul, n_sub, n_subr, n_subl, n_cl, n_lt, n_le, n_eq, n_ltl, n_ltr, n_lel, n_ler, n_eqr, n_eql, n_nm1, n_m1n, n_m1lt, n_ltm1, l_ltr, l_ltl, l_ler, l_lel, l_m1lt, l_nneg, if_true, if_false, or_false, false_or, or_true, true_or, and_true, true_and, and_false, false_and, not_true_eq_false, not_false_eq_true, Option.bind_some, Option.bind_none, reduceIte, ltT, ltF, leT, leF, eqT, eqF, nI_lt0]
          rw [m6 _ (by omega), m6 _ (by omega), m6 _ (by omega)]
        rcases plc_cases (T i) (T (i + 1)) (T (i + 2)) with ⟨x, y, z, hx, hy, hz, ex, ey, ez⟩ | hbad
        · by_cases h12 : n < 12
          · rw [if_pos h12, ex, ey, ez, c_isPlace hx hy hz, Option.bind_some, if_neg (by decide), p_addPlace hn h12, Option.bind_some] at cls
            rw [ex, ey, ez, p_place1 n42 h12 hx hy hz, Option.bind_some, if_neg (by rw [nI_lt0 (by omega)]; exact not_false)] at ref
            obtain ⟨F1, F2, i', t', c', M', Mr', a1, a2, a3, a4, a5, a6, a7, a8, a9, a10, a11, a12, a13, a14, a15, a16, a17⟩ := ih (i + 3) (by omega) (by omega) F F' (by omega) (by omega) (ro M 2 (sp_plc (M.1 2) n (nI x) (nI y) (nI z))) (ro Mr 42 (r_plc (Mr.1 42) n (nI x) (nI y) (nI z))) (t + 1) c (by rw [ro_eq, ro_eq]; exact sp_plc_pr pr rg.q7 h12 _ _ _) (by rw [ro_eq]; exact sp_plc_rg rg hn h12 hx hy hz) (by rw [ro_ne (by decide)]; exact m5) (by rw [ro_ne (by decide)]; exact m6) (by rw [ro_ne (by decide)]; exact r49) (by rw [ro_ne (by decide)]; exact c1) (by rw [ro_ne (by decide)]; exact c2) (by omega) (by omega)
            refine ⟨F1, F2, i', t', c', M', Mr', ?_, ?_, a3, a4, a5, a6, a7, a8, a9, a10, fun k h0 h2 => ?_, fun j hj => ?_, a13, fun k h40 h42 => ?_, fun j hj => ?_, a16, fun j hj => ?_⟩
            · rw [← a1, f_X11_row_26, m5, if_neg (by rw [n_le (by omega) (by omega)]; exact hi), cls, Option.bind_some, if_neg (show ¬ (1 : Int32) = 0 by decide)]
              unfold f_X11_row_61
              rw [n_addr, n_addr]
            · rw [ref, ← a2]
              unfold f_X12_row_92
              rw [n_addr, n_addr]
            · rw [a11 k h0 h2, ro_ne h2]
            · rw [a12 j hj, ro_ne (by decide)]
            · rw [a14 k h40 h42, ro_ne h42]
            · rw [a15 j hj, ro_ne (by decide)]
            · rw [a17 j hj, ro_eq, r_plc_law h12 _ _ _ hj]
          · obtain rfl : n = 12 := by omega
            rw [if_neg h12] at cls
            rw [ex, ey, ez, p_place1_full n42 hx hy hz, Option.bind_some, if_pos (show (-5 : Int32) < 0 by decide)] at ref
            exact chip cls ref
        · rw [p_place1_bad hbad, Option.bind_some, if_pos (show (-1 : Int32) < 0 by decide)] at ref
          refine chip ?_ ref
          rw [cls, c_isPlace_bad hbad]
          split <;> rfl
theorem row_run {B L : Nat} {M X : az_M} (hL : L ≤ 400) (h0 : 0 < L) (pr : sp_pr (M.1 2) (X.1 42)) (rg : sp_rg B (M.1 2)) (m5 : M.1 5 1 = nI L) (m6 : ∀ j, j < 400 → sp_in (M.1 6 j) 0 255) (r49 : ∀ j, j < 400 → X.1 49 j = M.1 6 j) :
    ∃ t c M' Mr', f_X11_row sp_G M = some (nI t, az_i (az_i (az_i (az_i M' 5 1 0) 7 3 0) 0 12 0) 34 13 0) ∧ f_X12_row_35 sp_G sp_G (nI L) 0 0 (az_i X 40 11 0) = some (nI t, az_i (az_i Mr' 40 8 0) 40 1 0) ∧ sp_pr (M'.1 2) (Mr'.1 42) ∧ sp_rg B (M'.1 2) ∧ M'.1 0 14 = nI c ∧ Mr'.1 40 11 = nI c ∧ (∀ k, k ≠ 0 → k ≠ 2 → M'.1 k = M.1 k) ∧ (∀ j, j ≠ 14 → M'.1 0 j = M.1 0 j) ∧ M'.2 = M.2 ∧ (∀ k, k ≠ 40 → k ≠ 42 → Mr'.1 k = X.1 k) ∧ (∀ j, j ≠ 11 → Mr'.1 40 j = X.1 40 j) ∧ Mr'.2 = X.2 ∧ ∀ j, j = 4 ∨ j = 5 ∨ (150 ≤ j ∧ j < 5550) → Mr'.1 42 j = X.1 42 j := by
  have big : L < sp_G := Nat.lt_of_le_of_lt hL (by decide)
  obtain ⟨F1, F2, i', t', c', M', Mr', a1, a2, a3, a4, a5, a6, a7, a8, a9, a10, a11, a12, a13, a14, a15, a16, a17⟩ := row_loop (B := B) hL m6 L 0 (by omega) (by omega) sp_G sp_G big big (az_i M 0 14 0) (az_i X 40 11 0) 0 0 (by rw [gi_k (by decide), gi_k (by decide)]; exact pr) (by rw [gi_k (by decide)]; exact rg) (by rw [gi_k (by decide)]; exact m5) (fun j _ => by rw [gi_k (by decide)]) (by rw [gi_k (by decide)]; exact r49) (by rw [gi, if_pos rfl, if_pos rfl]; rfl) (by rw [gi, if_pos rfl, if_pos rfl]; rfl) (by omega) (by omega)
  refine ⟨t', c', M', Mr', ?_, ?_, a6, a7, a8, a9, fun k h0 h2 => ?_, fun j hj => ?_, a13, fun k h40 h42 => ?_, fun j hj => ?_, a16, fun j hj => ?_⟩
  · unfold f_X11_row
    rw [m5, if_neg (by intro hE; have := (n_eq (a := L) (b := 0) (by omega) (by omega)).mp hE; omega)]
    refine Eq.trans a1 ?_
    rw [f_X11_row_26, a10, if_pos (by rw [n_le (by omega) (by omega)]; exact a3), p_settleAnew]
    rfl
  · refine Eq.trans a2 ?_
    rw [f_X12_row_35, if_pos (by rw [n_le (by omega) (by omega)]; exact a3)]
    unfold f_X12_settled f_X12_settled_13
    rw [if_pos (nI_pos' (by omega)), p_tell (nI_pos' (by omega))]
    rfl
  · rw [a11 k h0 h2, gi_k h0]
  · rw [a12 j hj, gi, if_pos rfl, if_neg hj]
  · rw [a14 k h40 h42, gi_k h40]
  · rw [a15 j hj, gi, if_pos rfl, if_neg hj]
  · rw [a17 j hj, gi_k (by decide)]
theorem ob_row : Ob_row az_Inv sp_G := by
  intro m Z M _ h
  obtain ⟨g1, g2, g3, ⟨ls, g4, g4b⟩, g5, g6, g7, g8, g9, g10, g11⟩ := h.mono
  obtain ⟨L, hL, _, hL2⟩ := g5.2.1.nat (by decide) (by decide)
  have e13 : M.1 40 13 = nI L := g5.1.symm.trans hL
  rcases Nat.eq_zero_or_pos L with h0 | h0
  · subst h0
    refine ⟨-6, p_rc M (-6) 4, _, ?_, ?_, h.refuse (v := -6) (j := 4) (j' := 6) (by simp)⟩
    · unfold f_X11_row; rw [hL, if_pos (show nI 0 = 0 from rfl)]; rfl
    · unfold f_X12_row
      have e : (az_i (p_rc M (-6) 4) 40 0 0).1 40 13 = nI 0 := e13
      rw [e, if_pos (show nI 0 = 0 from rfl), show az_i (az_i (p_rc M (-6) 4) 40 0 0) 40 13 0 = az_i (p_rc M (-6) 4) 40 0 0 from (congrArg (az_i (az_i (p_rc M (-6) 4) 40 0 0) 40 13) e.symm).trans (az_i_self _ 40 13), p_tell6]
      rfl
  · obtain ⟨t0, c0, M0, _, k1, _, _, _, _, _, kk, k0, k2, _⟩ := row_run (B := sp_B (m + 1)) (X := M) (by omega) h0 g3.1 g3.2 hL (fun j hj => (g5.2.2 j hj).2) (fun j hj => (g5.2.2 j hj).1.symm)
    generalize hC : az_i (az_i (az_i (az_i M0 5 1 0) 7 3 0) 0 12 0) 34 13 0 = C at k1
    have CK : ∀ k, k ≠ 0 → k ≠ 2 → k ≠ 5 → k ≠ 7 → k ≠ 34 → C.1 k = M.1 k := fun k a b c d e => by
      rw [← hC, gi_k e, gi_k a, gi_k d, gi_k c, kk k a b]
    have C2 : C.2 = M.2 := by rw [← hC]; exact k2
    generalize hX : az_i (az_i C 40 0 0) 40 13 0 = X
    have XK : ∀ k, k ≠ 40 → X.1 k = C.1 k := fun k a => by rw [← hX, gi_k a, gi_k a]
    have XJ : ∀ j, j ≠ 0 → j ≠ 13 → X.1 40 j = M.1 40 j := fun j a b => by
      rw [← hX, gi, if_pos rfl, if_neg b, gi, if_pos rfl, if_neg a, CK 40 (by decide) (by decide) (by decide) (by decide) (by decide)]
    have x42 : X.1 42 = M.1 42 := by rw [XK 42 (by decide), CK 42 (by decide) (by decide) (by decide) (by decide) (by decide)]
    have x49 : X.1 49 = M.1 49 := by rw [XK 49 (by decide), CK 49 (by decide) (by decide) (by decide) (by decide) (by decide)]
    obtain ⟨t, c, M', Mr', q1, q2, pr, rg, c1, c2, a1, a2, a3, a4, a5, a6, a7⟩ := row_run (B := sp_B (m + 1)) (X := X) (by omega) h0 (by rw [x42]; exact g3.1) g3.2 hL (fun j hj => (g5.2.2 j hj).2) (fun j hj => by rw [x49]; exact (g5.2.2 j hj).1.symm)
    have e := k1.symm.trans q1
    injection e with e
    injection e with e1 e2
    have zK : ∀ k, k ≠ 40 → k ≠ 42 → (az_i (az_i Mr' 40 8 0) 40 1 0).1 k = C.1 k := fun k a b => by
      rw [gi_k a, gi_k a, a4 k a b, XK k a]
    have zJ : ∀ j, j ≠ 0 → j ≠ 1 → j ≠ 8 → j ≠ 11 → j ≠ 13 → (az_i (az_i Mr' 40 8 0) 40 1 0).1 40 j = M.1 40 j := fun j a b c d e => by
      rw [gi, if_pos rfl, if_neg b, gi, if_pos rfl, if_neg c, a5 j d, XJ j a e]
    have z42 : (az_i (az_i Mr' 40 8 0) 40 1 0).1 42 = Mr'.1 42 := by rw [gi_k (by decide), gi_k (by decide)]
    have Cr2 : C.1 2 = M'.1 2 := by rw [e2, gi_k (by decide), gi_k (by decide), gi_k (by decide), gi_k (by decide)]
    refine ⟨nI t0, C, az_i (az_i Mr' 40 8 0) 40 1 0, k1, ?_, ?_⟩
    · unfold f_X12_row
      have e40 : (az_i C 40 0 0).1 40 13 = nI L := by
        rw [gi, if_pos rfl, if_neg (by decide), CK 40 (by decide) (by decide) (by decide) (by decide) (by decide)]; exact e13
      rw [e40, if_neg (by intro hE; have := (n_eq (a := L) (b := 0) (by omega) (by omega)).mp hE; omega), hX, q2, e1]
    · refine h.step (by omega) ⟨?_, ?_⟩ ?_ ?_ ?_ (fun k hk => ?_) ?_ (Or.inl ?_) ⟨?_, ?_, ?_⟩ ⟨?_, ?_, ?_, ?_⟩ ?_ ?_ ?_ ?_ ?_ ?_ ?_
      · rw [zK 2 (by decide) (by decide), z42, Cr2]; exact pr
      · rw [zK 2 (by decide) (by decide), Cr2]; exact rg
      · rw [zK 3 (by decide) (by decide), CK 3 (by decide) (by decide) (by decide) (by decide) (by decide)]
      · rw [zK 3 (by decide) (by decide), CK 3 (by decide) (by decide) (by decide) (by decide) (by decide)]
      · intro j hj; rw [z42, a7 j hj, x42]
      · rw [zK k (by omega) (by omega), CK k (by omega) (by omega) (by omega) (by omega) (by omega)]
      · show Mr'.2.2 = M.2.2
        rw [a6, ← hX]; show C.2.2 = _; rw [C2]
      · rw [zK 34 (by decide) (by decide), ← hC]; rfl
      · have C51 : C.1 5 1 = 0 := by rw [← hC]; rfl
        rw [zK 5 (by decide) (by decide), C51, gi, if_pos rfl, if_neg (by decide), gi, if_pos rfl, if_neg (by decide), a5 13 (by decide), ← hX]; rfl
      · have C51 : C.1 5 1 = 0 := by rw [← hC]; rfl
        rw [zK 5 (by decide) (by decide), C51]; exact ⟨by decide, by decide⟩
      · rw [zK 6 (by decide) (by decide), zK 49 (by decide) (by decide), CK 6 (by decide) (by decide) (by decide) (by decide) (by decide), CK 49 (by decide) (by decide) (by decide) (by decide) (by decide)]; exact g5.2.2
      · rw [zK 0 (by decide) (by decide), ← hC]; rfl
      · rw [zK 0 (by decide) (by decide), zJ 18 (by decide) (by decide) (by decide) (by decide) (by decide), ← hC]
        show M0.1 0 13 = _
        rw [k0 13 (by decide)]; exact g6.2.1
      · rw [zK 0 (by decide) (by decide), e2]
        show M'.1 0 14 = Mr'.1 40 11
        rw [c1, c2]
      · rw [zK 0 (by decide) (by decide), zJ 55 (by decide) (by decide) (by decide) (by decide) (by decide), ← hC]
        show M0.1 0 15 = _
        rw [k0 15 (by decide)]; exact g6.2.2.2
      · rw [zK 12 (by decide) (by decide), zK 41 (by decide) (by decide), CK 12 (by decide) (by decide) (by decide) (by decide) (by decide), CK 41 (by decide) (by decide) (by decide) (by decide) (by decide)]; exact g7
      · rw [zK 7 (by decide) (by decide), zK 8 (by decide) (by decide), zK 9 (by decide) (by decide), ← hC]
        show sp_past _ (M0.1 7 2) 0 _ _ 0 _ _
        rw [kk 7 (by decide) (by decide)]
        exact sp_past.none g8.el
      · rw [zK 43 (by decide) (by decide), CK 43 (by decide) (by decide) (by decide) (by decide) (by decide)]
      · rw [zK 44 (by decide) (by decide), CK 44 (by decide) (by decide) (by decide) (by decide) (by decide)]
      · rw [zK 28 (by decide) (by decide), zK 29 (by decide) (by decide), zK 70 (by decide) (by decide), CK 28 (by decide) (by decide) (by decide) (by decide) (by decide), CK 29 (by decide) (by decide) (by decide) (by decide) (by decide), CK 70 (by decide) (by decide) (by decide) (by decide) (by decide), zJ 58 (by decide) (by decide) (by decide) (by decide) (by decide)]; exact g10
      · rw [zJ 20 (by decide) (by decide) (by decide) (by decide) (by decide)]; exact g11.1
      · intro k _
        show Mr'.2.1 k = M.2.1 k
        rw [a6, ← hX]; show C.2.1 k = _; rw [C2]
