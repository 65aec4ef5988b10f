/-! feed -/
theorem sp_in_and (x : Int32) : sp_in (x &&& 255) 0 255 := by
  have h : (x &&& 255).toBitVec = x.toBitVec &&& 255#32 := rfl
  have h1 : (x &&& 255).toBitVec.toNat ≤ 255 := by rw [h, BitVec.toNat_and]; exact Nat.and_le_right
  have h2 : (x &&& 255).toInt = ((x &&& 255).toBitVec.toNat : Int) := by
    show (x &&& 255).toBitVec.toInt = _
    rw [BitVec.toInt_eq_toNat_of_lt (by omega)]
  exact ⟨by omega, by omega⟩
def p_b (a s : Int32) : Int32 := (a >>> (s &&& 31)) &&& 255
def p_w4 (f : Nat → Int32) (n : Nat) (a : Int32) : Nat → Int32 := up (up (up (up f n (p_b a 24)) (n + 1) (p_b a 16)) (n + 1 + 1) (p_b a 8)) (n + 1 + 1 + 1) (p_b a 0)
theorem p_take1 {G F n : Nat} {a s : Int32} {M : az_M} (hs : ¬ s < 0) (hn : M.1 5 1 = nI n) (h : n < 400) : f_X9_take_3 G (F + 1) a s M = f_X9_take_3 G F a (s + -8) (ro (ro M 6 (up (M.1 6) n (p_b a s))) 5 (up (M.1 5) 1 (nI (n + 1)))) := by
  rw [f_X9_take_3, if_neg hs, hn]
  simp (disch := omega) only [n_addl, n_addr, n_add, n_mull, n_mulr, n_mul, n_sub, n_subr, n_subl, n_cl, n_lt, n_le, n_eq, n_ltl, n_ltr, n_lel, n_ler, n_eqr, n_eql, n_nm1, n_m1n, n_m1lt, n_ltm1, l_ltr, l_ltl, l_ler, l_lel, l_m1lt, l_nneg, if_true, if_false, or_false, false_or, or_true, true_or, and_true, true_and, and_false, false_and, not_true_eq_false, not_false_eq_true, Option.bind_some, Option.bind_none, reduceIte, ltT, ltF, leT, leF, eqT, eqF, nI_lt0]
  rw [az_i_ro, az_i_ro]
  rw [show (ro M 6 (up (M.1 6) n ((a >>> (s &&& 31)) &&& 255))).1 5 = M.1 5 from rfl, hn, n_addr]
  rfl
theorem p_take0 {G F : Nat} {a s : Int32} {M : az_M} (hs : s < 0) : f_X9_take_3 G (F + 1) a s M = some M := by
  rw [f_X9_take_3, if_pos hs, f_X9_take_49]
theorem p_four0 {G F : Nat} {a s : Int32} {M : az_M} (hs : s < 0) : f_X12_four_3 G (F + 1) a s M = some M := by
  rw [f_X12_four_3, if_pos hs]
theorem p_take {n : Nat} (a : Int32) {M : az_M} (hn : M.1 5 1 = nI n) (h : n + 4 ≤ 400) : ∃ M', f_X9_take sp_G a M = some M' ∧ M'.1 5 1 = nI (n + 4) ∧ M'.1 6 = p_w4 (M.1 6) n a ∧ (∀ k, k ≠ 5 → k ≠ 6 → M'.1 k = M.1 k) ∧ M'.2 = M.2 := by
  refine ⟨_, (p_take1 (F := 999999) (n := n) (by decide) hn (by omega)).trans ((p_take1 (F := 999998) (n := n + 1) (by decide) rfl (by omega)).trans ((p_take1 (F := 999997) (n := n + 1 + 1) (by decide) rfl (by omega)).trans ((p_take1 (F := 999996) (n := n + 1 + 1 + 1) (by decide) rfl (by omega)).trans (p_take0 (F := 999995) (by decide))))), rfl, rfl, fun k h5 h6 => ?_, rfl⟩
  rw [ro_ne h5, ro_ne h6, ro_ne h5, ro_ne h6, ro_ne h5, ro_ne h6, ro_ne h5, ro_ne h6]
theorem p_four1 {G F n : Nat} {a s : Int32} {M : az_M} (hs : ¬ s < 0) (hn : M.1 40 13 = nI n) (h : n < 400) : f_X12_four_3 G (F + 1) a s M = f_X12_four_3 G F a (s + -8) (ro (ro M 49 (up (M.1 49) n (p_b a s))) 40 (up (M.1 40) 13 (nI (n + 1)))) := by
  rw [f_X12_four_3, if_neg hs, hn]
  simp (disch := omega) only [n_addl, n_addr, n_add, n_mull, n_mulr, n_mul, n_sub, n_subr, n_subl, n_cl, n_lt, n_le, n_eq, n_ltl, n_ltr, n_lel, n_ler, n_eqr, n_eql, n_nm1, n_m1n, n_m1lt, n_ltm1, l_ltr, l_ltl, l_ler, l_lel, l_m1lt, l_nneg, if_true, if_false, or_false, false_or, or_true, true_or, and_true, true_and, and_false, false_and, not_true_eq_false, not_false_eq_true, Option.bind_some, Option.bind_none, reduceIte, ltT, ltF, leT, leF, eqT, eqF, nI_lt0]
  rw [az_i_ro, az_i_ro]
  rw [show (ro M 49 (up (M.1 49) n ((a >>> (s &&& 31)) &&& 255))).1 40 = M.1 40 from rfl, hn, n_addr]
  rfl
theorem p_four {n : Nat} (a : Int32) {M : az_M} (hn : M.1 40 13 = nI n) (h : n + 4 ≤ 400) : ∃ M', f_X12_four sp_G a M = some M' ∧ M'.1 40 13 = nI (n + 4) ∧ M'.1 49 = p_w4 (M.1 49) n a ∧ (∀ k, k ≠ 40 → k ≠ 49 → M'.1 k = M.1 k) ∧ (∀ j, j ≠ 13 → M'.1 40 j = M.1 40 j) ∧ M'.2 = M.2 := by
  refine ⟨_, (p_four1 (F := 999999) (n := n) (by decide) hn (by omega)).trans ((p_four1 (F := 999998) (n := n + 1) (by decide) rfl (by omega)).trans ((p_four1 (F := 999997) (n := n + 1 + 1) (by decide) rfl (by omega)).trans ((p_four1 (F := 999996) (n := n + 1 + 1 + 1) (by decide) rfl (by omega)).trans (p_four0 (F := 999995) (by decide))))), rfl, rfl, fun k h5 h6 => ?_, fun j hj => ?_, rfl⟩
  · rw [ro_ne h5, ro_ne h6, ro_ne h5, ro_ne h6, ro_ne h5, ro_ne h6, ro_ne h5, ro_ne h6]
  · show up (up (up (up (M.1 40) 13 _) 13 _) 13 _) 13 _ j = _
    rw [up_ne hj, up_ne hj, up_ne hj, up_ne hj]
theorem up_tp {f g : Nat → Int32} (h : ∀ i, i < 400 → f i = g i ∧ sp_in (f i) 0 255) (j : Nat) {v : Int32} (hv : sp_in v 0 255) : ∀ i, i < 400 → up f j v i = up g j v i ∧ sp_in (up f j v i) 0 255 := by
  intro i hi
  by_cases e : i = j
  · subst e; rw [up_eq, up_eq]; exact ⟨rfl, hv⟩
  · rw [up_ne e, up_ne e]; exact h i hi
theorem w4_tp {f g : Nat → Int32} (h : ∀ i, i < 400 → f i = g i ∧ sp_in (f i) 0 255) (n : Nat) (a : Int32) : ∀ i, i < 400 → p_w4 f n a i = p_w4 g n a i ∧ sp_in (p_w4 f n a i) 0 255 :=
  up_tp (up_tp (up_tp (up_tp h _ (sp_in_and _)) _ (sp_in_and _)) _ (sp_in_and _)) _ (sp_in_and _)
theorem ob_feed : Ob_feed az_Inv sp_G := by
  intro m Z M a1 a2 a3 a4 a5 _ h
  obtain ⟨g1, g2, g3, ⟨ls, g4, g4b⟩, g5, g6, g7, g8, g9, g10, g11⟩ := h.mono
  obtain ⟨n, hn, _, hn2⟩ := g5.2.1.nat (by decide) (by decide)
  have e13 : M.1 40 13 = nI n := g5.1.symm.trans hn
  by_cases hr : n + 20 ≤ 400
  · obtain ⟨M1, f1, a1', b1, c1, d1⟩ := p_take a1 hn (by omega)
    obtain ⟨M2, f2, a2', b2, c2, d2⟩ := p_take a2 a1' (by omega)
    obtain ⟨M3, f3, a3', b3, c3, d3⟩ := p_take a3 a2' (by omega)
    obtain ⟨M4, f4, a4', b4, c4, d4⟩ := p_take a4 a3' (by omega)
    obtain ⟨M5, f5, a5', b5, c5, d5⟩ := p_take a5 a4' (by omega)
    have C5 : ∀ k, k ≠ 5 → k ≠ 6 → M5.1 k = M.1 k := fun k h h' => by rw [c5 k h h', c4 k h h', c3 k h h', c2 k h h', c1 k h h']
    have D5 : M5.2 = M.2 := by rw [d5, d4, d3, d2, d1]
    have E5 : (az_i M5 40 0 0).1 40 13 = nI n := (congrFun (C5 40 (by decide) (by decide)) 13).trans e13
    obtain ⟨R1, F1, A1, B1, P1, Q1, S1⟩ := p_four a1 E5 (by omega)
    obtain ⟨R2, F2, A2, B2, P2, Q2, S2⟩ := p_four a2 A1 (by omega)
    obtain ⟨R3, F3, A3, B3, P3, Q3, S3⟩ := p_four a3 A2 (by omega)
    obtain ⟨R4, F4, A4, B4, P4, Q4, S4⟩ := p_four a4 A3 (by omega)
    obtain ⟨R5, F5, A5, B5, P5, Q5, S5⟩ := p_four a5 A4 (by omega)
    have K5 : ∀ k, k ≠ 40 → k ≠ 49 → k ≠ 5 → k ≠ 6 → R5.1 k = M.1 k := fun k h h' h5 h6 => by rw [P5 k h h', P4 k h h', P3 k h h', P2 k h h', P1 k h h', gi_k h, C5 k h5 h6]
    have J5 : ∀ j, j ≠ 13 → j ≠ 0 → R5.1 40 j = M.1 40 j := fun j h h0 => by
      rw [Q5 j h, Q4 j h, Q3 j h, Q2 j h, Q1 j h, gi, if_pos rfl, if_neg h0, C5 40 (by decide) (by decide)]
    have T5 : R5.2 = M.2 := by rw [S5, S4, S3, S2, S1, gi_2, D5]
    have t5 : R5.1 5 1 = nI (n + 4 + 4 + 4 + 4 + 4) := by
      rw [P5 5 (by decide) (by decide), P4 5 (by decide) (by decide), P3 5 (by decide) (by decide), P2 5 (by decide) (by decide), P1 5 (by decide) (by decide), gi_k (by decide)]; exact a5'
    have r6 : R5.1 6 = M5.1 6 := by
      rw [P5 6 (by decide) (by decide), P4 6 (by decide) (by decide), P3 6 (by decide) (by decide), P2 6 (by decide) (by decide), P1 6 (by decide) (by decide), gi_k (by decide)]
    have r49 : R5.1 49 = p_w4 (p_w4 (p_w4 (p_w4 (p_w4 (M.1 49) n a1) (n + 4) a2) (n + 4 + 4) a3) (n + 4 + 4 + 4) a4) (n + 4 + 4 + 4 + 4) a5 := by
      rw [B5, B4, B3, B2, B1, gi_k (by decide), C5 49 (by decide) (by decide)]
    have r6' : M5.1 6 = p_w4 (p_w4 (p_w4 (p_w4 (p_w4 (M.1 6) n a1) (n + 4) a2) (n + 4 + 4) a3) (n + 4 + 4 + 4) a4) (n + 4 + 4 + 4 + 4) a5 := by
      rw [b5, b4, b3, b2, b1]
    refine ⟨nI (n + 4 + 4 + 4 + 4 + 4), M5, R5, ?_, ?_, ?_⟩
    · unfold f_X11_feed f_X9_hasRoomFor f_X9_hasRoomFor_17
      rw [hn]
      simp (disch := omega) only [n_addl, n_addr, n_add, n_mull, n_mulr, n_mul, n_sub, n_subr, n_subl, n_cl, n_lt, n_le, n_eq, n_ltl, n_ltr, n_lel, n_ler, n_eqr, n_eql, n_nm1, n_m1n, n_m1lt, n_ltm1, l_ltr, l_ltl, l_ler, l_lel, l_m1lt, l_nneg, if_true, if_false, or_false, false_or, or_true, true_or, and_true, true_and, and_false, false_and, not_true_eq_false, not_false_eq_true, Option.bind_some, Option.bind_none, reduceIte, ltT, ltF, leT, leF, eqT, eqF, nI_lt0, show ¬ (1 : Int32) = 0 by decide]
      rw [f1, Option.bind_some, f2, Option.bind_some, f3, Option.bind_some, f4, Option.bind_some, f5, Option.bind_some, a5']
    · unfold f_X12_feed
      rw [E5]
      simp (disch := omega) only [n_addl, n_addr, n_add, n_mull, n_mulr, n_mul, n_sub, n_subr, n_subl, n_cl, n_lt, n_le, n_eq, n_ltl, n_ltr, n_lel, n_ler, n_eqr, n_eql, n_nm1, n_m1n, n_m1lt, n_ltm1, l_ltr, l_ltl, l_ler, l_lel, l_m1lt, l_nneg, if_true, if_false, or_false, false_or, or_true, true_or, and_true, true_and, and_false, false_and, not_true_eq_false, not_false_eq_true, Option.bind_some, Option.bind_none, reduceIte, ltT, ltF, leT, leF, eqT, eqF, nI_lt0]
      rw [F1, Option.bind_some, F2, Option.bind_some, F3, Option.bind_some, F4, Option.bind_some, F5, Option.bind_some, A5]
    · refine h.step (by omega) ?_ ?_ ?_ ?_ (fun k hk => K5 k (by omega) (by omega) (by omega) (by omega)) (by rw [T5]) (Or.inr ⟨?_, ?_⟩) ⟨?_, ?_, ?_⟩ ?_ ?_ ?_ ?_ ?_ ?_ ?_ (fun k _ => by rw [T5])
      · rw [K5 2 (by decide) (by decide) (by decide) (by decide), K5 42 (by decide) (by decide) (by decide) (by decide)]; exact g3
      · rw [K5 3 (by decide) (by decide) (by decide) (by decide)]
      · rw [K5 3 (by decide) (by decide) (by decide) (by decide)]
      · intro j _; rw [K5 42 (by decide) (by decide) (by decide) (by decide)]
      · intro j _; rw [K5 34 (by decide) (by decide) (by decide) (by decide)]
      · rw [K5 2 (by decide) (by decide) (by decide) (by decide)]
      · rw [t5, A5]
      · rw [t5, sp_in_nI (by omega)]; omega
      · rw [r6, r6', r49]
        exact w4_tp (w4_tp (w4_tp (w4_tp (w4_tp g5.2.2 _ _) _ _) _ _) _ _) _ _
      · rw [K5 0 (by decide) (by decide) (by decide) (by decide), J5 1 (by decide) (by decide), J5 18 (by decide) (by decide), J5 11 (by decide) (by decide), J5 55 (by decide) (by decide)]; exact g6
      · rw [K5 12 (by decide) (by decide) (by decide) (by decide), K5 41 (by decide) (by decide) (by decide) (by decide)]; exact g7
      · rw [K5 7 (by decide) (by decide) (by decide) (by decide), K5 8 (by decide) (by decide) (by decide) (by decide), K5 9 (by decide) (by decide) (by decide) (by decide), K5 46 (by decide) (by decide) (by decide) (by decide), K5 45 (by decide) (by decide) (by decide) (by decide), J5 8 (by decide) (by decide)]; exact g8
      · exact K5 43 (by decide) (by decide) (by decide) (by decide)
      · exact K5 44 (by decide) (by decide) (by decide) (by decide)
      · rw [K5 28 (by decide) (by decide) (by decide) (by decide), K5 29 (by decide) (by decide) (by decide) (by decide), K5 70 (by decide) (by decide) (by decide) (by decide), J5 58 (by decide) (by decide)]; exact g10
      · rw [J5 20 (by decide) (by decide)]; exact g11.1
  · refine ⟨-1, M, az_i M 40 0 0, ?_, ?_, (h.ke (sp_ke_thrown M 0)).mono⟩
    · unfold f_X11_feed f_X9_hasRoomFor f_X9_hasRoomFor_17
      rw [hn]
      simp (disch := omega) only [n_addl, n_addr, n_add, n_mull, n_mulr, n_mul, n_sub, n_subr, n_subl, n_cl, n_lt, n_le, n_eq, n_ltl, n_ltr, n_lel, n_ler, n_eqr, n_eql, n_nm1, n_m1n, n_m1lt, n_ltm1, l_ltr, l_ltl, l_ler, l_lel, l_m1lt, l_nneg, if_true, if_false, or_false, false_or, or_true, true_or, and_true, true_and, and_false, false_and, not_true_eq_false, not_false_eq_true, Option.bind_some, Option.bind_none, reduceIte, ltT, ltF, leT, leF, eqT, eqF, nI_lt0]
    · unfold f_X12_feed
      rw [show (az_i M 40 0 0).1 40 13 = nI n from e13]
      simp (disch := omega) only [n_addl, n_addr, n_add, n_mull, n_mulr, n_mul, n_sub, n_subr, n_subl, n_cl, n_lt, n_le, n_eq, n_ltl, n_ltr, n_lel, n_ler, n_eqr, n_eql, n_nm1, n_m1n, n_m1lt, n_ltm1, l_ltr, l_ltl, l_ler, l_lel, l_m1lt, l_nneg, if_true, if_false, or_false, false_or, or_true, true_or, and_true, true_and, and_false, false_and, not_true_eq_false, not_false_eq_true, Option.bind_some, Option.bind_none, reduceIte, ltT, ltF, leT, leF, eqT, eqF, nI_lt0]
