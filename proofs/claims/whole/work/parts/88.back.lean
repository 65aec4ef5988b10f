/-! a book copied -/
def qo (M : az_M) (k : Nat) (g : Nat → Option Nat) : az_M := (M.1, M.2.1, fun q => if q = k then g else M.2.2 q)
def uq (g : Nat → Option Nat) (j : Nat) (v : Option Nat) : Nat → Option Nat := fun i => if i = j then v else g i
theorem qo_eq (M : az_M) (k : Nat) (g : Nat → Option Nat) : (qo M k g).2.2 k = g := if_pos rfl
theorem qo_ne {M : az_M} {k q : Nat} {g : Nat → Option Nat} (h : q ≠ k) : (qo M k g).2.2 q = M.2.2 q := if_neg h
theorem qo_qo (M : az_M) (k : Nat) (g h : Nat → Option Nat) : qo (qo M k g) k h = qo M k h := by
  show (M.1, M.2.1, fun q => if q = k then h else (if q = k then g else M.2.2 q)) = _
  unfold qo
  refine congrArg (fun x => (M.1, M.2.1, x)) (funext fun q => ?_)
  by_cases e : q = k
  · rw [if_pos e, if_pos e]
  · rw [if_neg e, if_neg e, if_neg e]
theorem qo_self (M : az_M) (k : Nat) : qo M k (M.2.2 k) = M := by
  unfold qo
  have : (fun q => if q = k then M.2.2 k else M.2.2 q) = M.2.2 := by
    funext q
    by_cases e : q = k
    · rw [if_pos e, e]
    · rw [if_neg e]
  rw [this]
theorem az_q_qo (M : az_M) (k j : Nat) (v : Option Nat) : az_q M k j v = qo M k (uq (M.2.2 k) j v) := by
  unfold az_q qo
  refine congrArg (fun x => (M.1, M.2.1, x)) (funext fun q => ?_)
  by_cases e : q = k
  · rw [if_pos e, if_pos e]; funext i; rfl
  · rw [if_neg e, if_neg e]
theorem p_bcopy {Z : az_S × Nat} {o u : Nat} {M : az_M} (ho : u + 1 ≠ o + 1) (hou : o ≠ u) (ht : ∀ i, i < 6 → az_toko Z (M.2.2 (u + 1) i) = true) : ∃ M', f_X0_copy Z sp_G o u M = some M' ∧ (∀ k, k ≠ o → M'.1 k = M.1 k) ∧ (∀ j, j ≠ 1 → j ≠ 2 → M'.1 o j = M.1 o j) ∧ M'.1 o 1 = M.1 u 1 ∧ M'.1 o 2 = M.1 u 2 ∧ M'.2.1 = M.2.1 ∧ (∀ k, k ≠ o + 1 → M'.2.2 k = M.2.2 k) ∧ (∀ i, i < 6 → M'.2.2 (o + 1) i = M.2.2 (u + 1) i) ∧ ∀ i, 6 ≤ i → M'.2.2 (o + 1) i = M.2.2 (o + 1) i := by
  have st : ∀ (F i : Nat) (g : Nat → Option Nat), i < 6 → f_X0_copy_2 Z sp_G o u (F + 1) (nI i) (qo M (o + 1) g) = f_X0_copy_2 Z sp_G o u F (nI (i + 1)) (qo M (o + 1) (uq g i (M.2.2 (u + 1) i))) := by
    intro F i g hi
    rw [f_X0_copy_2, qo_ne ho]
    simp (disch := omega) only [n_addl, n_addr, n_add, n_mull, n_mulr, n_mul, n_sub, n_subr, n_subl, n_cl, n_lt, n_le, n_eq, n_ltl, n_ltr, n_lel, n_ler, n_eqr, n_eql, n_nm1, n_m1n, n_m1lt, n_ltm1, l_ltr, l_ltl, l_ler, l_lel, l_m1lt, l_nneg, if_true, if_false, or_false, false_or, or_true, true_or, and_true, true_and, and_false, false_and, not_true_eq_false, not_false_eq_true, Option.bind_some, Option.bind_none, reduceIte, ltT, ltF, leT, leF, eqT, eqF, nI_lt0]
    rw [if_pos (ht i hi), az_q_qo, qo_eq, qo_qo]
  have en : ∀ (F : Nat) (g : Nat → Option Nat), f_X0_copy_2 Z sp_G o u (F + 1) (nI 6) (qo M (o + 1) g) = some (az_i (az_i (qo M (o + 1) g) o 1 (M.1 u 1)) o 2 (M.1 u 2)) := by
    intro F g
    rw [f_X0_copy_2, if_pos (by decide), gi_k (Ne.symm hou)]
    rfl
  refine ⟨az_i (az_i (qo M (o + 1) (uq (uq (uq (uq (uq (uq (M.2.2 (o + 1)) 0 (M.2.2 (u + 1) 0)) 1 (M.2.2 (u + 1) 1)) 2 (M.2.2 (u + 1) 2)) 3 (M.2.2 (u + 1) 3)) 4 (M.2.2 (u + 1) 4)) 5 (M.2.2 (u + 1) 5))) o 1 (M.1 u 1)) o 2 (M.1 u 2), ?_, fun k hk => ?_, fun j h1 h2 => ?_, ?_, ?_, rfl, fun k hk => ?_, fun i hi => ?_, fun i hi => ?_⟩
  · show f_X0_copy_2 Z sp_G o u (999993 + 1 + 1 + 1 + 1 + 1 + 1 + 1) (nI 0) M = _
    refine (congrArg (f_X0_copy_2 Z sp_G o u (999993 + 1 + 1 + 1 + 1 + 1 + 1 + 1) (nI 0)) (qo_self M (o + 1)).symm).trans ?_
    rw [st _ 0 _ (by decide), st _ 1 _ (by decide), st _ 2 _ (by decide), st _ 3 _ (by decide), st _ 4 _ (by decide), st _ 5 _ (by decide), en]
  · rw [gi_k hk, gi_k hk]; rfl
  · rw [gi, if_pos rfl, if_neg h2, gi, if_pos rfl, if_neg h1]; rfl
  · rw [gi, if_pos rfl, if_neg (by decide), gi, if_pos rfl, if_pos rfl]
  · rw [gi, if_pos rfl, if_pos rfl]
  · exact qo_ne hk
  · show (qo M (o + 1) _).2.2 (o + 1) i = _
    rw [qo_eq]
    rcases (show i = 0 ∨ i = 1 ∨ i = 2 ∨ i = 3 ∨ i = 4 ∨ i = 5 by omega) with rfl | rfl | rfl | rfl | rfl | rfl <;> rfl
  · show (qo M (o + 1) _).2.2 (o + 1) i = _
    rw [qo_eq]
    show uq (uq (uq (uq (uq (uq (M.2.2 (o + 1)) 0 _) 1 _) 2 _) 3 _) 4 _) 5 _ i = _
    unfold uq
    rw [if_neg (by omega), if_neg (by omega), if_neg (by omega), if_neg (by omega), if_neg (by omega), if_neg (by omega)]
theorem sp_bk.congF {Z : az_S × Nat} {A : Nat → Nat → Int32} {ref ref' : Nat → Option Nat} {cnt inF : Int32} {R : Nat → Int32} {ls : Nat → sp_L} (hF : ∀ i, i < 6 → ref' i = ref i) (h : sp_bk Z A ref cnt inF R ls) : sp_bk Z A ref' cnt inF R ls := by
  obtain ⟨n, h1, h2, h3, h4, h5, h6⟩ := h
  refine ⟨n, h1, h2, h3, h4, h5, fun i hi => ?_⟩
  obtain ⟨t, a, b⟩ := h6 i hi
  exact ⟨t, by rw [hF i (by omega)]; exact a, b⟩
theorem sp_image.congQ {B : Nat} {Z : az_S × Nat} {M M' : az_M} {k : Nat} (hA : ∀ k, 71 ≤ k → M'.1 k = M.1 k) (h43 : M'.1 43 = M.1 43) (h44 : M'.1 44 = M.1 44) (h10 : M'.2.2 10 k = M.2.2 10 k) (h11 : M'.2.2 11 k = M.2.2 11 k) (hq : ∀ k, 71 ≤ k → M'.2.2 k = M.2.2 k) (h : sp_image B Z M k) : sp_image B Z M' k := by
  unfold sp_image at h ⊢
  rw [h43, h44, h10, h11]
  rcases h with h | ⟨h1, t, u, ls, a1, a2, a3, a4, a5, a6, a7, a8, a9⟩
  · exact Or.inl h
  · exact Or.inr ⟨h1, t, u, ls, a1, a2, a3, a4, a5, a6, by rw [hA (t + 1) (by omega)]; exact a7, by rw [hA (t + 1) (by omega)]; exact a8, by rw [hA u a4, hq (u + 1) (by omega)]; exact a9.cong hA⟩
theorem r_backAll {p : Nat} (hp : p < 2) (M : az_M) : f_X12_back_39 sp_G sp_G (nI p) 0 M = some (0, az_i (az_i (ro M 42 (cpy (M.1 43) (M.1 42) (5550 * p) 0 5550)) 40 8 0) 40 1 0) := by
  have e : f_X12_back_39 sp_G sp_G (nI p) (nI 0) M = some (0, az_i (az_i (ro M 42 (cpy (M.1 43) (M.1 42) (5550 * p) 0 5550)) 40 8 0) 40 1 0) := by
    refine (lp_fill (f := fun F i M => f_X12_back_39 sp_G F (nI p) i M) (fin := fun M => some (0, az_i (az_i M 40 8 0) 40 1 0)) (M := M) (k := 42) (d := 0) (n := 5550) (g := fun i => M.1 43 (5550 * p + i)) (F := sp_G) ?_ ?_ (by decide)).trans rfl
    · intro F i h hi hh
      show f_X12_back_39 sp_G (F + 1) (nI p) (nI i) _ = f_X12_back_39 sp_G F (nI p) (nI (i + 1)) _
      rw [f_X12_back_39]
      simp (disch := omega) only [n_addl, n_addr, n_add, n_mull, n_mulr, n_mul, n_sub, n_subr, n_subl, n_cl, n_lt, n_le, n_eq, n_ltl, n_ltr, n_lel, n_ler, n_eqr, n_eql, n_nm1, n_m1n, n_m1lt, n_ltm1, l_ltr, l_ltl, l_ler, l_lel, l_m1lt, l_nneg, if_true, if_false, or_false, false_or, or_true, true_or, and_true, true_and, and_false, false_and, not_true_eq_false, not_false_eq_true, Option.bind_some, Option.bind_none, reduceIte, ltT, ltF, leT, leF, eqT, eqF, nI_lt0, az_i_ro, ro_eq, ro_ro, Nat.zero_add]
      rw [ro_ne (by decide)]
    · intro F h
      show f_X12_back_39 sp_G (F + 1) (nI p) (nI 5550) _ = _
      rw [f_X12_back_39, if_pos (by decide)]
      rfl
  exact e
theorem ob_back : Ob_back az_Inv sp_G := by
  intro m Z M a1 _ h
  rcases r_cases a1 0 1 (by decide) (by decide) with ⟨p, _, hp, rfl⟩ | ⟨hb, hi⟩
  · obtain ⟨g1, g2, g3, ⟨ls, g4, g4b⟩, g5, g6, g7, g8, g9, g10, g11⟩ := h.mono
    have hin : ∀ X, f_X12_in (nI p).toInt64 0 1 X = some 1 := fun X => g_in (Nat.zero_le p) hp (by decide) X
    have im : sp_image (sp_B (m + 1)) Z M p := by
      rcases (show p = 0 ∨ p = 1 by omega) with rfl | rfl
      · exact g9.1
      · exact g9.2.1
    rcases im with ⟨i44, i10, i11⟩ | ⟨i44, t, u, ls', i10, i11, ht, hu, pt, bu, pr, rg, bk⟩
    · refine ⟨-2, p_rc M (-2) 1, _, ?_, ?_, h.refuse (v := -2) (j := 1) (j' := 2) (by simp)⟩
      · unfold f_X11_back f_X11_back_33
        simp (disch := omega) only [n_addl, n_addr, n_add, n_mull, n_mulr, n_mul, n_sub, n_subr, n_subl, n_cl, n_lt, n_le, n_eq, n_ltl, n_ltr, n_lel, n_ler, n_eqr, n_eql, n_nm1, n_m1n, n_m1lt, n_ltm1, l_ltr, l_ltl, l_ler, l_lel, l_m1lt, l_nneg, if_true, if_false, or_false, false_or, or_true, true_or, and_true, true_and, and_false, false_and, not_true_eq_false, not_false_eq_true, Option.bind_some, Option.bind_none, reduceIte, ltT, ltF, leT, leF, eqT, eqF, nI_lt0]
        rw [if_pos i10]; rfl
      · unfold f_X12_back
        rw [hin, Option.bind_some, if_neg (by decide)]
        simp (disch := omega) only [n_addl, n_addr, n_add, n_mull, n_mulr, n_mul, n_sub, n_subr, n_subl, n_cl, n_lt, n_le, n_eq, n_ltl, n_ltr, n_lel, n_ler, n_eqr, n_eql, n_nm1, n_m1n, n_m1lt, n_ltm1, l_ltr, l_ltl, l_ler, l_lel, l_m1lt, l_nneg, if_true, if_false, or_false, false_or, or_true, true_or, and_true, true_and, and_false, false_and, not_true_eq_false, not_false_eq_true, Option.bind_some, Option.bind_none, reduceIte, ltT, ltF, leT, leF, eqT, eqF, nI_lt0]
        rw [show (az_i (p_rc M (-2) 1) 40 0 0).1 44 p = 0 from i44, if_pos rfl, p_tell2]; rfl
    · generalize hM1 : ro M 2 (cpy (M.1 (t + 1)) (M.1 2) 0 0 145) = M1
      have M1K : ∀ k, k ≠ 2 → M1.1 k = M.1 k := fun k hk => by rw [← hM1, ro_ne hk]
      have M12 : M1.2 = M.2 := by rw [← hM1]; rfl
      obtain ⟨M2, c1, c2, c3, c4, c5, c6, c7, c8, c9⟩ := p_bcopy (Z := Z) (o := 3) (u := u) (M := M1) (by omega) (by omega) (fun i hi => by rw [M12]; exact g1.2.2 p u (by omega) i11 i hi)
      generalize hC : az_i (az_i (az_i M2 7 3 0) 0 12 0) 34 13 0 = C
      have CK : ∀ k, k ≠ 0 → k ≠ 2 → k ≠ 3 → k ≠ 7 → k ≠ 34 → C.1 k = M.1 k := fun k a b c d e => by
        rw [← hC, gi_k e, gi_k a, gi_k d, c2 k c, M1K k b]
      have C2 : C.2 = M2.2 := by rw [← hC]; rfl
      generalize hE : az_i (az_i (ro (az_i C 40 0 0) 42 (cpy ((az_i C 40 0 0).1 43) ((az_i C 40 0 0).1 42) (5550 * p) 0 5550)) 40 8 0) 40 1 0 = E
      have EK : ∀ k, k ≠ 40 → k ≠ 42 → E.1 k = C.1 k := fun k a b => by rw [← hE, gi_k a, gi_k a, ro_ne b, gi_k a]
      have EJ : ∀ j, j ≠ 0 → j ≠ 1 → j ≠ 8 → E.1 40 j = M.1 40 j := fun j a b c => by
        rw [← hE, gi, if_pos rfl, if_neg b, gi, if_pos rfl, if_neg c, ro_ne (by decide), gi, if_pos rfl, if_neg a, CK 40 (by decide) (by decide) (by decide) (by decide) (by decide)]
      have E42 : E.1 42 = cpy (M.1 43) (M.1 42) (5550 * p) 0 5550 := by
        rw [← hE, gi_k (by decide), gi_k (by decide), ro_eq, gi_k (by decide), gi_k (by decide), CK 43 (by decide) (by decide) (by decide) (by decide) (by decide), CK 42 (by decide) (by decide) (by decide) (by decide) (by decide)]
      have R' : ∀ j, j < 5550 → E.1 42 j = M.1 43 (5550 * p + j) := fun j hj => by rw [E42, cpy_in (by omega), Nat.sub_zero]
      have E2 : E.1 2 = cpy (M.1 (t + 1)) (M.1 2) 0 0 145 := by
        rw [EK 2 (by decide) (by decide), ← hC, gi_k (by decide), gi_k (by decide), gi_k (by decide), c2 2 (by decide), ← hM1, ro_eq]
      have Eq2 : E.2 = M2.2 := by rw [← hE]; exact C2
      have EA : ∀ k, 71 ≤ k → E.1 k = M.1 k := fun k hk => by rw [EK k (by omega) (by omega), CK k (by omega) (by omega) (by omega) (by omega) (by omega)]
      have E3 : ∀ j, E.1 3 j = M2.1 3 j := fun j => by rw [EK 3 (by decide) (by decide), ← hC, gi_k (by decide), gi_k (by decide), gi_k (by decide)]
      have q4 : ∀ k, k ≠ 4 → E.2.2 k = M.2.2 k := fun k hk => by rw [Eq2, c7 k hk, M12]
      have q4i : ∀ i, i < 6 → E.2.2 4 i = M.2.2 (u + 1) i := fun i hi => by rw [Eq2, c8 i hi, M12]
      have shp := bu
      unfold az_bok at shp
      simp only [Bool.and_eq_true, decide_eq_true_eq] at shp
      refine ⟨0, C, E, ?_, ?_, ⟨⟨g1.1, ⟨fun i hi => ?_, fun k v hk hv i hi => ?_⟩⟩, ⟨g2.1, fun k hk h16 j t' he => ?_⟩, ⟨?_, ?_⟩, ⟨ls', ?_, Or.inl ?_⟩, ?_, ?_, ?_, ?_, ⟨?_, ?_, ?_, ?_⟩, ?_, ?_⟩⟩
      · unfold f_X11_back
        simp (disch := omega) only [n_addl, n_addr, n_add, n_mull, n_mulr, n_mul, n_sub, n_subr, n_subl, n_cl, n_lt, n_le, n_eq, n_ltl, n_ltr, n_lel, n_ler, n_eqr, n_eql, n_nm1, n_m1n, n_m1lt, n_ltm1, l_ltr, l_ltl, l_ler, l_lel, l_m1lt, l_nneg, if_true, if_false, or_false, false_or, or_true, true_or, and_true, true_and, and_false, false_and, not_true_eq_false, not_false_eq_true, Option.bind_some, Option.bind_none, reduceIte, ltT, ltF, leT, leF, eqT, eqF, nI_lt0]
        rw [if_neg (by rw [i10]; simp), if_neg (by rw [i11]; simp), i10, Option.bind_some, if_pos pt, p_copy, Option.bind_some]
        show (((ro M 2 (cpy (M.1 (t + 1)) (M.1 2) 0 0 145)).2.2 11 p).bind _) = _
        rw [hM1, M12, i11, Option.bind_some, if_pos bu, c1, Option.bind_some, p_settleAnew, hC]
        rfl
      · unfold f_X12_back
        rw [hin, Option.bind_some, if_neg (by decide)]
        simp (disch := omega) only [n_addl, n_addr, n_add, n_mull, n_mulr, n_mul, n_sub, n_subr, n_subl, n_cl, n_lt, n_le, n_eq, n_ltl, n_ltr, n_lel, n_ler, n_eqr, n_eql, n_nm1, n_m1n, n_m1lt, n_ltm1, l_ltr, l_ltl, l_ler, l_lel, l_m1lt, l_nneg, if_true, if_false, or_false, false_or, or_true, true_or, and_true, true_and, and_false, false_and, not_true_eq_false, not_false_eq_true, Option.bind_some, Option.bind_none, reduceIte, ltT, ltF, leT, leF, eqT, eqF, nI_lt0]
        rw [if_neg (by rw [gi_k (by decide), CK 44 (by decide) (by decide) (by decide) (by decide) (by decide), i44]; decide), r_backAll (by omega), hE]
      · rw [q4i i hi]; exact g1.2.2 p u (by omega) i11 i hi
      · rw [q4 11 (by decide)] at hv
        have hv71 : 71 ≤ v := by
          have im' : sp_image (sp_B (m + 1)) Z M k := by
            rcases (show k = 0 ∨ k = 1 by omega) with rfl | rfl
            · exact g9.1
            · exact g9.2.1
          rcases im' with ⟨_, _, j11⟩ | ⟨_, t', u', _, _, j11, _, hu', _⟩
          · rw [j11] at hv; cases hv
          · rw [j11] at hv; injection hv with hv; omega
        rw [q4 (v + 1) (by omega)]; exact g1.2.2 k v hk hv i hi
      · by_cases h4 : k = 4
        · subst h4
          by_cases hj : j < 6
          · rw [q4i j hj] at he; exact g2.2 (u + 1) (by omega) (by omega) j t' he
          · rw [Eq2, c9 j (by omega), M12] at he; exact g2.2 4 hk h16 j t' he
        · rw [q4 k h4] at he; exact g2.2 k hk h16 j t' he
      · rw [E2]; exact sp_pr.congN cpy_same rg.q7 (pr.congR (fun j hj => R' j (by omega)) rg.q7)
      · rw [E2]; exact rg.congN cpy_same
      · rw [E3 1, E3 2, c4, c5, M1K u (by omega)]
        exact ((bk.cong EA).congF q4i).congR (fun j hj => R' j (by omega))
      · rw [EK 34 (by decide) (by decide), ← hC]; rfl
      · rw [EK 5 (by decide) (by decide), EK 6 (by decide) (by decide), EK 49 (by decide) (by decide), CK 5 (by decide) (by decide) (by decide) (by decide) (by decide), CK 6 (by decide) (by decide) (by decide) (by decide) (by decide), CK 49 (by decide) (by decide) (by decide) (by decide) (by decide), EJ 13 (by decide) (by decide) (by decide)]; exact g5
      · rw [EK 0 (by decide) (by decide), EJ 18 (by decide) (by decide) (by decide), EJ 11 (by decide) (by decide) (by decide), EJ 55 (by decide) (by decide) (by decide)]
        have z : ∀ j, j ≠ 12 → C.1 0 j = M.1 0 j := fun j hj => by
          rw [← hC, gi_k (by decide), gi, if_pos rfl, if_neg hj, gi_k (by decide), c2 0 (by decide), M1K 0 (by decide)]
        refine ⟨?_, by rw [z 13 (by decide)]; exact g6.2.1, by rw [z 14 (by decide)]; exact g6.2.2.1, by rw [z 15 (by decide)]; exact g6.2.2.2⟩
        rw [← hC, ← hE]; rfl
      · rw [EK 12 (by decide) (by decide), EK 41 (by decide) (by decide), CK 12 (by decide) (by decide) (by decide) (by decide) (by decide), CK 41 (by decide) (by decide) (by decide) (by decide) (by decide)]; exact g7
      · rw [EK 7 (by decide) (by decide)]
        have e73 : C.1 7 3 = 0 := by rw [← hC]; rfl
        have e72 : C.1 7 2 = M.1 7 2 := by rw [← hC, gi_k (by decide), gi_k (by decide), gi, if_pos rfl, if_neg (by decide), c2 7 (by decide), M1K 7 (by decide)]
        have e8 : E.1 40 8 = 0 := by rw [← hE]; rfl
        rw [e73, e72, e8]; exact sp_past.none g8.el
      · exact g9.1.congQ EA (by rw [EK 43 (by decide) (by decide), CK 43 (by decide) (by decide) (by decide) (by decide) (by decide)]) (by rw [EK 44 (by decide) (by decide), CK 44 (by decide) (by decide) (by decide) (by decide) (by decide)]) (by rw [q4 10 (by decide)]) (by rw [q4 11 (by decide)]) (fun k hk => q4 k (by omega))
      · exact g9.2.1.congQ EA (by rw [EK 43 (by decide) (by decide), CK 43 (by decide) (by decide) (by decide) (by decide) (by decide)]) (by rw [EK 44 (by decide) (by decide), CK 44 (by decide) (by decide) (by decide) (by decide) (by decide)]) (by rw [q4 10 (by decide)]) (by rw [q4 11 (by decide)]) (fun k hk => q4 k (by omega))
      · rw [q4 10 (by decide)]; exact g9.2.2.1
      · rw [q4 11 (by decide)]; exact g9.2.2.2
      · rw [EK 28 (by decide) (by decide), EK 29 (by decide) (by decide), EK 70 (by decide) (by decide), CK 28 (by decide) (by decide) (by decide) (by decide) (by decide), CK 29 (by decide) (by decide) (by decide) (by decide) (by decide), CK 70 (by decide) (by decide) (by decide) (by decide) (by decide), EJ 58 (by decide) (by decide) (by decide)]; exact g10
      · rw [EJ 20 (by decide) (by decide) (by decide), Eq2, c6, M12]; exact g11
  · refine t_refuse h (j := 0) (j' := 1) (v := -1) (by simp) ?_ (fun M => ?_)
    · unfold f_X11_back f_X11_back_9
      by_cases h1 : a1 < 0
      · rw [if_pos h1]; rfl
      · rw [if_neg h1, if_neg]
        · rfl
        · have := hb.resolve_left h1
          rw [Int32.lt_iff_toInt_lt] at this ⊢
          have e : (nI 1).toInt = 1 := rfl
          have e2 : (2 : Int32).toInt = 2 := rfl
          omega
    · unfold f_X12_back
      rw [show f_X12_in a1.toInt64 0 1 _ = some 0 from hi _]
      rfl
