/-! loops that fill a row -/
theorem lp_fill {β : Type} {f : Nat → Int32 → az_M → Option β} {fin : az_M → Option β} {M : az_M} {k d n : Nat} {g : Nat → Int32}
    (hs : ∀ F i h, i < n → (∀ j, d + i ≤ j → h j = M.1 k j) → f (F + 1) (nI i) (ro M k h) = f F (nI (i + 1)) (ro M k (up h (d + i) (g i))))
    (hf : ∀ F h, f (F + 1) (nI n) (ro M k h) = fin (ro M k h)) {F : Nat} (hF : n < F) :
    f F (nI 0) M = fin (ro M k (fun j => if d ≤ j ∧ j < d + n then g (j - d) else M.1 k j)) := by
  have K : ∀ (e i : Nat) (h : Nat → Int32) (F : Nat), i + e = n → (∀ j, d + i ≤ j → h j = M.1 k j) → e < F → f F (nI i) (ro M k h) = fin (ro M k (fun j => if d + i ≤ j ∧ j < d + n then g (j - d) else h j)) := by
    intro e
    induction e with
    | zero =>
      intro i h F hi _ hF
      obtain ⟨F, rfl⟩ : ∃ F', F = F' + 1 := ⟨F - 1, by omega⟩
      obtain rfl : i = n := by omega
      rw [hf]
      exact congrArg (fun x => fin (ro M k x)) (funext fun j => by rw [if_neg (by omega)])
    | succ e ih =>
      intro i h F hi hh hF
      obtain ⟨F, rfl⟩ : ∃ F', F = F' + 1 := ⟨F - 1, by omega⟩
      rw [hs F i h (by omega) hh, ih (i + 1) _ F (by omega) (fun j hj => by rw [up_ne (by omega)]; exact hh j (by omega)) (by omega)]
      refine congrArg (fun x => fin (ro M k x)) (funext fun j => ?_)
      by_cases e1 : j = d + i
      · subst e1; rw [if_neg (by omega), up_eq, if_pos (by omega), Nat.add_sub_cancel_left]
      · rw [up_ne e1]
        by_cases e2 : d + (i + 1) ≤ j ∧ j < d + n
        · rw [if_pos e2, if_pos (by omega)]
        · rw [if_neg e2, if_neg (by omega)]
  have := K n 0 (M.1 k) F (by omega) (fun _ _ => rfl) hF
  rwa [ro_self] at this
def cpy (s t : Nat → Int32) (sp dp n : Nat) : Nat → Int32 := fun j => if dp ≤ j ∧ j < dp + n then s (sp + (j - dp)) else t j
theorem cpy_in {s t : Nat → Int32} {sp dp n j : Nat} (h : dp ≤ j ∧ j < dp + n) : cpy s t sp dp n j = s (sp + (j - dp)) := if_pos h
theorem cpy_out {s t : Nat → Int32} {sp dp n j : Nat} (h : j < dp ∨ dp + n ≤ j) : cpy s t sp dp n j = t j := if_neg (by omega)
theorem p_keepAll {q : Nat} (hq : q ≤ 20) (M : az_M) : f_X12_keepAll sp_G (nI q) M = some (ro M 45 (cpy (M.1 42) (M.1 45) 0 (150 * q) 150)) := by
  refine (lp_fill (f := fun F i M => f_X12_keepAll_2 sp_G F (nI q) i M) (fin := fun M => some M) (M := M) (k := 45) (d := 150 * q) (n := 150) (g := fun i => M.1 42 (0 + i)) (F := sp_G) ?_ ?_ (by decide)).trans rfl
  · intro F i h hi hh
    show f_X12_keepAll_2 sp_G (F + 1) (nI q) (nI i) _ = f_X12_keepAll_2 sp_G F (nI q) (nI (i + 1)) _
    rw [f_X12_keepAll_2]
    simp (disch := omega) only [n_addl, n_addr, n_add, n_mull, n_mulr, n_mul, n_sub, n_subr, n_subl, n_cl, n_lt, n_le, n_eq, n_ltl, n_ltr, n_lel, n_ler, n_eqr, n_eql, n_nm1, n_m1n, n_m1lt, n_ltm1, l_ltr, l_ltl, l_ler, l_lel, l_m1lt, l_nneg, if_true, if_false, or_false, false_or, or_true, true_or, and_true, true_and, and_false, false_and, not_true_eq_false, not_false_eq_true, Option.bind_some, Option.bind_none, reduceIte, ltT, ltF, leT, leF, eqT, eqF, nI_lt0, az_i_ro, ro_eq, ro_ro]
    rw [ro_ne (by decide), Nat.zero_add]
  · intro F h
    show f_X12_keepAll_2 sp_G (F + 1) (nI q) (nI 150) _ = _
    rw [f_X12_keepAll_2]
    simp (disch := omega) only [n_addl, n_addr, n_add, n_mull, n_mulr, n_mul, n_sub, n_subr, n_subl, n_cl, n_lt, n_le, n_eq, n_ltl, n_ltr, n_lel, n_ler, n_eqr, n_eql, n_nm1, n_m1n, n_m1lt, n_ltm1, l_ltr, l_ltl, l_ler, l_lel, l_m1lt, l_nneg, if_true, if_false, or_false, false_or, or_true, true_or, and_true, true_and, and_false, false_and, not_true_eq_false, not_false_eq_true, Option.bind_some, Option.bind_none, reduceIte, ltT, ltF, leT, leF, eqT, eqF, nI_lt0]
def r_back (R U : Nat → Int32) (q : Nat) : Nat → Int32 := fun j => if j < 150 ∧ j ≠ 4 ∧ j ≠ 5 then U (150 * q + j) else R j
theorem p_putBack {q : Nat} (hq : q ≤ 20) (M : az_M) : f_X12_putBack sp_G (nI q) M = some (ro M 42 (r_back (M.1 42) (M.1 45) q)) := by
  refine (lp_fill (f := fun F i M => f_X12_putBack_2 sp_G F (nI q) i M) (fin := fun M => some M) (M := M) (k := 42) (d := 0) (n := 150) (g := fun i => if i = 4 ∨ i = 5 then M.1 42 i else M.1 45 (150 * q + i)) (F := sp_G) ?_ ?_ (by decide)).trans ?_
  · intro F i h hi hh
    show f_X12_putBack_2 sp_G (F + 1) (nI q) (nI i) _ = f_X12_putBack_2 sp_G F (nI q) (nI (i + 1)) _
    rw [f_X12_putBack_2]
    unfold f_X12_putBack_24 f_X12_putBack_45
    by_cases h4 : i = 4
    · subst h4
      simp (disch := omega) only [n_addl, n_addr, n_add, n_mull, n_mulr, n_mul, n_sub, n_subr, n_subl, n_cl, n_lt, n_le, n_eq, n_ltl, n_ltr, n_lel, n_ler, n_eqr, n_eql, n_nm1, n_m1n, n_m1lt, n_ltm1, l_ltr, l_ltl, l_ler, l_lel, l_m1lt, l_nneg, if_true, if_false, or_false, false_or, or_true, true_or, and_true, true_and, and_false, false_and, not_true_eq_false, not_false_eq_true, Option.bind_some, Option.bind_none, reduceIte, ltT, ltF, leT, leF, eqT, eqF, nI_lt0, az_i_ro, ro_eq, ro_ro, Nat.zero_add, hh 4 (by omega)]
    · by_cases h5 : i = 5
      · subst h5
        simp (disch := omega) only [n_addl, n_addr, n_add, n_mull, n_mulr, n_mul, n_sub, n_subr, n_subl, n_cl, n_lt, n_le, n_eq, n_ltl, n_ltr, n_lel, n_ler, n_eqr, n_eql, n_nm1, n_m1n, n_m1lt, n_ltm1, l_ltr, l_ltl, l_ler, l_lel, l_m1lt, l_nneg, if_true, if_false, or_false, false_or, or_true, true_or, and_true, true_and, and_false, false_and, not_true_eq_false, not_false_eq_true, Option.bind_some, Option.bind_none, reduceIte, ltT, ltF, leT, leF, eqT, eqF, nI_lt0, az_i_ro, ro_eq, ro_ro, Nat.zero_add, hh 5 (by omega)]
      · simp (disch := omega) only [n_addl, n_addr, n_add, n_mull, n_mulr, n_mul, n_sub, n_subr, n_subl, n_cl, n_lt, n_le, n_eq, n_ltl, n_ltr, n_lel, n_ler, n_eqr, n_eql, n_nm1, n_m1n, n_m1lt, n_ltm1, l_ltr, l_ltl, l_ler, l_lel, l_m1lt, l_nneg, if_true, if_false, or_false, false_or, or_true, true_or, and_true, true_and, and_false, false_and, not_true_eq_false, not_false_eq_true, Option.bind_some, Option.bind_none, reduceIte, ltT, ltF, leT, leF, eqT, eqF, nI_lt0, az_i_ro, ro_eq, ro_ro, Nat.zero_add, h4, h5]
        rw [ro_ne (by decide)]
  · intro F h
    show f_X12_putBack_2 sp_G (F + 1) (nI q) (nI 150) _ = _
    rw [f_X12_putBack_2]
    simp (disch := omega) only [n_addl, n_addr, n_add, n_mull, n_mulr, n_mul, n_sub, n_subr, n_subl, n_cl, n_lt, n_le, n_eq, n_ltl, n_ltr, n_lel, n_ler, n_eqr, n_eql, n_nm1, n_m1n, n_m1lt, n_ltm1, l_ltr, l_ltl, l_ler, l_lel, l_m1lt, l_nneg, if_true, if_false, or_false, false_or, or_true, true_or, and_true, true_and, and_false, false_and, not_true_eq_false, not_false_eq_true, Option.bind_some, Option.bind_none, reduceIte, ltT, ltF, leT, leF, eqT, eqF, nI_lt0]
  · refine congrArg (fun x => some (ro M 42 x)) (funext fun j => ?_)
    show (if 0 ≤ j ∧ j < 0 + 150 then (if j - 0 = 4 ∨ j - 0 = 5 then M.1 42 (j - 0) else M.1 45 (150 * q + (j - 0))) else M.1 42 j) = (if j < 150 ∧ j ≠ 4 ∧ j ≠ 5 then M.1 45 (150 * q + j) else M.1 42 j)
    rw [Nat.sub_zero]
    by_cases h1 : j < 150
    · rw [if_pos (show 0 ≤ j ∧ j < 0 + 150 by omega)]
      by_cases h2 : j = 4 ∨ j = 5
      · rw [if_pos h2, if_neg (show ¬ (j < 150 ∧ j ≠ 4 ∧ j ≠ 5) by omega)]
      · rw [if_neg h2, if_pos (show j < 150 ∧ j ≠ 4 ∧ j ≠ 5 by omega)]
    · rw [if_neg (show ¬ (0 ≤ j ∧ j < 0 + 150) by omega), if_neg (show ¬ (j < 150 ∧ j ≠ 4 ∧ j ≠ 5) by omega)]
/-- the memory after a state is kept: the reference's -/
def r_keep (M : az_M) (c : Nat) (v : Int32) : az_M := ro (ro (ro M 45 (cpy (M.1 42) (M.1 45) 0 (150 * c) 150)) 46 (up (M.1 46) c v)) 40 (up (M.1 40) 8 (nI (c + 1)))
theorem p_remember78 {c : Nat} {M : az_M} (hc : M.1 40 8 = nI c) (h : c < 16) (v : Int32) : f_X12_remember_78 sp_G v M = some (r_keep M c v) := by
  unfold f_X12_remember_78
  rw [hc, p_keepAll (by omega), Option.bind_some]
  have e : (ro M 45 (cpy (M.1 42) (M.1 45) 0 (150 * c) 150)).1 40 8 = nI c := hc
  rw [e]
  simp (disch := omega) only [n_addl, n_addr, n_add, n_mull, n_mulr, n_mul, n_sub, n_subr, n_subl, n_cl, n_lt, n_le, n_eq, n_ltl, n_ltr, n_lel, n_ler, n_eqr, n_eql, n_nm1, n_m1n, n_m1lt, n_ltm1, l_ltr, l_ltl, l_ler, l_lel, l_m1lt, l_nneg, if_true, if_false, or_false, false_or, or_true, true_or, and_true, true_and, and_false, false_and, not_true_eq_false, not_false_eq_true, Option.bind_some, Option.bind_none, reduceIte, ltT, ltF, leT, leF, eqT, eqF, nI_lt0, az_i_ro]
  unfold r_keep
  have e2 : (ro (ro M 45 (cpy (M.1 42) (M.1 45) 0 (150 * c) 150)) 46 (up ((ro M 45 (cpy (M.1 42) (M.1 45) 0 (150 * c) 150)).1 46) c v)).1 40 = M.1 40 := rfl
  rw [e2, hc, n_addr]; rfl
theorem p_remember {c : Nat} {M : az_M} (hc : M.1 40 8 = nI c) (h : c < 16) (v : Int32) : f_X12_remember sp_G v M = some (r_keep M c v) := by
  unfold f_X12_remember
  rw [hc]
  simp (disch := omega) only [n_addl, n_addr, n_add, n_mull, n_mulr, n_mul, n_sub, n_subr, n_subl, n_cl, n_lt, n_le, n_eq, n_ltl, n_ltr, n_lel, n_ler, n_eqr, n_eql, n_nm1, n_m1n, n_m1lt, n_ltm1, l_ltr, l_ltl, l_ler, l_lel, l_m1lt, l_nneg, if_true, if_false, or_false, false_or, or_true, true_or, and_true, true_and, and_false, false_and, not_true_eq_false, not_false_eq_true, Option.bind_some, Option.bind_none, reduceIte, ltT, ltF, leT, leF, eqT, eqF, nI_lt0]
  exact p_remember78 hc h v
def r_shift (M : az_M) : az_M := ro (ro (ro M 45 (cpy (M.1 45) (M.1 45) 150 0 2250)) 46 (cpy (M.1 46) (M.1 46) 1 0 15)) 40 (up (M.1 40) 8 (nI 15))
theorem p_rememberFull {M : az_M} (hc : M.1 40 8 = nI 16) (v : Int32) : f_X12_remember sp_G v M = some (r_keep (r_shift M) 15 v) := by
  unfold f_X12_remember
  rw [hc, if_pos (show nI 16 = 16 from rfl)]
  have e1 : f_X12_remember_11 sp_G sp_G v (nI 0) M = f_X12_remember_42 sp_G sp_G v 0 (ro M 45 (cpy (M.1 45) (M.1 45) 150 0 2250)) := by
    refine (lp_fill (f := fun F i M => f_X12_remember_11 sp_G F v i M) (fin := fun M => f_X12_remember_42 sp_G sp_G v 0 M) (M := M) (k := 45) (d := 0) (n := 2250) (g := fun i => M.1 45 (150 + i)) (F := sp_G) ?_ ?_ (by decide)).trans rfl
    · intro F i h hi hh
      show f_X12_remember_11 sp_G (F + 1) v (nI i) _ = f_X12_remember_11 sp_G F v (nI (i + 1)) _
      rw [f_X12_remember_11]
      simp (disch := omega) only [n_addl, n_addr, n_add, n_mull, n_mulr, n_mul, n_sub, n_subr, n_subl, n_cl, n_lt, n_le, n_eq, n_ltl, n_ltr, n_lel, n_ler, n_eqr, n_eql, n_nm1, n_m1n, n_m1lt, n_ltm1, l_ltr, l_ltl, l_ler, l_lel, l_m1lt, l_nneg, if_true, if_false, or_false, false_or, or_true, true_or, and_true, true_and, and_false, false_and, not_true_eq_false, not_false_eq_true, Option.bind_some, Option.bind_none, reduceIte, ltT, ltF, leT, leF, eqT, eqF, nI_lt0, az_i_ro, ro_eq, ro_ro, Nat.zero_add]
      rw [hh _ (by omega), Nat.add_comm i 150]
    · intro F h
      show f_X12_remember_11 sp_G (F + 1) v (nI 2250) _ = _
      rw [f_X12_remember_11]
      simp (disch := omega) only [n_addl, n_addr, n_add, n_mull, n_mulr, n_mul, n_sub, n_subr, n_subl, n_cl, n_lt, n_le, n_eq, n_ltl, n_ltr, n_lel, n_ler, n_eqr, n_eql, n_nm1, n_m1n, n_m1lt, n_ltm1, l_ltr, l_ltl, l_ler, l_lel, l_m1lt, l_nneg, if_true, if_false, or_false, false_or, or_true, true_or, and_true, true_and, and_false, false_and, not_true_eq_false, not_false_eq_true, Option.bind_some, Option.bind_none, reduceIte, ltT, ltF, leT, leF, eqT, eqF, nI_lt0]
  have e2 : ∀ M : az_M, M.1 40 8 = nI 16 → f_X12_remember_42 sp_G sp_G v (nI 0) M = f_X12_remember_78 sp_G v (ro (ro M 46 (cpy (M.1 46) (M.1 46) 1 0 15)) 40 (up (M.1 40) 8 (nI 15))) := by
    intro M hc
    refine (lp_fill (f := fun F i M => f_X12_remember_42 sp_G F v i M) (fin := fun M => f_X12_remember_78 sp_G v (az_i M 40 8 (M.1 40 8 - 1))) (M := M) (k := 46) (d := 0) (n := 15) (g := fun i => M.1 46 (1 + i)) (F := sp_G) ?_ ?_ (by decide)).trans ?_
    · intro F i h hi hh
      show f_X12_remember_42 sp_G (F + 1) v (nI i) _ = f_X12_remember_42 sp_G F v (nI (i + 1)) _
      rw [f_X12_remember_42]
      simp (disch := omega) only [n_addl, n_addr, n_add, n_mull, n_mulr, n_mul, n_sub, n_subr, n_subl, n_cl, n_lt, n_le, n_eq, n_ltl, n_ltr, n_lel, n_ler, n_eqr, n_eql, n_nm1, n_m1n, n_m1lt, n_ltm1, l_ltr, l_ltl, l_ler, l_lel, l_m1lt, l_nneg, if_true, if_false, or_false, false_or, or_true, true_or, and_true, true_and, and_false, false_and, not_true_eq_false, not_false_eq_true, Option.bind_some, Option.bind_none, reduceIte, ltT, ltF, leT, leF, eqT, eqF, nI_lt0, az_i_ro, ro_eq, ro_ro, Nat.zero_add]
      rw [hh _ (by omega), Nat.add_comm i 1]
    · intro F h
      show f_X12_remember_42 sp_G (F + 1) v (nI 15) _ = _
      rw [f_X12_remember_42]
      simp (disch := omega) only [n_addl, n_addr, n_add, n_mull, n_mulr, n_mul, n_sub, n_subr, n_subl, n_cl, n_lt, n_le, n_eq, n_ltl, n_ltr, n_lel, n_ler, n_eqr, n_eql, n_nm1, n_m1n, n_m1lt, n_ltm1, l_ltr, l_ltl, l_ler, l_lel, l_m1lt, l_nneg, if_true, if_false, or_false, false_or, or_true, true_or, and_true, true_and, and_false, false_and, not_true_eq_false, not_false_eq_true, Option.bind_some, Option.bind_none, reduceIte, ltT, ltF, leT, leF, eqT, eqF, nI_lt0]
    · refine congrArg (f_X12_remember_78 sp_G v) ?_
      rw [az_i_ro]
      show ro (ro M 46 (cpy (M.1 46) (M.1 46) 1 0 15)) 40 (up (M.1 40) 8 (M.1 40 8 - 1)) = _
      rw [hc]; rfl
  have h0 : nI 0 = 0 := rfl
  rw [h0] at e1 e2
  have hc' : (ro M 45 (cpy (M.1 45) (M.1 45) 150 0 2250)).1 40 8 = nI 16 := hc
  rw [e1, e2 _ hc']
  exact p_remember78 (M := r_shift M) rfl (by decide) v
