/-- a new person: class, reference -/
def sp_prs (N : Nat → Int32) (n : Nat) (a b : Int32) : Nat → Int32 := up (up (up (up N (63 + n) a) (73 + n) b) (83 + n) 0) 24 (nI (n + 1))
def r_prs (R : Nat → Int32) (n : Nat) (a b : Int32) : Nat → Int32 := up (up (up (up R (65 + 3 * n) a) (65 + 3 * n + 1) b) (65 + 3 * n + 2) 0) 1 (nI (n + 1))
theorem p_addPerson {o n : Nat} {M : az_M} (hN : M.1 (o + 1) 24 = nI n) (hn : n < 10) (a b : Int32) : f_X4_addPerson o a b M = some (nI n, ro M (o + 1) (sp_prs (M.1 (o + 1)) n a b)) := by
  unfold f_X4_addPerson sp_prs
  rw [hN]
  simp (disch := omega) only [n_addl, n_addr, n_add, n_mull, n_mulr, n_mul, n_sub, n_subr, n_subl, n_cl, n_lt, n_le, n_eq, n_ltl, n_ltr, n_lel, n_ler, n_eqr, n_eql, n_nm1, n_m1n, n_m1lt, n_ltm1, l_ltr, l_ltl, l_ler, l_lel, l_m1lt, l_nneg, if_true, if_false, or_false, false_or, or_true, true_or, and_true, true_and, and_false, false_and, not_true_eq_false, not_false_eq_true, Option.bind_some, Option.bind_none, reduceIte, ltT, ltF, leT, leF, eqT, eqF, nI_lt0, az_i_ro, ro_eq, ro_ro]
theorem sp_prs_pr {N R : Nat → Int32} (h : sp_pr N R) (hq : (N 25).toNatClampNeg ≤ 7) {n : Nat} (hn : n < 10) (a b : Int32) : sp_pr (sp_prs N n a b) (r_prs R n a b) := by
  unfold sp_prs r_prs
  have e : ∀ k v (f : Nat → Int32), k ≠ 25 → up f k v 25 = f 25 := fun k v f hk => up_ne (Ne.symm hk)
  refine sp_pr.upd (sp_pr.upd (sp_pr.upd (sp_pr.upd h hq (by omega) ?_ (by omega) _) ?_ (by omega) ?_ (by omega) _) ?_ (by omega) ?_ (by omega) _) ?_ (by omega) rfl (by omega) _
  · rw [tr_63 hn]
  · rw [e _ _ _ (by omega)]; exact hq
  · rw [tr_73 hn]; omega
  · rw [e _ _ _ (by omega), e _ _ _ (by omega)]; exact hq
  · rw [tr_83 hn]; omega
  · rw [e _ _ _ (by omega), e _ _ _ (by omega), e _ _ _ (by omega)]; exact hq
theorem sp_prs_rg {B : Nat} {N : Nat → Int32} (h : sp_rg B N) {n : Nat} (hN : N 24 = nI n) (hn : n < 10) {a b : Nat} (ha : a ≤ 10) (hb : b ≤ 1) : sp_rg B (sp_prs N n (nI a) (nI b)) := by
  unfold sp_prs
  have lo : ∀ j, j ≠ 17 ∧ j ≠ 18 ∧ j ≠ 19 → sp_lo j = 0 := fun j hj => by unfold sp_lo; rw [if_neg (by omega)]
  refine sp_rg.cnt24 (sp_rg.upd (sp_rg.upd (sp_rg.upd h (by omega) (fun _ => ?_)) (by omega) (fun _ => ?_)) (by omega) (fun _ => ?_)) ?_ hn
  · rw [sp_in_nI (by omega), lo _ (by omega), show sp_hi B (63 + n) = 10 by unfold sp_hi; simp (disch := omega) only [if_true, if_false, or_false, false_or, or_true, true_or, and_true, true_and, and_false, false_and, not_true_eq_false, not_false_eq_true, Option.bind_some, Option.bind_none, reduceIte, ltT, ltF, leT, leF, eqT, eqF]]; omega
  · rw [sp_in_nI (by omega), lo _ (by omega), show sp_hi B (73 + n) = 1 by unfold sp_hi; simp (disch := omega) only [if_true, if_false, or_false, false_or, or_true, true_or, and_true, true_and, and_false, false_and, not_true_eq_false, not_false_eq_true, Option.bind_some, Option.bind_none, reduceIte, ltT, ltF, leT, leF, eqT, eqF]]; omega
  · show sp_in (nI 0) _ _
    rw [sp_in_nI (by omega), lo _ (by omega), show sp_hi B (83 + n) = 1006 by unfold sp_hi; simp (disch := omega) only [if_true, if_false, or_false, false_or, or_true, true_or, and_true, true_and, and_false, false_and, not_true_eq_false, not_false_eq_true, Option.bind_some, Option.bind_none, reduceIte, ltT, ltF, leT, leF, eqT, eqF]]; omega
  · rw [up_ne (by omega), up_ne (by omega), up_ne (by omega)]; exact hN
theorem p_settled0 {n : Nat} (hn : n < 2147483648) (M : az_M) : f_X12_settled (nI n) M = some (nI n, az_i (az_i M 40 8 0) 40 1 0) := by
  unfold f_X12_settled f_X12_settled_13
  rw [if_pos (nI_pos' (by omega)), p_tell (nI_pos' (by omega))]; rfl
theorem ob_person : Ob_person az_Inv sp_G := by
  intro m Z M a1 a2 _ h
  obtain ⟨hp, hg⟩ := h.2.2.1
  obtain ⟨n, hn, _, hn2⟩ := hg.2.2.2.1.2.1.nat (by decide) (by decide)
  have h42 : M.1 42 1 = nI n := hp.2.2.2.1.2.1.symm.trans hn
  have bad : ((a1 < 0 ∨ 10 < a1) ∨ (a2 < 0 ∨ 1 < a2)) → (∀ M, f_X12_person a1 a2 M = some (-1, p_rf (az_i M 40 0 0) (-1) 1)) → ∃ (r : Int32) (M1 M2 : az_M), f_X11_person a1 a2 M = some (r, M1) ∧ f_X12_person a1 a2 M1 = some (r, M2) ∧ az_Inv (m + 1) Z M2 := by
    intro hb h2
    refine t_refuse h (j := 0) (j' := 1) (v := -1) (by simp) ?_ h2
    unfold f_X11_person
    by_cases h1 : a1 < 0 ∨ 10 < a1
    · rw [i_bad' h1]; rfl
    · have hh := hb.resolve_left h1
      rw [i_bad hh]
      split
      · rfl
      · split <;> rfl
  rcases r_cases a1 0 10 (by decide) (by decide) with ⟨x, _, hx, rfl⟩ | ⟨hb, hi⟩
  · rcases r_cases a2 0 1 (by decide) (by decide) with ⟨y, _, hy, rfl⟩ | ⟨hb, hi⟩
    · by_cases hf : n < 10
      · refine ⟨nI n, az_i (az_i (az_i (ro M 2 (sp_prs (M.1 2) n (nI x) (nI y))) 7 3 0) 0 12 0) 34 13 0, az_i (az_i (ro (az_i (az_i (az_i (az_i (ro M 2 (sp_prs (M.1 2) n (nI x) (nI y))) 7 3 0) 0 12 0) 34 13 0) 40 0 0) 42 (r_prs (M.1 42) n (nI x) (nI y))) 40 8 0) 40 1 0, ?_, ?_, ?_⟩
        · unfold f_X11_person
          rw [p_addPerson (o := 1) hn hf, hn]
          simp (disch := omega) only [n_addl, n_addr, n_add, n_mull, n_mulr, n_mul, n_sub, n_subr, n_subl, n_cl, n_lt, n_le, n_eq, n_ltl, n_ltr, n_lel, n_ler, n_eqr, n_eql, n_nm1, n_m1n, n_m1lt, n_ltm1, l_ltr, l_ltl, l_ler, l_lel, l_m1lt, l_nneg, if_true, if_false, or_false, false_or, or_true, true_or, and_true, true_and, and_false, false_and, not_true_eq_false, not_false_eq_true, Option.bind_some, Option.bind_none, reduceIte, ltT, ltF, leT, leF, eqT, eqF, nI_lt0]; rfl
        · unfold f_X12_person
          rw [g_in (lo := 0) (hi := 10) (Nat.zero_le _) hx (by decide), g_in (lo := 0) (hi := 1) (Nat.zero_le _) hy (by decide)]
          rw [show (az_i (az_i (az_i (az_i (ro M 2 (sp_prs (M.1 2) n (nI x) (nI y))) 7 3 0) 0 12 0) 34 13 0) 40 0 0).1 42 1 = nI n from h42]
          simp (disch := omega) only [n_addl, n_addr, n_add, n_mull, n_mulr, n_mul, n_sub, n_subr, n_subl, n_cl, n_lt, n_le, n_eq, n_ltl, n_ltr, n_lel, n_ler, n_eqr, n_eql, n_nm1, n_m1n, n_m1lt, n_ltm1, l_ltr, l_ltl, l_ler, l_lel, l_m1lt, l_nneg, if_true, if_false, or_false, false_or, or_true, true_or, and_true, true_and, and_false, false_and, not_true_eq_false, not_false_eq_true, Option.bind_some, Option.bind_none, reduceIte, ltT, ltF, leT, leF, eqT, eqF, nI_lt0, show ¬ (1 : Int32) = 0 by decide, p_settled0]
          rw [show ∀ a b c M v, ((az_i (az_i (az_i M 42 (65 + 3 * n) a) 42 (65 + 3 * n + 1) b) 42 (65 + 3 * n + 2) c).1 42 1 + v : Int32) = M.1 42 1 + v from fun a b c M v => by rw [gi, gi, gi]; simp (disch := omega) only [if_true, if_false, or_false, false_or, or_true, true_or, and_true, true_and, and_false, false_and, not_true_eq_false, not_false_eq_true, Option.bind_some, Option.bind_none, reduceIte, ltT, ltF, leT, leF, eqT, eqF]]
          rw [show (az_i (az_i (az_i (az_i (ro M 2 (sp_prs (M.1 2) n (nI x) (nI y))) 7 3 0) 0 12 0) 34 13 0) 40 0 0).1 42 1 = nI n from h42, n_addr]
          simp only [az_i_ro, ro_eq, ro_ro]
          rfl
        · refine h.anew ?_ ?_ ?_ ⟨rfl, rfl, rfl, rfl, rfl, rfl, rfl, rfl⟩ ⟨rfl, rfl, rfl, rfl⟩ ⟨rfl, rfl⟩ rfl (fun q hq => ?_) rfl
          · exact sp_prs_pr hp hg.q7 hf _ _
          · exact sp_prs_rg (hg.mono (sp_B_mono m)) hn hf hx hy
          · intro j hj
            show r_prs (M.1 42) n (nI x) (nI y) j = _
            unfold r_prs
            rw [up_ne (by omega), up_ne (by omega), up_ne (by omega), up_ne (by omega)]
          · rw [gi_k (by omega), gi_k (by omega), ro_ne (by omega), gi_k (by omega), gi_k (by omega), gi_k (by omega), gi_k (by omega), ro_ne (by omega)]
      · have h12 : n = 10 := by omega
        subst h12
        refine ⟨-5, p_rc M (-5) 3, _, ?_, ?_, h.refuse (v := -5) (j := 3) (j' := 5) (by simp)⟩
        · unfold f_X11_person
          rw [hn]
          simp (disch := omega) only [n_addl, n_addr, n_add, n_mull, n_mulr, n_mul, n_sub, n_subr, n_subl, n_cl, n_lt, n_le, n_eq, n_ltl, n_ltr, n_lel, n_ler, n_eqr, n_eql, n_nm1, n_m1n, n_m1lt, n_ltm1, l_ltr, l_ltl, l_ler, l_lel, l_m1lt, l_nneg, if_true, if_false, or_false, false_or, or_true, true_or, and_true, true_and, and_false, false_and, not_true_eq_false, not_false_eq_true, Option.bind_some, Option.bind_none, reduceIte, ltT, ltF, leT, leF, eqT, eqF, nI_lt0]; rfl
        · unfold f_X12_person
          rw [g_in (lo := 0) (hi := 10) (Nat.zero_le _) hx (by decide), g_in (lo := 0) (hi := 1) (Nat.zero_le _) hy (by decide)]
          rw [show (az_i (p_rc M (-5) 3) 40 0 0).1 42 1 = nI 10 from h42]; rfl
    · refine bad (Or.inr hb) (fun M => ?_)
      unfold f_X12_person
      rw [g_in (lo := 0) (hi := 10) (Nat.zero_le _) hx (by decide), hi]; rfl
  · exact bad (Or.inl hb) (fun M => (congrArg (fun x => Option.bind x _) (hi _)).trans rfl)
