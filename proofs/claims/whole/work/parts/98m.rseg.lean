/-! WHAT CODE MEANS: the reference -/
def rCode (o : Nat) (M : az_M) (k : Nat) (op ar : Int32) : Prop := (o = 0 ∧ ∃ b, M.1 40 34 = nI b ∧ b + 900 ≤ 5550 ∧ M.1 42 (b + 98 + 2 * k) = op ∧ M.1 42 (b + 98 + 2 * k + 1) = ar) ∨ (o = 1 ∧ M.1 51 k = op ∧ M.1 52 k = ar)
def rEnv (o : Nat) (e : sp_E) (M : az_M) : Prop := (o = 0 ∧ ∀ j, j < 11 → M.2.1 58 (j + 1) = (e j).toInt64) ∨ (o = 1 ∧ (∀ j, j < 6 → M.2.1 59 (j + 1) = (e j).toInt64) ∧ (∃ n, M.1 42 1 = nI n ∧ n ≤ 10 ∧ ∀ p, p < 10 → e (6 + p) = if p < n then M.1 42 (67 + 3 * p) else -1) ∧ ∃ n, M.1 42 0 = nI n ∧ n ≤ 12 ∧ ∀ p, p < 12 → e (16 + p) = if p < n then M.1 42 (20 + 4 * p) else -1)
/-- a word of the class's, as the reference writes it -/
def rWord (o w : Nat) : Nat × Nat := if o = 0 ∨ w < 6 then (w + 1, 0) else if w < 16 then (7, w - 6) else (8, w - 16)
def rfr (M M' : az_M) : Prop := (∀ k, k ≠ 40 → M'.1 k = M.1 k) ∧ (∀ j, j ≠ 38 → M'.1 40 j = M.1 40 j) ∧ (∀ k, k ≠ 60 → M'.2.1 k = M.2.1 k) ∧ M'.2.2 = M.2.2
theorem rfr.refl (M : az_M) : rfr M M := ⟨fun _ _ => rfl, fun _ _ => rfl, fun _ _ => rfl, rfl⟩
theorem rfr.trans {M M' M'' : az_M} (h : rfr M M') (g : rfr M' M'') : rfr M M'' := ⟨fun k a => (g.1 k a).trans (h.1 k a), fun j a => (g.2.1 j a).trans (h.2.1 j a), fun k a => (g.2.2.1 k a).trans (h.2.2.1 k a), g.2.2.2.trans h.2.2.2⟩
theorem rfr_l (M : az_M) (j : Nat) (v : Int64) : rfr M (az_l M 60 j v) := ⟨fun _ _ => rfl, fun _ _ => rfl, fun k h => gl_k h, rfl⟩
theorem rfr_i (M : az_M) (v : Int32) : rfr M (az_i M 40 38 v) := ⟨fun k h => gi_k h, fun j h => by rw [gi, if_pos rfl, if_neg h], fun _ _ => rfl, rfl⟩
theorem rCode.fr {o k : Nat} {M M' : az_M} {op ar : Int32} (h : rCode o M k op ar) (f : rfr M M') : rCode o M' k op ar := by
  unfold rCode; rw [f.1 42 (by decide), f.1 51 (by decide), f.1 52 (by decide), f.2.1 34 (by decide)]; exact h
theorem rEnv.fr {o : Nat} {e : sp_E} {M M' : az_M} (h : rEnv o e M) (f : rfr M M') : rEnv o e M' := by
  unfold rEnv; rw [f.1 42 (by decide), f.2.2.1 58 (by decide), f.2.2.1 59 (by decide)]; exact h
def rSeg (o : Nat) (Op Ar : Nat → Int32) (a b k : Nat) (φ : sp_E → Option Int32) : Prop := a < b ∧ 1 ≤ k ∧ ∀ (e : sp_E) (g h F : Nat) (M : az_M), b ≤ g → g ≤ 400 → M.1 40 20 = nI o → (∀ j, a ≤ j → j < b → rCode o M j (Op j) (Ar j)) → rEnv o e M → h + k ≤ 60 → M.1 40 38 = 0 → g < F + a →
  ∃ F' M', g < F' + b ∧ rfr M M' ∧ (∀ j, j < h → M'.2.1 60 j = M.2.1 60 j) ∧ (φ e = none → ∃ x, f_X12_reckonAll_10 sp_G F (nI g) (nI h) (nI a) M = f_X12_reckonAll_360 sp_G x M' ∧ M'.1 40 38 = 1) ∧ ∀ v, φ e = some v → f_X12_reckonAll_10 sp_G F (nI g) (nI h) (nI a) M = f_X12_reckonAll_10 sp_G F' (nI g) (nI (h + 1)) (nI b) M' ∧ M'.1 40 38 = 0 ∧ M'.2.1 60 h = v.toInt64
theorem rSeg.cong {o : Nat} {Op Ar Op' Ar' : Nat → Int32} {a b k : Nat} {φ : sp_E → Option Int32} (h : rSeg o Op Ar a b k φ) (hC : ∀ j, a ≤ j → j < b → Op' j = Op j ∧ Ar' j = Ar j) : rSeg o Op' Ar' a b k φ :=
  ⟨h.1, h.2.1, fun e g hh F M h1 h2 h3 h4 h5 h6 h7 h8 => h.2.2 e g hh F M h1 h2 h3 (fun j x y => by rw [← (hC j x y).1, ← (hC j x y).2]; exact h4 j x y) h5 h6 h7 h8⟩
theorem r_fetch {o g h k F : Nat} {M : az_M} {op ar : Int32} (ho : o ≤ 1) (hk : k < g) (hg : g ≤ 400) (h20 : M.1 40 20 = nI o) (h38 : M.1 40 38 = 0) (hc : rCode o M k op ar) : f_X12_reckonAll_10 sp_G (F + 1) (nI g) (nI h) (nI k) M = f_X12_reckonAll_95 sp_G (f_X12_reckonAll_10 sp_G F) (nI g) (nI h) (nI k) op ar M := by
  rw [f_X12_reckonAll_10, if_neg (by rw [n_le (by omega) (by omega)]; omega), if_pos h38, h20]
  unfold f_X12_reckonAll_57
  rw [h20]
  rcases hc with ⟨rfl, b, h34, hb, h1, h2⟩ | ⟨rfl, h1, h2⟩
  · rw [if_pos (show nI 0 = 0 from rfl), h34]
    simp (disch := omega) only [n_addl, n_addr, n_add, n_mull, n_mulr, n_mul, n_sub, n_subr, n_subl, n_cl, n_lt, n_le, n_eq, n_ltl, n_ltr, n_lel, n_ler, n_eqr, n_eql, n_nm1, n_m1n, n_m1lt, n_ltm1, l_ltr, l_ltl, l_ler, l_lel, l_m1lt, l_nneg, if_true, if_false, or_false, false_or, or_true, true_or, and_true, true_and, and_false, false_and, not_true_eq_false, not_false_eq_true, Option.bind_some, Option.bind_none, reduceIte, ltT, ltF, leT, leF, eqT, eqF, nI_lt0]
    rw [h1, h2]
  · rw [if_neg (by decide)]
    simp (disch := omega) only [n_addl, n_addr, n_add, n_mull, n_mulr, n_mul, n_sub, n_subr, n_subl, n_cl, n_lt, n_le, n_eq, n_ltl, n_ltr, n_lel, n_ler, n_eqr, n_eql, n_nm1, n_m1n, n_m1lt, n_ltm1, l_ltr, l_ltl, l_ler, l_lel, l_m1lt, l_nneg, if_true, if_false, or_false, false_or, or_true, true_or, and_true, true_and, and_false, false_and, not_true_eq_false, not_false_eq_true, Option.bind_some, Option.bind_none, reduceIte, ltT, ltF, leT, leF, eqT, eqF, nI_lt0]
    rw [h1, h2]
theorem l_rt {q : Int64} (h1 : ¬ 1000000000 < q) (h2 : (-1000000000) ≤ q) : q.toInt32.toInt64 = q := by
  rw [Int64.lt_iff_toInt_lt] at h1
  rw [Int64.le_iff_toInt_le] at h2
  have e1 : (1000000000 : Int64).toInt = 1000000000 := rfl
  have e2 : (-1000000000 : Int64).toInt = -1000000000 := rfl
  rw [← Int64.toInt_inj, Int32.toInt_toInt64, Int64.toInt_toInt32]
  exact Int.bmod_eq_of_le (by omega) (by omega)
theorem r_leaf {o g h k F w s : Nat} {M : az_M} {e : sp_E} {op ar : Int32} (ho : o ≤ 1) (hh : h < 400) (hk : k < 400) (h20 : M.1 40 20 = nI o) (he : rEnv o e M) (hs : (s = 0 ∧ op = 0 ∧ ar = nI w ∧ w ≤ 100000) ∨ (s = 1 ∧ op = nI (rWord o w).1 ∧ ar = nI (rWord o w).2 ∧ w < (if o = 0 then 11 else 28))) : f_X12_reckonAll_95 sp_G (f_X12_reckonAll_10 sp_G F) (nI g) (nI h) (nI k) op ar M = f_X12_reckonAll_10 sp_G F (nI g) (nI (h + 1)) (nI (k + 1)) (az_l M 60 h (if s = 0 then nI w else e w).toInt64) := by
  unfold f_X12_reckonAll_95 f_X12_reckonAll_184 f_X12_reckonAll_211 f_X12_reckonAll_357
  rcases hs with ⟨rfl, rfl, rfl, hw⟩ | ⟨rfl, rfl, rfl, hw⟩
  · rw [if_neg (by decide), if_pos rfl]
    simp (disch := omega) only [n_addl, n_addr, n_add, n_mull, n_mulr, n_mul, n_sub, n_subr, n_subl, n_cl, n_lt, n_le, n_eq, n_ltl, n_ltr, n_lel, n_ler, n_eqr, n_eql, n_nm1, n_m1n, n_m1lt, n_ltm1, l_ltr, l_ltl, l_ler, l_lel, l_m1lt, l_nneg, if_true, if_false, or_false, false_or, or_true, true_or, and_true, true_and, and_false, false_and, not_true_eq_false, not_false_eq_true, Option.bind_some, Option.bind_none, reduceIte, ltT, ltF, leT, leF, eqT, eqF, nI_lt0]
  · rw [h20, if_neg (show ¬ ((1 : Nat) = 0) by decide)]
    rcases he with ⟨rfl, he⟩ | ⟨rfl, he, ⟨n, hn, hn10, hp⟩, n', hn', hn12, hp'⟩
    · rw [if_pos rfl] at hw
      have er : rWord 0 w = (w + 1, 0) := by unfold rWord; rw [if_pos (Or.inl rfl)]
      rw [er]
      simp (disch := omega) only [n_addl, n_addr, n_add, n_mull, n_mulr, n_mul, n_sub, n_subr, n_subl, n_cl, n_lt, n_le, n_eq, n_ltl, n_ltr, n_lel, n_ler, n_eqr, n_eql, n_nm1, n_m1n, n_m1lt, n_ltm1, l_ltr, l_ltl, l_ler, l_lel, l_m1lt, l_nneg, if_true, if_false, or_false, false_or, or_true, true_or, and_true, true_and, and_false, false_and, not_true_eq_false, not_false_eq_true, Option.bind_some, Option.bind_none, reduceIte, ltT, ltF, leT, leF, eqT, eqF, nI_lt0]
      rw [he w hw]
    · rw [if_neg (by decide)] at hw
      by_cases h6 : w < 6
      · have er : rWord 1 w = (w + 1, 0) := by unfold rWord; rw [if_pos (Or.inr h6)]
        rw [er]
        simp (disch := omega) only [n_addl, n_addr, n_add, n_mull, n_mulr, n_mul, n_sub, n_subr, n_subl, n_cl, n_lt, n_le, n_eq, n_ltl, n_ltr, n_lel, n_ler, n_eqr, n_eql, n_nm1, n_m1n, n_m1lt, n_ltm1, l_ltr, l_ltl, l_ler, l_lel, l_m1lt, l_nneg, if_true, if_false, or_false, false_or, or_true, true_or, and_true, true_and, and_false, false_and, not_true_eq_false, not_false_eq_true, Option.bind_some, Option.bind_none, reduceIte, ltT, ltF, leT, leF, eqT, eqF, nI_lt0]
        rw [he w h6]
      · by_cases h16 : w < 16
        · have er : rWord 1 w = (7, w - 6) := by unfold rWord; rw [if_neg (by omega), if_pos h16]
          rw [er]
          have hev := hp (w - 6) (by omega)
          rw [show 6 + (w - 6) = w by omega] at hev
          by_cases hpn : w - 6 < n
          · rw [if_pos hpn] at hev
            rw [p_isPerson1 hn (by omega) hpn, show f_X12_ofPerson (nI (w - 6)) 2 M = some (M.1 42 (67 + 3 * (w - 6))) from (p_ofPerson (w := 2) (by omega) (by decide) M).trans (by rw [show 65 + 3 * (w - 6) + 2 = 67 + 3 * (w - 6) by omega]), hev]
            simp (disch := omega) only [n_addl, n_addr, n_add, n_mull, n_mulr, n_mul, n_sub, n_subr, n_subl, n_cl, n_lt, n_le, n_eq, n_ltl, n_ltr, n_lel, n_ler, n_eqr, n_eql, n_nm1, n_m1n, n_m1lt, n_ltm1, l_ltr, l_ltl, l_ler, l_lel, l_m1lt, l_nneg, if_true, if_false, or_false, false_or, or_true, true_or, and_true, true_and, and_false, false_and, not_true_eq_false, not_false_eq_true, Option.bind_some, Option.bind_none, reduceIte, ltT, ltF, leT, leF, eqT, eqF, nI_lt0]
            rfl
          · rw [if_neg hpn] at hev
            rw [p_isPerson0 (M := M) (p := nI (w - 6)) (Or.inr (by rw [hn, l_m1lt (by omega) (by omega)]; omega)), hev]
            simp (disch := omega) only [n_addl, n_addr, n_add, n_mull, n_mulr, n_mul, n_sub, n_subr, n_subl, n_cl, n_lt, n_le, n_eq, n_ltl, n_ltr, n_lel, n_ler, n_eqr, n_eql, n_nm1, n_m1n, n_m1lt, n_ltm1, l_ltr, l_ltl, l_ler, l_lel, l_m1lt, l_nneg, if_true, if_false, or_false, false_or, or_true, true_or, and_true, true_and, and_false, false_and, not_true_eq_false, not_false_eq_true, Option.bind_some, Option.bind_none, reduceIte, ltT, ltF, leT, leF, eqT, eqF, nI_lt0]
            try rfl
        · have er : rWord 1 w = (8, w - 16) := by unfold rWord; rw [if_neg (by omega), if_neg h16]
          rw [er]
          have hev := hp' (w - 16) (by omega)
          rw [show 16 + (w - 16) = w by omega] at hev
          by_cases hpn : w - 16 < n'
          · rw [if_pos hpn] at hev
            rw [p_isPlace1 hn' (by omega) hpn, show f_X12_ofPlace (nI (w - 16)) 3 M = some (M.1 42 (20 + 4 * (w - 16))) from (p_ofPlace (w := 3) (by omega) (by decide) M).trans (by rw [show 17 + 4 * (w - 16) + 3 = 20 + 4 * (w - 16) by omega]), hev]
            simp (disch := omega) only [n_addl, n_addr, n_add, n_mull, n_mulr, n_mul, n_sub, n_subr, n_subl, n_cl, n_lt, n_le, n_eq, n_ltl, n_ltr, n_lel, n_ler, n_eqr, n_eql, n_nm1, n_m1n, n_m1lt, n_ltm1, l_ltr, l_ltl, l_ler, l_lel, l_m1lt, l_nneg, if_true, if_false, or_false, false_or, or_true, true_or, and_true, true_and, and_false, false_and, not_true_eq_false, not_false_eq_true, Option.bind_some, Option.bind_none, reduceIte, ltT, ltF, leT, leF, eqT, eqF, nI_lt0]
            rfl
          · rw [if_neg hpn] at hev
            rw [p_isPlace0 (M := M) (p := nI (w - 16)) (Or.inr (by rw [hn', l_m1lt (by omega) (by omega)]; omega)), hev]
            simp (disch := omega) only [n_addl, n_addr, n_add, n_mull, n_mulr, n_mul, n_sub, n_subr, n_subl, n_cl, n_lt, n_le, n_eq, n_ltl, n_ltr, n_lel, n_ler, n_eqr, n_eql, n_nm1, n_m1n, n_m1lt, n_ltm1, l_ltr, l_ltl, l_ler, l_lel, l_m1lt, l_nneg, if_true, if_false, or_false, false_or, or_true, true_or, and_true, true_and, and_false, false_and, not_true_eq_false, not_false_eq_true, Option.bind_some, Option.bind_none, reduceIte, ltT, ltF, leT, leF, eqT, eqF, nI_lt0]
            rfl

theorem r_tail {g h k F : Nat} {M : az_M} {q : Int64} (hh : h < 390) (h38 : M.1 40 38 = 0) :
    ∃ M', (if ((nI (h + 2) + (-1)) - 1) < 0 ∨ 400 ≤ ((nI (h + 2) + (-1)) - 1).toNatClampNeg then none else (if ((az_l M 60 (((nI (h + 2) + (-1)) - 1).toNatClampNeg) q).1 40 38) = 0 then (if ((nI (h + 2) + (-1)) - 1) < 0 ∨ 400 ≤ ((nI (h + 2) + (-1)) - 1).toNatClampNeg then none else ((f_X12_in ((az_l M 60 (((nI (h + 2) + (-1)) - 1).toNatClampNeg) q).2.1 60 (((nI (h + 2) + (-1)) - 1).toNatClampNeg)) (-1000000000) 1000000000 (az_l M 60 (((nI (h + 2) + (-1)) - 1).toNatClampNeg) q)).bind fun q23 => (if q23 = 0 then f_X12_reckonAll_284 sp_G (f_X12_reckonAll_10 sp_G F) (nI g) (nI (h + 2) + (-1)) (nI k + 1) (az_l M 60 (((nI (h + 2) + (-1)) - 1).toNatClampNeg) q) else f_X12_reckonAll_289 sp_G (f_X12_reckonAll_10 sp_G F) (nI g) (nI (h + 2) + (-1)) (nI k + 1) 0 (az_l M 60 (((nI (h + 2) + (-1)) - 1).toNatClampNeg) q)))) else f_X12_reckonAll_284 sp_G (f_X12_reckonAll_10 sp_G F) (nI g) (nI (h + 2) + (-1)) (nI k + 1) (az_l M 60 (((nI (h + 2) + (-1)) - 1).toNatClampNeg) q))) = f_X12_reckonAll_10 sp_G F (nI g) (nI (h + 1)) (nI (k + 1)) M' ∧ rfr M M' ∧ (∀ j, j < h → M'.2.1 60 j = M.2.1 60 j) ∧ ((1000000000 < q ∨ ¬ (-1000000000) ≤ q) → M'.1 40 38 = 1) ∧ ((¬ 1000000000 < q ∧ (-1000000000) ≤ q) → M'.1 40 38 = 0 ∧ M'.2.1 60 h = q) := by
  have em : nI (h + 2) + (-1) = nI (h + 1) := by rw [show h + 2 = h + 1 + 1 from rfl, nI_succ, Int32.add_assoc]; show nI (h + 1) + 0 = _; rw [Int32.add_zero]
  rw [em, nI_pred, n_cl (by omega), if_neg (nIn (by omega) (by omega)), show (az_l M 60 h q).1 40 38 = 0 from h38, if_pos rfl, if_neg (nIn (by omega) (by omega)), gl_j, if_pos rfl, p_in, Option.bind_some, show nI k + 1 = nI (k + 1) from (nI_succ k).symm]
  unfold f_X12_reckonAll_284 f_X12_reckonAll_289 f_X12_reckonAll_357
  have b60 : ∀ (v : Int32) (j : Nat), j < h → (az_i (az_l M 60 h q) 40 38 v).2.1 60 j = M.2.1 60 j := fun v j hj => by show (az_l M 60 h q).2.1 60 j = _; rw [gl_j, if_neg (by omega)]
  have fr : ∀ v, rfr M (az_i (az_l M 60 h q) 40 38 v) := fun v => (rfr_l M h q).trans (rfr_i _ v)
  have e1 : ∀ v, (az_i (az_l M 60 h q) 40 38 v).1 40 38 = v := fun v => by rw [gi, if_pos rfl, if_pos rfl]
  have e2 : ∀ v, (az_i (az_l M 60 h q) 40 38 v).2.1 60 h = q := fun v => by show (az_l M 60 h q).2.1 60 h = _; rw [gl_j, if_pos rfl]
  by_cases c1 : q < -1000000000
  · have c1' : ¬ (-1000000000) ≤ q := by rw [Int64.lt_iff_toInt_lt] at c1; rw [Int64.le_iff_toInt_le]; omega
    rw [if_pos c1, if_pos rfl, if_pos (Or.inr rfl)]
    exact ⟨_, rfl, fr 1, b60 1, fun _ => e1 1, fun e => absurd e.2 c1'⟩
  · have c1' : (-1000000000) ≤ q := by rw [Int64.lt_iff_toInt_lt] at c1; rw [Int64.le_iff_toInt_le]; omega
    rw [if_neg c1]
    by_cases c2 : 1000000000 < q
    · rw [if_pos c2, if_pos rfl, if_pos (Or.inr rfl)]
      exact ⟨_, rfl, fr 1, b60 1, fun _ => e1 1, fun e => absurd c2 e.1⟩
    · rw [if_neg c2, if_neg (by decide), if_pos (Or.inl rfl)]
      exact ⟨_, rfl, fr 0, b60 0, fun e => absurd c1' (e.resolve_left c2), fun _ => ⟨e1 0, e2 0⟩⟩
theorem r_bin {g h k F o : Nat} {M : az_M} {ar x y : Int32} (hh : h < 390) (ho : 2 ≤ o ∧ o ≤ 9) (h38 : M.1 40 38 = 0) (hx : M.2.1 60 h = x.toInt64) (hy : M.2.1 60 (h + 1) = y.toInt64) :
    ∃ M', f_X12_reckonAll_95 sp_G (f_X12_reckonAll_10 sp_G F) (nI g) (nI (h + 2)) (nI k) (nI (o + 18)) ar M = f_X12_reckonAll_10 sp_G F (nI g) (nI (h + 1)) (nI (k + 1)) M' ∧ rfr M M' ∧ (∀ j, j < h → M'.2.1 60 j = M.2.1 60 j) ∧ (jn o x y = none → M'.1 40 38 = 1) ∧ ∀ v, jn o x y = some v → M'.1 40 38 = 0 ∧ M'.2.1 60 h = v.toInt64 := by
  have em : nI (h + 2) + (-1) = nI (h + 1) := by rw [show h + 2 = h + 1 + 1 from rfl, nI_succ, Int32.add_assoc]; show nI (h + 1) + 0 = _; rw [Int32.add_zero]
  have i1 : (nI (h + 2) + (-1)).toNatClampNeg = h + 1 := by rw [em, n_cl (by omega)]
  have i2 : (nI (h + 2) + (-1) - 1).toNatClampNeg = h := by rw [em, nI_pred, n_cl (by omega)]
  have j1 : ¬ (nI (h + 2) + (-1) < 0 ∨ 400 ≤ (nI (h + 2) + (-1)).toNatClampNeg) := by rw [em]; exact nI_in (by omega) (by decide)
  have j2 : ¬ (nI (h + 2) + (-1) - 1 < 0 ∨ 400 ≤ (nI (h + 2) + (-1) - 1).toNatClampNeg) := by rw [em, nI_pred]; exact nI_in (by omega) (by decide)
  unfold f_X12_reckonAll_95
  rw [if_pos (by rw [show (20 : Int32) = nI 20 from rfl, n_le (by omega) (by omega)]; omega), if_neg (by rw [show (28 : Int32) = nI 28 from rfl, n_le (by omega) (by omega)]; omega), if_neg j2, if_neg j1, show M.2.1 60 (nI (h + 2) + (-1) - 1).toNatClampNeg = x.toInt64 by rw [i2]; exact hx, show M.2.1 60 (nI (h + 2) + (-1)).toNatClampNeg = y.toInt64 by rw [i1]; exact hy]
  -- a value that isn't broken
  have good : ∀ (q : Int64) (M0 : az_M), rfr M M0 → M0.2.1 60 = M.2.1 60 → M0.1 40 38 = 0 → f_X6_join (nI o) x.toInt64 y.toInt64 m_0 = some q → f_X12_reckon (nI (o + 18)) x.toInt64 y.toInt64 M = some (q, M0) → ∃ M', ((f_X12_reckon (nI (o + 18)) x.toInt64 y.toInt64 M).bind fun q18 => (if ((nI (h + 2) + (-1)) - 1) < 0 ∨ 400 ≤ ((nI (h + 2) + (-1)) - 1).toNatClampNeg then none else (if ((az_l q18.2 60 (((nI (h + 2) + (-1)) - 1).toNatClampNeg) q18.1).1 40 38) = 0 then (if ((nI (h + 2) + (-1)) - 1) < 0 ∨ 400 ≤ ((nI (h + 2) + (-1)) - 1).toNatClampNeg then none else ((f_X12_in ((az_l q18.2 60 (((nI (h + 2) + (-1)) - 1).toNatClampNeg) q18.1).2.1 60 (((nI (h + 2) + (-1)) - 1).toNatClampNeg)) (-1000000000) 1000000000 (az_l q18.2 60 (((nI (h + 2) + (-1)) - 1).toNatClampNeg) q18.1)).bind fun q23 => (if q23 = 0 then f_X12_reckonAll_284 sp_G (f_X12_reckonAll_10 sp_G F) (nI g) (nI (h + 2) + (-1)) (nI k + 1) (az_l q18.2 60 (((nI (h + 2) + (-1)) - 1).toNatClampNeg) q18.1) else f_X12_reckonAll_289 sp_G (f_X12_reckonAll_10 sp_G F) (nI g) (nI (h + 2) + (-1)) (nI k + 1) 0 (az_l q18.2 60 (((nI (h + 2) + (-1)) - 1).toNatClampNeg) q18.1)))) else f_X12_reckonAll_284 sp_G (f_X12_reckonAll_10 sp_G F) (nI g) (nI (h + 2) + (-1)) (nI k + 1) (az_l q18.2 60 (((nI (h + 2) + (-1)) - 1).toNatClampNeg) q18.1)))) = f_X12_reckonAll_10 sp_G F (nI g) (nI (h + 1)) (nI (k + 1)) M' ∧ rfr M M' ∧ (∀ j, j < h → M'.2.1 60 j = M.2.1 60 j) ∧ (jn o x y = none → M'.1 40 38 = 1) ∧ ∀ v, jn o x y = some v → M'.1 40 38 = 0 ∧ M'.2.1 60 h = v.toInt64 := by
    intro q M0 f0 f60 m38 hj hr
    rw [hr, Option.bind_some]
    obtain ⟨M', a1, a2, a3, a4, a5⟩ := r_tail (g := g) (k := k) (F := F) (q := q) hh m38
    refine ⟨M', a1, f0.trans a2, fun j hj => by rw [a3 j hj, f60], ?_, ?_⟩
    · unfold jn
      rw [hj, Option.bind_some]
      intro hn
      by_cases c1 : 1000000000 < q
      · exact a4 (Or.inl c1)
      · rw [if_neg c1] at hn
        by_cases c2 : (-1000000000) ≤ q
        · rw [if_pos c2] at hn; cases hn
        · exact a4 (Or.inr c2)
    · unfold jn
      rw [hj, Option.bind_some]
      intro v hv
      by_cases c1 : 1000000000 < q
      · rw [if_pos c1] at hv; cases hv
      · rw [if_neg c1] at hv
        by_cases c2 : (-1000000000) ≤ q
        · rw [if_pos c2] at hv
          injection hv with hv
          obtain ⟨b1, b2⟩ := a5 ⟨c1, c2⟩
          exact ⟨b1, by rw [b2, ← hv, l_rt c1 c2]⟩
        · rw [if_neg c2] at hv; cases hv
  -- one that is
  have bad : ∀ M0 : az_M, rfr M M0 → M0.2.1 60 = M.2.1 60 → M0.1 40 38 = 1 → jn o x y = none → f_X12_reckon (nI (o + 18)) x.toInt64 y.toInt64 M = some (0, M0) → ∃ M', ((f_X12_reckon (nI (o + 18)) x.toInt64 y.toInt64 M).bind fun q18 => (if ((nI (h + 2) + (-1)) - 1) < 0 ∨ 400 ≤ ((nI (h + 2) + (-1)) - 1).toNatClampNeg then none else (if ((az_l q18.2 60 (((nI (h + 2) + (-1)) - 1).toNatClampNeg) q18.1).1 40 38) = 0 then (if ((nI (h + 2) + (-1)) - 1) < 0 ∨ 400 ≤ ((nI (h + 2) + (-1)) - 1).toNatClampNeg then none else ((f_X12_in ((az_l q18.2 60 (((nI (h + 2) + (-1)) - 1).toNatClampNeg) q18.1).2.1 60 (((nI (h + 2) + (-1)) - 1).toNatClampNeg)) (-1000000000) 1000000000 (az_l q18.2 60 (((nI (h + 2) + (-1)) - 1).toNatClampNeg) q18.1)).bind fun q23 => (if q23 = 0 then f_X12_reckonAll_284 sp_G (f_X12_reckonAll_10 sp_G F) (nI g) (nI (h + 2) + (-1)) (nI k + 1) (az_l q18.2 60 (((nI (h + 2) + (-1)) - 1).toNatClampNeg) q18.1) else f_X12_reckonAll_289 sp_G (f_X12_reckonAll_10 sp_G F) (nI g) (nI (h + 2) + (-1)) (nI k + 1) 0 (az_l q18.2 60 (((nI (h + 2) + (-1)) - 1).toNatClampNeg) q18.1)))) else f_X12_reckonAll_284 sp_G (f_X12_reckonAll_10 sp_G F) (nI g) (nI (h + 2) + (-1)) (nI k + 1) (az_l q18.2 60 (((nI (h + 2) + (-1)) - 1).toNatClampNeg) q18.1)))) = f_X12_reckonAll_10 sp_G F (nI g) (nI (h + 1)) (nI (k + 1)) M' ∧ rfr M M' ∧ (∀ j, j < h → M'.2.1 60 j = M.2.1 60 j) ∧ (jn o x y = none → M'.1 40 38 = 1) ∧ ∀ v, jn o x y = some v → M'.1 40 38 = 0 ∧ M'.2.1 60 h = v.toInt64 := by
    intro M0 f0 f60 m38 hj hr
    rw [hr, Option.bind_some]
    refine ⟨az_i (az_l M0 60 h 0) 40 38 1, ?_, f0.trans ((rfr_l M0 h 0).trans (rfr_i _ 1)), fun j hjh => ?_, fun _ => by rw [gi, if_pos rfl, if_pos rfl], fun v hv => by rw [hj] at hv; cases hv⟩
    · rw [if_neg j2, i2]
      show (if M0.1 40 38 = 0 then _ else _) = _
      rw [if_neg (by rw [m38]; decide)]
      unfold f_X12_reckonAll_284 f_X12_reckonAll_289 f_X12_reckonAll_357
      rw [if_pos (Or.inr rfl), em, show nI k + 1 = nI (k + 1) from (nI_succ k).symm]
    · show (az_l M0 60 h 0).2.1 60 j = _
      rw [gl_j, if_neg (by omega), f60]
  rcases (show o = 2 ∨ o = 3 ∨ o = 4 ∨ o = 5 ∨ o = 6 ∨ o = 7 ∨ o = 8 ∨ o = 9 by omega) with rfl | rfl | rfl | rfl | rfl | rfl | rfl | rfl
  · exact good _ M (rfr.refl M) rfl h38 rfl rfl
  · exact good _ M (rfr.refl M) rfl h38 rfl rfl
  · exact good _ M (rfr.refl M) rfl h38 rfl rfl
  · by_cases hb : y.toInt64 = 0
    · refine bad (az_i M 40 38 1) (rfr_i M 1) rfl (by rw [gi, if_pos rfl, if_pos rfl]) ?_ ?_
      · unfold jn f_X6_join f_X6_join_71
        rw [if_neg (by decide), if_neg (by decide), if_neg (by decide), if_pos (by decide), if_pos hb]; rfl
      · unfold f_X12_reckon f_X12_reckon_72 f_X12_reckon_90
        rw [if_neg (by decide), if_neg (by decide), if_neg (by decide), if_pos (by decide), if_pos hb, if_pos (Or.inr rfl), if_neg (by rw [gi, if_pos rfl, if_pos rfl]; decide)]
    · refine good (x.toInt64 / y.toInt64) (az_i M 40 38 0) (rfr_i M 0) rfl (by rw [gi, if_pos rfl, if_pos rfl]) ?_ ?_
      · unfold f_X6_join f_X6_join_71
        rw [if_neg (by decide), if_neg (by decide), if_neg (by decide), if_pos (by decide), if_neg hb, if_neg hb]
      · unfold f_X12_reckon f_X12_reckon_72 f_X12_reckon_90
        rw [if_neg (by decide), if_neg (by decide), if_neg (by decide), if_pos (by decide), if_neg hb, if_pos (Or.inl rfl), if_pos (by rw [gi, if_pos rfl, if_pos rfl]), if_neg hb]
  · by_cases hb : y.toInt64 = 0
    · refine bad (az_i M 40 38 1) (rfr_i M 1) rfl (by rw [gi, if_pos rfl, if_pos rfl]) ?_ ?_
      · unfold jn f_X6_join f_X6_join_87
        rw [if_neg (by decide), if_neg (by decide), if_neg (by decide), if_neg (by decide), if_pos (by decide), if_pos hb]; rfl
      · unfold f_X12_reckon f_X12_reckon_104 f_X12_reckon_122
        rw [if_neg (by decide), if_neg (by decide), if_neg (by decide), if_neg (by decide), if_pos (by decide), if_pos hb, if_pos (Or.inr rfl), if_neg (by rw [gi, if_pos rfl, if_pos rfl]; decide)]
    · refine good (az_reml x.toInt64 y.toInt64) (az_i M 40 38 0) (rfr_i M 0) rfl (by rw [gi, if_pos rfl, if_pos rfl]) ?_ ?_
      · unfold f_X6_join f_X6_join_87
        rw [if_neg (by decide), if_neg (by decide), if_neg (by decide), if_neg (by decide), if_pos (by decide), if_neg hb, if_neg hb]
      · unfold f_X12_reckon f_X12_reckon_104 f_X12_reckon_122
        rw [if_neg (by decide), if_neg (by decide), if_neg (by decide), if_neg (by decide), if_pos (by decide), if_neg hb, if_pos (Or.inl rfl), if_pos (by rw [gi, if_pos rfl, if_pos rfl]), if_neg hb]
  · by_cases hb : y.toInt64 ≤ x.toInt64
    · refine good 0 M (rfr.refl M) rfl h38 ?_ ?_
      · unfold f_X6_join f_X6_join_99
        rw [if_neg (by decide), if_neg (by decide), if_neg (by decide), if_neg (by decide), if_neg (by decide), if_pos (by decide), if_pos hb]
      · unfold f_X12_reckon f_X12_reckon_135
        rw [if_neg (by decide), if_neg (by decide), if_neg (by decide), if_neg (by decide), if_neg (by decide), if_pos (by decide), if_pos hb]
    · refine good 1 M (rfr.refl M) rfl h38 ?_ ?_
      · unfold f_X6_join f_X6_join_99
        rw [if_neg (by decide), if_neg (by decide), if_neg (by decide), if_neg (by decide), if_neg (by decide), if_pos (by decide), if_neg hb]
      · unfold f_X12_reckon f_X12_reckon_135
        rw [if_neg (by decide), if_neg (by decide), if_neg (by decide), if_neg (by decide), if_neg (by decide), if_pos (by decide), if_neg hb]
  · by_cases hb : x.toInt64 ≤ y.toInt64
    · refine good 0 M (rfr.refl M) rfl h38 ?_ ?_
      · unfold f_X6_join f_X6_join_111
        rw [if_neg (by decide), if_neg (by decide), if_neg (by decide), if_neg (by decide), if_neg (by decide), if_neg (by decide), if_pos (by decide), if_pos hb]
      · unfold f_X12_reckon f_X12_reckon_148
        rw [if_neg (by decide), if_neg (by decide), if_neg (by decide), if_neg (by decide), if_neg (by decide), if_neg (by decide), if_pos (by decide), if_pos hb]
    · refine good 1 M (rfr.refl M) rfl h38 ?_ ?_
      · unfold f_X6_join f_X6_join_111
        rw [if_neg (by decide), if_neg (by decide), if_neg (by decide), if_neg (by decide), if_neg (by decide), if_neg (by decide), if_pos (by decide), if_neg hb]
      · unfold f_X12_reckon f_X12_reckon_148
        rw [if_neg (by decide), if_neg (by decide), if_neg (by decide), if_neg (by decide), if_neg (by decide), if_neg (by decide), if_pos (by decide), if_neg hb]
  · by_cases hb : x.toInt64 = y.toInt64
    · refine good 1 M (rfr.refl M) rfl h38 ?_ ?_
      · unfold f_X6_join f_X6_join_123
        rw [if_neg (by decide), if_neg (by decide), if_neg (by decide), if_neg (by decide), if_neg (by decide), if_neg (by decide), if_neg (by decide), if_pos hb]
      · unfold f_X12_reckon f_X12_reckon_161
        rw [if_neg (by decide), if_neg (by decide), if_neg (by decide), if_neg (by decide), if_neg (by decide), if_neg (by decide), if_neg (by decide), if_pos hb]
    · refine good 0 M (rfr.refl M) rfl h38 ?_ ?_
      · unfold f_X6_join f_X6_join_123
        rw [if_neg (by decide), if_neg (by decide), if_neg (by decide), if_neg (by decide), if_neg (by decide), if_neg (by decide), if_neg (by decide), if_neg hb]
      · unfold f_X12_reckon f_X12_reckon_161
        rw [if_neg (by decide), if_neg (by decide), if_neg (by decide), if_neg (by decide), if_neg (by decide), if_neg (by decide), if_neg (by decide), if_neg hb]

theorem r_broken {g h k F : Nat} {M : az_M} (h38 : M.1 40 38 = 1) : f_X12_reckonAll_10 sp_G (F + 1) (nI g) (nI h) (nI k) M = f_X12_reckonAll_360 sp_G (nI h) M := by
  rw [f_X12_reckonAll_10]
  by_cases hc : nI g ≤ nI k
  · rw [if_pos hc]
  · rw [if_neg hc, if_neg (by rw [h38]; decide)]
theorem rSeg_push {o a w s : Nat} {Op Ar : Nat → Int32} (ho : o ≤ 1) (hs : (s = 0 ∧ Op a = 0 ∧ Ar a = nI w ∧ w ≤ 100000) ∨ (s = 1 ∧ Op a = nI (rWord o w).1 ∧ Ar a = nI (rWord o w).2 ∧ w < (if o = 0 then 11 else 28))) : rSeg o Op Ar a (a + 1) 1 (fun e => some (if s = 0 then nI w else e w)) := by
  refine ⟨by omega, by omega, fun e g h F M h1 h2 h3 h4 h5 h6 h7 h8 => ?_⟩
  obtain ⟨F, rfl⟩ : ∃ F1, F = F1 + 1 := ⟨F - 1, by omega⟩
  refine ⟨F, az_l M 60 h (if s = 0 then nI w else e w).toInt64, by omega, rfr_l _ _ _, fun j hj => by rw [gl_j, if_neg (by omega)], fun x => (by cases x), fun v hv => ?_⟩
  injection hv with hv
  exact ⟨by rw [r_fetch ho (by omega) h2 h3 h7 (h4 a (by omega) (by omega)), r_leaf ho (by omega) (by omega) h3 h5 hs], h7, by rw [gl_j, if_pos rfl, hv]⟩
theorem rSeg_not {o a b k : Nat} {Op Ar : Nat → Int32} {φ : sp_E → Option Int32} (ho : o ≤ 1) (h : rSeg o Op Ar a b k φ) (hO : Op b = 28) (h01 : is01 φ) : rSeg o Op Ar a (b + 1) k (cn φ) := by
  obtain ⟨k1, k2, k3⟩ := h
  refine ⟨by omega, k2, fun e g h F M h1 h2 h3 h4 h5 h6 h7 h8 => ?_⟩
  obtain ⟨F', M', a1, a2, a3, a4, a5⟩ := k3 e g h F M (by omega) h2 h3 (fun j x y => h4 j x (by omega)) h5 h6 h7 h8
  unfold cn
  cases hp : φ e with
  | none => exact ⟨F', M', by omega, a2, a3, fun _ => a4 hp, fun v hv => (by cases hv)⟩
  | some v =>
    obtain ⟨F', rfl⟩ : ∃ F1, F' = F1 + 1 := ⟨F' - 1, by omega⟩
    obtain ⟨b1, b2, b3⟩ := a5 v hp
    have hc := (h4 b (by omega) (by omega)).fr a2
    rw [hO] at hc
    refine ⟨F', az_l M' 60 h (1 - M'.2.1 60 h), by omega, a2.trans (rfr_l _ _ _), fun j hj => by rw [gl_j, if_neg (by omega), a3 j hj], fun x => (by cases x), fun u hu => ?_⟩
    injection hu with hu
    refine ⟨?_, b2, ?_⟩
    · rw [b1, r_fetch ho (by omega) h2 (by rw [a2.2.1 20 (by decide)]; exact h3) b2 hc]
      unfold f_X12_reckonAll_95 f_X12_reckonAll_357
      rw [if_pos (by decide), if_pos (by decide), if_pos (by decide), nI_pred, if_neg (nI_in (by omega) (by decide)), if_neg (nI_in (by omega) (by decide)), n_cl (by omega), show nI b + 1 = nI (b + 1) from (nI_succ b).symm]
    · rw [gl_j, if_pos rfl, b3, ← hu]
      rcases h01 e v hp with rfl | rfl <;> rfl
theorem rSeg_op {o a b c k k' q : Nat} {Op Ar : Nat → Int32} {φ ψ : sp_E → Option Int32} (ho : o ≤ 1) (h : rSeg o Op Ar a b k φ) (h' : rSeg o Op Ar b c k' ψ) (hq : 2 ≤ q ∧ q ≤ 9) (hO : Op c = nI (q + 18)) : rSeg o Op Ar a (c + 1) (k + k') (cj q φ ψ) := by
  obtain ⟨k1, k2, k3⟩ := h
  obtain ⟨l1, l2, l3⟩ := h'
  refine ⟨by omega, by omega, fun e g h F M h1 h2 h3 h4 h5 h6 h7 h8 => ?_⟩
  obtain ⟨F', M', a1, a2, a3, a4, a5⟩ := k3 e g h F M (by omega) h2 h3 (fun j x y => h4 j x (by omega)) h5 (by omega) h7 h8
  unfold cj
  cases hp : φ e with
  | none => exact ⟨F' + b, M', by omega, a2, a3, fun _ => a4 hp, fun v hv => (by cases hv)⟩
  | some v =>
    obtain ⟨b1, b2, b3⟩ := a5 v hp
    obtain ⟨G', N', d1, d2, d3, d4, d5⟩ := l3 e g (h + 1) F' M' (by omega) h2 (by rw [a2.2.1 20 (by decide)]; exact h3) (fun j x y => (h4 j (by omega) (by omega)).fr a2) (h5.fr a2) (by omega) b2 a1
    cases hψ : ψ e with
    | none =>
      refine ⟨G' + c, N', by omega, a2.trans d2, fun j hj => by rw [d3 j (by omega), a3 j hj], fun _ => ?_, fun v hv => (by cases hv)⟩
      obtain ⟨x, e1, e2⟩ := d4 hψ
      exact ⟨x, by rw [b1, e1], e2⟩
    | some u =>
      obtain ⟨e1, e2, e3⟩ := d5 u hψ
      obtain ⟨G', rfl⟩ : ∃ F1, G' = F1 + 1 := ⟨G' - 1, by omega⟩
      have hc := (h4 c (by omega) (by omega)).fr (a2.trans d2)
      rw [hO] at hc
      obtain ⟨P, p1, p2, p3, p4, p5⟩ := r_bin (g := g) (k := c) (F := G') (ar := Ar c) (show h < 390 by omega) hq e2 (show N'.2.1 60 h = v.toInt64 by rw [d3 h (by omega), b3]) e3
      have hst : f_X12_reckonAll_10 sp_G F (nI g) (nI h) (nI a) M = f_X12_reckonAll_10 sp_G G' (nI g) (nI (h + 1)) (nI (c + 1)) P := by
        rw [b1, e1, r_fetch ho (by omega) h2 (by rw [d2.2.1 20 (by decide), a2.2.1 20 (by decide)]; exact h3) e2 hc, p1]
      show ∃ F' M', _ ∧ _ ∧ _ ∧ (jn q v u = none → _) ∧ ∀ x, jn q v u = some x → _
      refine ⟨G', P, by omega, a2.trans (d2.trans p2), fun j hj => by rw [p3 j hj, d3 j (by omega), a3 j hj], fun hn => ?_, fun x hx => ⟨hst, p5 x hx⟩⟩
      have hG : 1 ≤ G' := by omega
      obtain ⟨G', rfl⟩ : ∃ F1, G' = F1 + 1 := ⟨G' - 1, by omega⟩
      exact ⟨nI (h + 1), by rw [hst, r_broken (p4 hn)], p4 hn⟩
theorem rSeg_and {o a b c k k' q : Nat} {Op Ar : Nat → Int32} {φ ψ : sp_E → Option Int32} (ho : o ≤ 1) (h : rSeg o Op Ar a b k φ) (h' : rSeg o Op Ar (b + 1) c k' ψ) (hq : q = 11 ∨ q = 12) (hO : Op b = (if q = 11 then 30 else 29)) (hA : Ar b = nI c) (h01 : is01 φ) : rSeg o Op Ar a c (k + k') (ca q φ ψ) := by
  obtain ⟨k1, k2, k3⟩ := h
  obtain ⟨l1, l2, l3⟩ := h'
  refine ⟨by omega, by omega, fun e g h F M h1 h2 h3 h4 h5 h6 h7 h8 => ?_⟩
  obtain ⟨F', M', a1, a2, a3, a4, a5⟩ := k3 e g h F M (by omega) h2 h3 (fun j x y => h4 j x (by omega)) h5 (by omega) h7 h8
  unfold ca
  cases hp : φ e with
  | none => exact ⟨F' + b, M', by omega, a2, a3, fun _ => a4 hp, fun v hv => (by cases hv)⟩
  | some v =>
    obtain ⟨b1, b2, b3⟩ := a5 v hp
    obtain ⟨F', rfl⟩ : ∃ F1, F' = F1 + 1 := ⟨F' - 1, by omega⟩
    have hc := (h4 b (by omega) (by omega)).fr a2
    rw [hO, hA] at hc
    have em : nI (h + 1) + (-1) = nI h := by rw [nI_succ, Int32.add_assoc]; show nI h + 0 = _; rw [Int32.add_zero]
    have st : f_X12_reckonAll_10 sp_G F (nI g) (nI h) (nI a) M = if v = (if q = 11 then 1 else 0) then f_X12_reckonAll_10 sp_G F' (nI g) (nI (h + 1)) (nI c) M' else f_X12_reckonAll_10 sp_G F' (nI g) (nI h) (nI (b + 1)) M' := by
      rw [b1, r_fetch ho (by omega) h2 (by rw [a2.2.1 20 (by decide)]; exact h3) b2 hc]
      unfold f_X12_reckonAll_95 f_X12_reckonAll_343 f_X12_reckonAll_357
      rw [nI_pred, n_cl (by omega), b3, em, show nI b + 1 = nI (b + 1) from (nI_succ b).symm]
      have hin : ¬ (nI h < 0 ∨ 400 ≤ h) := nIn (by omega) (by omega)
      rcases hq with rfl | rfl
      · rw [show (if (11 : Nat) = 11 then (30 : Int32) else 29) = 30 from rfl, if_pos (show (20 : Int32) ≤ 30 by decide), if_pos (show (28 : Int32) ≤ 30 by decide), if_neg (show ¬ (30 : Int32) = 28 by decide), if_neg hin, if_neg (show ¬ (30 : Int32) = 29 by decide)]
        rcases h01 e v hp with rfl | rfl
        · rw [if_neg (by decide), if_neg (by decide)]
        · rw [if_pos (by decide), if_pos (by decide)]
      · rw [show (if (12 : Nat) = 11 then (30 : Int32) else 29) = 29 from rfl, if_pos (show (20 : Int32) ≤ 29 by decide), if_pos (show (28 : Int32) ≤ 29 by decide), if_neg (show ¬ (29 : Int32) = 28 by decide), if_neg hin, if_pos (show (29 : Int32) = 29 by decide)]
        rcases h01 e v hp with rfl | rfl
        · rw [if_pos (by decide), if_pos (by decide)]
        · rw [if_neg (by decide), if_neg (by decide)]
    show ∃ F' M', _ ∧ _ ∧ _ ∧ ((if v = (if q = 11 then 1 else 0) then some v else ψ e) = none → _) ∧ ∀ x, (if v = (if q = 11 then 1 else 0) then some v else ψ e) = some x → _
    by_cases hs : v = (if q = 11 then 1 else 0)
    · rw [if_pos hs] at st ⊢
      refine ⟨F', M', by omega, a2, a3, fun x => (by cases x), fun x hx => ?_⟩
      injection hx with hx
      exact ⟨st, b2, by rw [b3, hx]⟩
    · rw [if_neg hs] at st ⊢
      obtain ⟨G', N', d1, d2, d3, d4, d5⟩ := l3 e g h F' M' (by omega) h2 (by rw [a2.2.1 20 (by decide)]; exact h3) (fun j x y => (h4 j (by omega) (by omega)).fr a2) (h5.fr a2) (by omega) b2 (by omega)
      refine ⟨G', N', d1, a2.trans d2, fun j hj => by rw [d3 j hj, a3 j hj], fun hn => ?_, fun x hx => ?_⟩
      · obtain ⟨x, e1, e2⟩ := d4 hn
        exact ⟨x, by rw [st, e1], e2⟩
      · obtain ⟨e1, e2, e3⟩ := d5 x hx
        exact ⟨by rw [st, e1], e2, e3⟩
