/-! share -/
theorem n_div {a b : Nat} (ha : a < 2147483648) (hb : b < 2147483648) : nI a / nI b = nI (a / b) := by
  have hd : a / b < 2147483648 := Nat.lt_of_le_of_lt (Nat.div_le_self a b) ha
  apply Int32.toInt_inj.mp
  rw [n_int hd, Int32.toInt_div_of_ne_left _ _ (by intro h; have := congrArg Int32.toInt h; rw [n_int ha] at this; have e : Int32.minValue.toInt = -2147483648 := rfl; omega), n_int ha, n_int hb]
  rw [Int.tdiv_eq_ediv_of_nonneg (by omega)]; omega
theorem n_divr {a c : Nat} (ha : a < 2147483648) (hb : OfNat.ofNat c < 2147483648) : nI a / no_index (OfNat.ofNat c : Int32) = nI (a / OfNat.ofNat c) := n_div ha hb
theorem n_rem {a b : Nat} (ha : a < 2147483648) (hb : b < 2147483648) : az_rem (nI a) (nI b) = nI (a % b) := by
  have h : a / b * b ≤ a := Nat.div_mul_le_self a b
  unfold az_rem
  rw [n_div ha hb, n_mul, n_sub h]
  congr 1
  have := Nat.div_add_mod a b
  rw [Nat.mul_comm] at this
  omega
theorem n_remr {a c : Nat} (ha : a < 2147483648) (hb : OfNat.ofNat c < 2147483648) : az_rem (nI a) (no_index (OfNat.ofNat c : Int32)) = nI (a % OfNat.ofNat c) := n_rem ha hb
theorem gcd_half {a b : Nat} (h : b ≤ a) (hb : 0 < b) {k : Nat} (hk : a * b < 2 ^ (k + 1)) : b * (a % b) < 2 ^ k := by
  have h1 : a % b < b := Nat.mod_lt _ hb
  have h2 : 2 * (a % b) ≤ a := by
    have h3 := Nat.div_add_mod a b
    have h4 : 1 ≤ a / b := (Nat.one_le_div_iff hb).mpr h
    have h5 : b ≤ b * (a / b) := Nat.le_mul_of_pos_right b h4
    omega
  have h6 : 2 * (b * (a % b)) ≤ a * b := by
    have := Nat.mul_le_mul_left b h2
    calc 2 * (b * (a % b)) = b * (2 * (a % b)) := by ac_rfl
      _ ≤ b * a := this
      _ = a * b := Nat.mul_comm _ _
  rw [Nat.pow_succ] at hk
  omega
theorem p_gcd (G : Nat) (M : az_M) : ∀ (k F a b c : Nat), b ≤ a → a * b < 2 ^ k → k < F → c + k < 64 → a < 2147483648 → f_X11_commonDivisor_7 G F (nI a) (nI b) (nI c) M = some (nI (Nat.gcd a b)) := by
  intro k
  induction k with
  | zero =>
    intro F a b c h1 h2 h3 h4 h5
    obtain ⟨F, rfl⟩ : ∃ F', F = F' + 1 := ⟨F - 1, by omega⟩
    have hb : b = 0 := by
      rcases Nat.eq_zero_or_pos b with h | h
      · exact h
      · have : 0 < a * b := Nat.mul_pos (by omega) h
        rw [Nat.pow_zero] at h2; omega
    subst hb
    rw [f_X11_commonDivisor_7, Nat.gcd_zero_right]
    simp (disch := omega) only [n_addl, n_addr, n_add, n_mull, n_mulr, n_mul, n_sub, n_subr, n_subl, n_cl, n_lt, n_le, n_eq, n_ltl, n_ltr, n_lel, n_ler, n_eqr, n_eql, n_nm1, n_m1n, n_m1lt, n_ltm1, l_ltr, l_ltl, l_ler, l_lel, l_m1lt, l_nneg, if_true, if_false, or_false, false_or, or_true, true_or, and_true, true_and, and_false, false_and, not_true_eq_false, not_false_eq_true, Option.bind_some, Option.bind_none, reduceIte, ltT, ltF, leT, leF, eqT, eqF, nI_lt0]
    rfl
  | succ k ih =>
    intro F a b c h1 h2 h3 h4 h5
    obtain ⟨F, rfl⟩ : ∃ F', F = F' + 1 := ⟨F - 1, by omega⟩
    rcases Nat.eq_zero_or_pos b with hb | hb
    · subst hb
      rw [f_X11_commonDivisor_7, Nat.gcd_zero_right]
      simp (disch := omega) only [n_addl, n_addr, n_add, n_mull, n_mulr, n_mul, n_sub, n_subr, n_subl, n_cl, n_lt, n_le, n_eq, n_ltl, n_ltr, n_lel, n_ler, n_eqr, n_eql, n_nm1, n_m1n, n_m1lt, n_ltm1, l_ltr, l_ltl, l_ler, l_lel, l_m1lt, l_nneg, if_true, if_false, or_false, false_or, or_true, true_or, and_true, true_and, and_false, false_and, not_true_eq_false, not_false_eq_true, Option.bind_some, Option.bind_none, reduceIte, ltT, ltF, leT, leF, eqT, eqF, nI_lt0]
      rfl
    · rw [f_X11_commonDivisor_7]
      simp (disch := omega) only [n_addl, n_addr, n_add, n_mull, n_mulr, n_mul, n_sub, n_subr, n_subl, n_cl, n_lt, n_le, n_eq, n_ltl, n_ltr, n_lel, n_ler, n_eqr, n_eql, n_nm1, n_m1n, n_m1lt, n_ltm1, l_ltr, l_ltl, l_ler, l_lel, l_m1lt, l_nneg, if_true, if_false, or_false, false_or, or_true, true_or, and_true, true_and, and_false, false_and, not_true_eq_false, not_false_eq_true, Option.bind_some, Option.bind_none, reduceIte, ltT, ltF, leT, leF, eqT, eqF, nI_lt0, n_rem]
      rw [ih F b (a % b) (c + 1) (Nat.le_of_lt (Nat.mod_lt _ hb)) (gcd_half h1 hb h2) (by omega) (by omega) (by omega), Nat.gcd_comm a b, Nat.gcd_rec b a, Nat.gcd_comm]
theorem r_gcd (G : Nat) (M : az_M) (x1 x2 x3 : Int32) : ∀ (k F a b : Nat), b ≤ a → a * b < 2 ^ k → k < F → a < 2147483648 → ∃ F', f_X12_share_61 G F x1 x2 x3 (nI a) (nI b) M = f_X12_share_61 G (F' + 1) x1 x2 x3 (nI (Nat.gcd a b)) 0 M := by
  intro k
  induction k with
  | zero =>
    intro F a b h1 h2 h3 h5
    obtain ⟨F, rfl⟩ : ∃ F', F = F' + 1 := ⟨F - 1, by omega⟩
    have hb : b = 0 := by
      rcases Nat.eq_zero_or_pos b with h | h
      · exact h
      · have : 0 < a * b := Nat.mul_pos (by omega) h
        rw [Nat.pow_zero] at h2; omega
    subst hb
    exact ⟨F, by rw [Nat.gcd_zero_right]; rfl⟩
  | succ k ih =>
    intro F a b h1 h2 h3 h5
    obtain ⟨F, rfl⟩ : ∃ F', F = F' + 1 := ⟨F - 1, by omega⟩
    rcases Nat.eq_zero_or_pos b with hb | hb
    · subst hb
      exact ⟨F, by rw [Nat.gcd_zero_right]; rfl⟩
    · obtain ⟨F', e⟩ := ih F b (a % b) (Nat.le_of_lt (Nat.mod_lt _ hb)) (gcd_half h1 hb h2) (by omega) (by omega)
      refine ⟨F', ?_⟩
      rw [Nat.gcd_comm a b, Nat.gcd_rec b a, Nat.gcd_comm, ← e, f_X12_share_61]
      simp (disch := omega) only [n_addl, n_addr, n_add, n_mull, n_mulr, n_mul, n_sub, n_subr, n_subl, n_cl, n_lt, n_le, n_eq, n_ltl, n_ltr, n_lel, n_ler, n_eqr, n_eql, n_nm1, n_m1n, n_m1lt, n_ltm1, l_ltr, l_ltl, l_ler, l_lel, l_m1lt, l_nneg, if_true, if_false, or_false, false_or, or_true, true_or, and_true, true_and, and_false, false_and, not_true_eq_false, not_false_eq_true, Option.bind_some, Option.bind_none, reduceIte, ltT, ltF, leT, leF, eqT, eqF, nI_lt0, n_rem]
theorem ob_share : Ob_share az_Inv sp_G := by
  intro m Z M a1 a2 hm h
  have hI := (h.ke (sp_ke_thrown M 0)).mono
  obtain ⟨⟨_, _, ⟨p21, p22⟩, _⟩, hg⟩ := h.2.2.1
  obtain ⟨x, hx, _, hx2⟩ := hg.2.2.1.1.nat (by decide) (by unfold sp_B; omega)
  obtain ⟨y, hy, _, hy2⟩ := hg.2.2.1.2.nat (by decide) (by unfold sp_B; omega)
  have hB : sp_B m ≤ 102400000 := by unfold sp_B; omega
  have e15 : (az_i M 40 0 0).1 42 15 = nI x := p21.symm.trans hx
  have e16 : (az_i M 40 0 0).1 42 16 = nI y := p22.symm.trans hy
  have bad : f_X11_share sp_G a1 a2 M = some (-1) → f_X12_share sp_G a1 a2 M = some (-1, az_i M 40 0 0) → ∃ (r : Int32) (M2 : az_M), f_X11_share sp_G a1 a2 M = some r ∧ f_X12_share sp_G a1 a2 M = some (r, M2) ∧ az_Inv (m + 1) Z M2 := fun h1 h2 => ⟨_, _, h1, h2, hI⟩
  rcases r_cases a1 0 1 (by decide) (by decide) with ⟨i, _, hi, rfl⟩ | ⟨hn, hb⟩
  · rcases r_cases a2 0 1 (by decide) (by decide) with ⟨j, _, hj, rfl⟩ | ⟨hn, hb⟩
    · by_cases h0 : x + y = 0
      · refine bad ?_ ?_
        · unfold f_X11_share f_X11_share_44
          rw [hx, hy]
          simp (disch := omega) only [n_addl, n_addr, n_add, n_mull, n_mulr, n_mul, n_sub, n_subr, n_subl, n_cl, n_lt, n_le, n_eq, n_ltl, n_ltr, n_lel, n_ler, n_eqr, n_eql, n_nm1, n_m1n, n_m1lt, n_ltm1, l_ltr, l_ltl, l_ler, l_lel, l_m1lt, l_nneg, if_true, if_false, or_false, false_or, or_true, true_or, and_true, true_and, and_false, false_and, not_true_eq_false, not_false_eq_true, Option.bind_some, Option.bind_none, reduceIte, ltT, ltF, leT, leF, eqT, eqF, nI_lt0]
        · unfold f_X12_share f_X12_share_45
          rw [e15, e16, show f_X12_in (nI i).toInt64 0 1 (az_i M 40 0 0) = some 1 from g_in (Nat.zero_le i) hi (by decide) _, show f_X12_in (nI j).toInt64 0 1 (az_i M 40 0 0) = some 1 from g_in (Nat.zero_le j) hj (by decide) _]
          simp (disch := omega) only [n_addl, n_addr, n_add, n_mull, n_mulr, n_mul, n_sub, n_subr, n_subl, n_cl, n_lt, n_le, n_eq, n_ltl, n_ltr, n_lel, n_ler, n_eqr, n_eql, n_nm1, n_m1n, n_m1lt, n_ltm1, l_ltr, l_ltl, l_ler, l_lel, l_m1lt, l_nneg, if_true, if_false, or_false, false_or, or_true, true_or, and_true, true_and, and_false, false_and, not_true_eq_false, not_false_eq_true, Option.bind_some, Option.bind_none, reduceIte, ltT, ltF, leT, leF, eqT, eqF, nI_lt0, show ¬ (1 : Int32) = 0 by decide]
      · obtain ⟨z, hz, hz2, hz42⟩ : ∃ z, z ≤ x + y ∧ M.1 2 (21 + i) = nI z ∧ M.1 42 (15 + i) = nI z := by
          rcases (show i = 0 ∨ i = 1 by omega) with rfl | rfl
          · exact ⟨x, by omega, hx, e15⟩
          · exact ⟨y, by omega, hy, e16⟩
        have hp : (x + y) * z < 2 ^ 56 := Nat.lt_of_le_of_lt (Nat.mul_le_mul (show x + y ≤ 204800000 by omega) (show z ≤ 204800000 by omega)) (by decide)
        have hgc : 0 < Nat.gcd (x + y) z := Nat.gcd_pos_of_pos_left _ (by omega)
        have hgl : Nat.gcd (x + y) z ≤ x + y := Nat.gcd_le_left _ (by omega)
        have hcls := p_gcd sp_G M 56 sp_G (x + y) z 0 hz hp (by decide) (by decide) (by omega)
        have hgz : f_X11_commonDivisor sp_G (nI z) (nI (x + y)) M = some (nI (Nat.gcd (x + y) z)) := hcls
        have hrf : ∃ F', f_X12_share_61 sp_G sp_G (nI i) (nI j) (nI (x + y)) (nI z) (nI (x + y)) (az_i M 40 0 0) = f_X12_share_61 sp_G (F' + 1) (nI i) (nI j) (nI (x + y)) (nI (Nat.gcd (x + y) z)) 0 (az_i M 40 0 0) := by
          obtain ⟨F', e⟩ := r_gcd sp_G (az_i M 40 0 0) (nI i) (nI j) (nI (x + y)) 57 999999 (x + y) (z % (x + y)) (Nat.le_of_lt (Nat.mod_lt _ (by omega))) (Nat.lt_of_le_of_lt (Nat.mul_le_mul_left _ (Nat.mod_le z (x + y))) (by omega)) (by decide) (by omega)
          refine ⟨F', ?_⟩
          rw [show Nat.gcd (x + y) z = Nat.gcd (x + y) (z % (x + y)) by rw [Nat.gcd_comm (x + y) (z % (x + y)), ← Nat.gcd_rec], ← e]
          show f_X12_share_61 sp_G (999999 + 1) _ _ _ _ _ _ = _
          rw [f_X12_share_61]
          simp (disch := omega) only [n_addl, n_addr, n_add, n_mull, n_mulr, n_mul, n_sub, n_subr, n_subl, n_cl, n_lt, n_le, n_eq, n_ltl, n_ltr, n_lel, n_ler, n_eqr, n_eql, n_nm1, n_m1n, n_m1lt, n_ltm1, l_ltr, l_ltl, l_ler, l_lel, l_m1lt, l_nneg, if_true, if_false, or_false, false_or, or_true, true_or, and_true, true_and, and_false, false_and, not_true_eq_false, not_false_eq_true, Option.bind_some, Option.bind_none, reduceIte, ltT, ltF, leT, leF, eqT, eqF, nI_lt0, n_rem]
        obtain ⟨F', hrf⟩ := hrf
        refine ⟨if j = 0 then nI (z / Nat.gcd (x + y) z) else nI ((x + y) / Nat.gcd (x + y) z), _, ?_, ?_, hI⟩
        · unfold f_X11_share f_X11_share_87 f_X11_share_90
          rw [hx, hy]
          simp (disch := omega) only [n_addl, n_addr, n_add, n_mull, n_mulr, n_mul, n_sub, n_subr, n_subl, n_cl, n_lt, n_le, n_eq, n_ltl, n_ltr, n_lel, n_ler, n_eqr, n_eql, n_nm1, n_m1n, n_m1lt, n_ltm1, l_ltr, l_ltl, l_ler, l_lel, l_m1lt, l_nneg, if_true, if_false, or_false, false_or, or_true, true_or, and_true, true_and, and_false, false_and, not_true_eq_false, not_false_eq_true, Option.bind_some, Option.bind_none, reduceIte, ltT, ltF, leT, leF, eqT, eqF, nI_lt0, hz2, hgz, n_div]
          by_cases hj0 : j = 0
          · rw [if_pos hj0, if_pos hj0]
          · rw [if_neg hj0, if_neg hj0]
        · unfold f_X12_share f_X12_share_45
          rw [e15, e16, show f_X12_in (nI i).toInt64 0 1 (az_i M 40 0 0) = some 1 from g_in (Nat.zero_le i) hi (by decide) _, show f_X12_in (nI j).toInt64 0 1 (az_i M 40 0 0) = some 1 from g_in (Nat.zero_le j) hj (by decide) _]
          simp (disch := omega) only [n_addl, n_addr, n_add, n_mull, n_mulr, n_mul, n_sub, n_subr, n_subl, n_cl, n_lt, n_le, n_eq, n_ltl, n_ltr, n_lel, n_ler, n_eqr, n_eql, n_nm1, n_m1n, n_m1lt, n_ltm1, l_ltr, l_ltl, l_ler, l_lel, l_m1lt, l_nneg, if_true, if_false, or_false, false_or, or_true, true_or, and_true, true_and, and_false, false_and, not_true_eq_false, not_false_eq_true, Option.bind_some, Option.bind_none, reduceIte, ltT, ltF, leT, leF, eqT, eqF, nI_lt0, show ¬ (1 : Int32) = 0 by decide]
          rw [show (az_i M 40 0 0).1 42 (15 + i) = nI z from hz42, hrf, f_X12_share_61, if_pos rfl]
          unfold f_X12_share_107
          simp (disch := omega) only [n_addl, n_addr, n_add, n_mull, n_mulr, n_mul, n_sub, n_subr, n_subl, n_cl, n_lt, n_le, n_eq, n_ltl, n_ltr, n_lel, n_ler, n_eqr, n_eql, n_nm1, n_m1n, n_m1lt, n_ltm1, l_ltr, l_ltl, l_ler, l_lel, l_m1lt, l_nneg, if_true, if_false, or_false, false_or, or_true, true_or, and_true, true_and, and_false, false_and, not_true_eq_false, not_false_eq_true, Option.bind_some, Option.bind_none, reduceIte, ltT, ltF, leT, leF, eqT, eqF, nI_lt0, n_div, show (az_i M 40 0 0).1 42 (15 + i) = nI z from hz42]
          by_cases hj0 : j = 0
          · rw [if_pos hj0, if_pos hj0]
          · rw [if_neg hj0, if_neg hj0]
    · refine bad ?_ ?_
      · unfold f_X11_share f_X11_share_44
        rw [if_neg (show ¬ nI i < 0 from nI_nlt (Nat.zero_le i) (by omega)), if_neg (show ¬ (1 : Int32) < nI i from fun hE => absurd ((n_lt (a := 1) (b := i) (by omega) (by omega)).mp hE) (by omega))]
        rcases (show a2 < 0 ∨ 1 < a2 from hn) with hn | hn
        · rw [if_pos hn]
        · by_cases h1 : a2 < 0
          · rw [if_pos h1]
          · rw [if_neg h1, if_pos hn]
      · unfold f_X12_share f_X12_share_45
        rw [show f_X12_in (nI i).toInt64 0 1 (az_i M 40 0 0) = some 1 from g_in (Nat.zero_le i) hi (by decide) _, show f_X12_in a2.toInt64 0 1 (az_i M 40 0 0) = some 0 from hb _]
        rfl
  · refine bad ?_ ?_
    · unfold f_X11_share f_X11_share_44
      rcases (show a1 < 0 ∨ 1 < a1 from hn) with hn | hn
      · rw [if_pos hn]
      · by_cases h1 : a1 < 0
        · rw [if_pos h1]
        · rw [if_neg h1, if_pos hn]
    · unfold f_X12_share f_X12_share_45
      rw [show f_X12_in a1.toInt64 0 1 (az_i M 40 0 0) = some 0 from hb _]
      rfl
