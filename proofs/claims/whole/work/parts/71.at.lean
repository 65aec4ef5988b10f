theorem ob_about : Ob_about az_Inv sp_G := by
  intro m Z M a1 a2 hm h
  obtain ⟨ls, C, R⟩ := h.both hm
  obtain ⟨pr, rg⟩ := h.2.2.1
  have hI := (h.ke (sp_ke_thrown M 0)).mono
  obtain ⟨n, hn, _, hn2⟩ := rg.2.2.2.1.2.2.1.nat (by decide) (by decide)
  have n42 : (az_i M 40 0 0).1 42 2 = nI n := pr.2.2.2.1.2.2.1.symm.trans hn
  have bad : f_X11_about Z sp_G a1 a2 M = some (-1, M) → f_X12_about sp_G a1 a2 M = some (-1, az_i M 40 0 0) → ∃ (r : Int32) (M1 M2 : az_M), f_X11_about Z sp_G a1 a2 M = some (r, M1) ∧ f_X12_about sp_G a1 a2 M1 = some (r, M2) ∧ az_Inv (m + 1) Z M2 := fun h1 h2 => ⟨_, _, _, h1, h2, hI⟩
  rcases v_cases a1 (n := n) (by omega) with ⟨q, hq, rfl⟩ | ⟨hb, hr⟩
  · have hq' : q < (M.1 2 25).toNatClampNeg := by rw [hn, n_cl (by omega)]; exact hq
    have p4 := pr.2.2.2.2.2.2.1 q hq'
    rcases r_cases a2 0 4 (by decide) (by decide) with ⟨k, _, hk, rfl⟩ | ⟨hb, hr⟩
    · have hin : ∀ M, f_X12_in (nI k).toInt64 0 4 M = some 1 := fun M => g_in (Nat.zero_le k) hk (by decide) M
      by_cases h4 : k = 4
      · subst h4
        obtain ⟨M1, f1, g1⟩ := p_canBeHad C hq'
        obtain ⟨M2, f2, g2⟩ := r_canHave (R M1 g1) hq'
        have m42 : M1.1 42 = M.1 42 := g1.1 42 (by decide) (by decide)
        refine ⟨sp_had (sp_law (M.1 3 2) ls) (M.1 2) q, M1, M2, ?_, ?_, h.asked g1 g2⟩
        · unfold f_X11_about f_X11_about_120
          rw [p_hasQuarrel1 hn (by omega) hq, Option.bind_some, if_neg (by decide), if_neg (by decide), if_neg (by decide), if_neg (by decide), if_neg (by decide), if_pos (by rfl), f1, Option.bind_some]
          rcases sp_had01 (sp_law (M.1 3 2) ls) (M.1 2) q with e | e
          · rw [e]; rfl
          · rw [e]; rfl
        · unfold f_X12_about f_X12_about_54
          rw [p_isQuarrel1 (M := az_i M1 40 0 0) (by rw [gi_k (by decide), m42]; exact n42) (by omega) hq, Option.bind_some, if_neg (by decide), hin, Option.bind_some, if_neg (by decide), if_pos (by decide), f2, Option.bind_some]
          rcases sp_had01 (sp_law (M.1 3 2) ls) (M.1 2) q with e | e
          · rw [e]; rfl
          · rw [e]; rfl
      · have rf : ∀ v, M.1 42 (95 + 4 * q + k) = v → f_X12_about sp_G (nI q) (nI k) M = some (v, az_i M 40 0 0) := by
          intro v hv
          unfold f_X12_about f_X12_about_54
          rw [p_isQuarrel1 n42 (by omega) hq, Option.bind_some, if_neg (by decide), hin, Option.bind_some, if_neg (by decide)]
          simp (disch := omega) only [n_addl, n_addr, n_add, n_mull, n_mulr, n_mul, n_sub, n_subr, n_subl, n_cl, n_lt, n_le, n_eq, n_ltl, n_ltr, n_lel, n_ler, n_eqr, n_eql, n_nm1, n_m1n, n_m1lt, n_ltm1, l_ltr, l_ltl, l_ler, l_lel, l_m1lt, l_nneg, if_true, if_false, or_false, false_or, or_true, true_or, and_true, true_and, and_false, false_and, not_true_eq_false, not_false_eq_true, Option.bind_some, Option.bind_none, reduceIte, ltT, ltF, leT, leF, eqT, eqF, nI_lt0]
          rw [p_ofQuarrel (by omega) (by omega), Option.bind_some, gi_k (by decide), hv]
        have cl : ∀ v, M.1 2 (if k = 0 then 93 + q else if k = 1 then 100 + q else if k = 2 then 107 + q else 114 + q) = v → f_X11_about Z sp_G (nI q) (nI k) M = some (v, M) := by
          intro v hv
          unfold f_X11_about
          rw [p_hasQuarrel1 hn (by omega) hq, Option.bind_some, if_neg (by decide)]
          rcases (show k = 0 ∨ k = 1 ∨ k = 2 ∨ k = 3 by omega) with rfl | rfl | rfl | rfl
          all_goals simp (disch := omega) only [n_addl, n_addr, n_add, n_mull, n_mulr, n_mul, n_sub, n_subr, n_subl, n_cl, n_lt, n_le, n_eq, n_ltl, n_ltr, n_lel, n_ler, n_eqr, n_eql, n_nm1, n_m1n, n_m1lt, n_ltm1, l_ltr, l_ltl, l_ler, l_lel, l_m1lt, l_nneg, if_true, if_false, or_false, false_or, or_true, true_or, and_true, true_and, and_false, false_and, not_true_eq_false, not_false_eq_true, Option.bind_some, Option.bind_none, reduceIte, ltT, ltF, leT, leF, eqT, eqF, nI_lt0]
          all_goals rw [← hv]; rfl
        refine ⟨_, _, _, cl _ rfl, rf _ ?_, hI⟩
        rcases (show k = 0 ∨ k = 1 ∨ k = 2 ∨ k = 3 by omega) with rfl | rfl | rfl | rfl
        · exact p4.1.symm
        · rw [show 95 + 4 * q + 1 = 96 + 4 * q by omega]; exact p4.2.1.symm
        · rw [show 95 + 4 * q + 2 = 97 + 4 * q by omega]; exact p4.2.2.1.symm
        · rw [show 95 + 4 * q + 3 = 98 + 4 * q by omega]; exact p4.2.2.2.symm
    · refine bad ?_ ?_
      · unfold f_X11_about
        rw [p_hasQuarrel1 hn (by omega) hq, Option.bind_some, if_neg (by decide), if_neg (show ¬ a2 = 0 from ne_bad (c := 0) hb (by omega) (by omega) (by omega)), if_neg (show ¬ a2 = 1 from ne_bad (c := 1) hb (by omega) (by omega) (by omega)), if_neg (show ¬ a2 = 2 from ne_bad (c := 2) hb (by omega) (by omega) (by omega)), if_neg (show ¬ a2 = 3 from ne_bad (c := 3) hb (by omega) (by omega) (by omega)), if_neg (show ¬ a2 = 4 from ne_bad (c := 4) hb (by omega) (by omega) (by omega))]
      · unfold f_X12_about
        rw [p_isQuarrel1 n42 (by omega) hq, Option.bind_some, if_neg (by decide), show f_X12_in a2.toInt64 0 4 _ = some 0 from hr _]
        rfl
  · refine bad ?_ ?_
    · unfold f_X11_about
      rw [p_hasQuarrel0 (by rw [show M.1 (1 + 1) 25 = nI n from hn]; exact hb)]
      rfl
    · unfold f_X12_about
      rw [p_isQuarrel0 (by rw [n42]; exact hr)]
      rfl
theorem ob_at : Ob_at az_Inv sp_G := by
  intro m Z M a1 a2 hm h
  obtain ⟨ls, C, R⟩ := h.both hm
  obtain ⟨pr, rg⟩ := h.2.2.1
  have hI := (h.ke (sp_ke_thrown M 0)).mono
  obtain ⟨n, hn, _, hn2⟩ := rg.2.2.2.1.1.nat (by decide) (by decide)
  have n42 : (az_i M 40 0 0).1 42 0 = nI n := pr.2.2.2.1.1.symm.trans hn
  have bad : f_X11_at Z sp_G a1 a2 M = some (-1, M) → f_X12_at sp_G a1 a2 M = some (-1, az_i M 40 0 0) → ∃ (r : Int32) (M1 M2 : az_M), f_X11_at Z sp_G a1 a2 M = some (r, M1) ∧ f_X12_at sp_G a1 a2 M1 = some (r, M2) ∧ az_Inv (m + 1) Z M2 := fun h1 h2 => ⟨_, _, _, h1, h2, hI⟩
  rcases v_cases a1 (n := n) (by omega) with ⟨q, hq, rfl⟩ | ⟨hb, hr⟩
  · have hq' : q < 12 := by omega
    have p4 := pr.2.2.2.2.1 q hq'
    have hc := p_hasPlace1 (o := 1) (M := M) hn (by omega) hq
    rcases r_cases a2 0 6 (by decide) (by decide) with ⟨k, _, hk, rfl⟩ | ⟨hb, hr⟩
    · have hin : ∀ M, f_X12_in (nI k).toInt64 0 6 M = some 1 := fun M => g_in (Nat.zero_le k) hk (by decide) M
      have ref : ∀ M1, sp_cf M M1 → f_X12_isPlace (nI q) (az_i M1 40 0 0) = some 1 := fun M1 g1 => p_isPlace1 (by rw [gi_k (by decide), g1.1 42 (by decide) (by decide)]; exact n42) (by omega) hq
      by_cases h4 : 4 ≤ k
      · rcases (show k = 4 ∨ k = 5 ∨ k = 6 by omega) with rfl | rfl | rfl
        · obtain ⟨M1, f1, g1⟩ := c_ask C (h := 1) (by decide) hq' (p := -1) (Or.inl rfl) (fun h => absurd h (by decide))
          obtain ⟨M2, f2, g2⟩ := r_wears (R M1 g1) hq' (M.1 2 0)
          rw [up_self] at f2
          refine ⟨sp_ask (sp_law (M.1 3 2) ls) (M.1 2) 1 (-1) (nI q), M1, M2, ?_, ?_, h.asked g1 g2⟩
          · unfold f_X11_at
            rw [hc, Option.bind_some, if_neg (by decide), if_neg (by decide), if_neg (by decide), if_neg (by decide), if_neg (by decide), if_pos (by rfl), show f_X8_ask Z sp_G 1 1 (-1) (nI q) M = _ from f1]
            rfl
          · unfold f_X12_at
            rw [ref M1 g1, Option.bind_some, if_neg (by decide), hin, Option.bind_some, if_neg (by decide), if_pos (by rfl), show f_X12_bulletOf 0 _ = some _ from p_bulletOf (k := 0) (by decide) _, Option.bind_some, show (az_i M1 40 0 0).1 42 (11 + 0) = M.1 2 0 by rw [gi_k (by decide), g1.1 42 (by decide) (by decide)]; exact pr.1.1.symm, f2]
            rfl
        · obtain ⟨M1, f1, g1⟩ := c_ask C (h := 2) (by decide) hq' (p := -1) (Or.inl rfl) (fun h => absurd h (by decide))
          obtain ⟨M2, f2, g2⟩ := r_flattens (R M1 g1) hq'
          refine ⟨sp_ask (sp_law (M.1 3 2) ls) (M.1 2) 2 (-1) (nI q), M1, M2, ?_, ?_, h.asked g1 g2⟩
          · unfold f_X11_at
            rw [hc, Option.bind_some, if_neg (by decide), if_neg (by decide), if_neg (by decide), if_neg (by decide), if_neg (by decide), if_neg (by decide), if_pos (by rfl), show f_X8_ask Z sp_G 1 2 (-1) (nI q) M = _ from f1]
            rfl
          · unfold f_X12_at
            rw [ref M1 g1, Option.bind_some, if_neg (by decide), hin, Option.bind_some, if_neg (by decide), if_neg (by decide), if_pos (by rfl), f2]
            rfl
        · obtain ⟨M1, f1, g1⟩ := c_ask C (h := 3) (by decide) hq' (p := -1) (Or.inl rfl) (fun h => absurd h (by decide))
          obtain ⟨M2, f2, g2⟩ := r_prices (R M1 g1) hq'
          refine ⟨sp_ask (sp_law (M.1 3 2) ls) (M.1 2) 3 (-1) (nI q), M1, M2, ?_, ?_, h.asked g1 g2⟩
          · unfold f_X11_at
            rw [hc, Option.bind_some, if_neg (by decide), if_neg (by decide), if_neg (by decide), if_neg (by decide), if_neg (by decide), if_neg (by decide), if_neg (by decide), if_pos (by rfl), show f_X8_ask Z sp_G 1 3 (-1) (nI q) M = _ from f1]
            rfl
          · unfold f_X12_at
            rw [ref M1 g1, Option.bind_some, if_neg (by decide), hin, Option.bind_some, if_neg (by decide), if_neg (by decide), if_neg (by decide), if_pos (by rfl), f2]
            rfl
      · have rf : ∀ v, M.1 42 (17 + 4 * q + k) = v → f_X12_at sp_G (nI q) (nI k) M = some (v, az_i M 40 0 0) := by
          intro v hv
          unfold f_X12_at
          rw [ref M (sp_cf.refl M), Option.bind_some, if_neg (by decide), hin, Option.bind_some, if_neg (by decide)]
          simp (disch := omega) only [n_addl, n_addr, n_add, n_mull, n_mulr, n_mul, n_sub, n_subr, n_subl, n_cl, n_lt, n_le, n_eq, n_ltl, n_ltr, n_lel, n_ler, n_eqr, n_eql, n_nm1, n_m1n, n_m1lt, n_ltm1, l_ltr, l_ltl, l_ler, l_lel, l_m1lt, l_nneg, if_true, if_false, or_false, false_or, or_true, true_or, and_true, true_and, and_false, false_and, not_true_eq_false, not_false_eq_true, Option.bind_some, Option.bind_none, reduceIte, ltT, ltF, leT, leF, eqT, eqF, nI_lt0]
          rw [p_ofPlace (by omega) (by omega), Option.bind_some, gi_k (by decide), hv]
        have cl : ∀ v, M.1 2 (if k = 0 then 27 + q else if k = 1 then 39 + q else if k = 2 then 51 + q else 4 + q) = v → f_X11_at Z sp_G (nI q) (nI k) M = some (v, M) := by
          intro v hv
          unfold f_X11_at
          rw [hc, Option.bind_some, if_neg (by decide)]
          rcases (show k = 0 ∨ k = 1 ∨ k = 2 ∨ k = 3 by omega) with rfl | rfl | rfl | rfl
          all_goals simp (disch := omega) only [n_addl, n_addr, n_add, n_mull, n_mulr, n_mul, n_sub, n_subr, n_subl, n_cl, n_lt, n_le, n_eq, n_ltl, n_ltr, n_lel, n_ler, n_eqr, n_eql, n_nm1, n_m1n, n_m1lt, n_ltm1, l_ltr, l_ltl, l_ler, l_lel, l_m1lt, l_nneg, if_true, if_false, or_false, false_or, or_true, true_or, and_true, true_and, and_false, false_and, not_true_eq_false, not_false_eq_true, Option.bind_some, Option.bind_none, reduceIte, ltT, ltF, leT, leF, eqT, eqF, nI_lt0]
          all_goals rw [← hv]; rfl
        refine ⟨_, _, _, cl _ rfl, rf _ ?_, hI⟩
        rcases (show k = 0 ∨ k = 1 ∨ k = 2 ∨ k = 3 by omega) with rfl | rfl | rfl | rfl
        · exact p4.1.symm
        · rw [show 17 + 4 * q + 1 = 18 + 4 * q by omega]; exact p4.2.1.symm
        · rw [show 17 + 4 * q + 2 = 19 + 4 * q by omega]; exact p4.2.2.1.symm
        · rw [show 17 + 4 * q + 3 = 20 + 4 * q by omega]; exact p4.2.2.2.symm
    · refine bad ?_ ?_
      · unfold f_X11_at
        have ne : ∀ c, c ≤ 6 → ¬ a2 = nI c := fun c hc => ne_bad (c := c) hb (by omega) (by omega) (by omega)
        rw [hc, Option.bind_some, if_neg (by decide), if_neg (show ¬ a2 = 0 from ne 0 (by omega)), if_neg (show ¬ a2 = 1 from ne 1 (by omega)), if_neg (show ¬ a2 = 2 from ne 2 (by omega)), if_neg (show ¬ a2 = 3 from ne 3 (by omega)), if_neg (show ¬ a2 = 4 from ne 4 (by omega)), if_neg (show ¬ a2 = 5 from ne 5 (by omega)), if_neg (show ¬ a2 = 6 from ne 6 (by omega))]
      · unfold f_X12_at
        rw [p_isPlace1 n42 (by omega) hq, Option.bind_some, if_neg (by decide), show f_X12_in a2.toInt64 0 6 _ = some 0 from hr _]
        rfl
  · refine bad ?_ ?_
    · unfold f_X11_at
      rw [p_hasPlace0 (by rw [show M.1 (1 + 1) 23 = nI n from hn]; exact hb)]
      rfl
    · unfold f_X12_at
      rw [p_isPlace0 (by rw [n42]; exact hr)]
      rfl
theorem ob_of : Ob_of az_Inv sp_G := by
  intro m Z M a1 a2 hm h
  obtain ⟨ls, C, R⟩ := h.both hm
  obtain ⟨pr, rg⟩ := h.2.2.1
  have hI := (h.ke (sp_ke_thrown M 0)).mono
  obtain ⟨n, hn, _, hn2⟩ := rg.2.2.2.1.2.1.nat (by decide) (by decide)
  obtain ⟨l, hl, _, hl2⟩ := rg.2.2.2.1.1.nat (by decide) (by decide)
  have n42 : (az_i M 40 0 0).1 42 1 = nI n := pr.2.2.2.1.2.1.symm.trans hn
  have l42 : (az_i M 40 0 0).1 42 0 = nI l := pr.2.2.2.1.1.symm.trans hl
  have bad : f_X11_of Z sp_G a1 a2 M = some (-1, M) → f_X12_of sp_G a1 a2 M = some (-1, az_i M 40 0 0) → ∃ (r : Int32) (M1 M2 : az_M), f_X11_of Z sp_G a1 a2 M = some (r, M1) ∧ f_X12_of sp_G a1 a2 M1 = some (r, M2) ∧ az_Inv (m + 1) Z M2 := fun h1 h2 => ⟨_, _, _, h1, h2, hI⟩
  rcases v_cases a1 (n := n) (by omega) with ⟨k, hk, rfl⟩ | ⟨hb, hr⟩
  · have hk' : k < 10 := by omega
    have p3 := pr.2.2.2.2.2.1 k hk'
    have hc := p_hasPerson1 (o := 1) (M := M) hn (by omega) hk
    have ref : ∀ M1, sp_cf M M1 → f_X12_isPerson (nI k) (az_i M1 40 0 0) = some 1 := fun M1 g1 => p_isPerson1 (by rw [gi_k (by decide), g1.1 42 (by decide) (by decide)]; exact n42) (by omega) hk
    rcases n_cases a2 with hn' | ⟨w, hw, rfl⟩
    · have h0 : ¬ 0 ≤ a2 := by
        rw [Int32.lt_iff_toInt_lt] at hn'; rw [Int32.le_iff_toInt_le]; omega
      refine bad ?_ ?_
      · unfold f_X11_of
        rw [hc, Option.bind_some, if_neg (by decide), if_neg h0]; rfl
      · unfold f_X12_of
        rw [ref M (sp_cf.refl M), Option.bind_some, if_neg (by decide), if_pos hn']; rfl
    · by_cases h3 : w ≤ 3
      · by_cases e3 : w = 3
        · subst e3
          refine ⟨sp_hurt (M.1 2) k, M, az_i M 40 0 0, ?_, ?_, hI⟩
          · unfold f_X11_of f_X11_of_103
            rw [hc, Option.bind_some, if_neg (by decide), if_pos (by decide), if_neg (by decide), if_neg (by decide), if_neg (by decide), if_pos (by rfl), p_isHurt hk', Option.bind_some]
            show (if sp_hurt (M.1 2) k = 0 then _ else _) = _
            unfold sp_hurt
            split
            · rfl
            · rfl
          · unfold f_X12_of f_X12_of_34 f_X12_of_77
            rw [ref M (sp_cf.refl M), Option.bind_some, if_neg (by decide), if_neg (by decide), if_pos (by decide), if_pos (by decide), if_pos (by rfl), r_isHurt (N := M.1 2) hk' (by rw [gi_k (by decide)]; exact pr), Option.bind_some]
            unfold sp_hurt
            split
            · rfl
            · rfl
        · have rf : ∀ v, M.1 42 (65 + 3 * k + w) = v → f_X12_of sp_G (nI k) (nI w) M = some (v, az_i M 40 0 0) := by
            intro v hv
            unfold f_X12_of f_X12_of_34 f_X12_of_77
            rw [ref M (sp_cf.refl M), Option.bind_some, if_neg (by decide)]
            simp (disch := omega) only [n_addl, n_addr, n_add, n_mull, n_mulr, n_mul, n_sub, n_subr, n_subl, n_cl, n_lt, n_le, n_eq, n_ltl, n_ltr, n_lel, n_ler, n_eqr, n_eql, n_nm1, n_m1n, n_m1lt, n_ltm1, l_ltr, l_ltl, l_ler, l_lel, l_m1lt, l_nneg, if_true, if_false, or_false, false_or, or_true, true_or, and_true, true_and, and_false, false_and, not_true_eq_false, not_false_eq_true, Option.bind_some, Option.bind_none, reduceIte, ltT, ltF, leT, leF, eqT, eqF, nI_lt0]
            rw [p_ofPerson hk' (by omega), Option.bind_some, gi_k (by decide), hv]
          have cl : ∀ v, M.1 2 (if w = 0 then 63 + k else if w = 1 then 73 + k else 83 + k) = v → f_X11_of Z sp_G (nI k) (nI w) M = some (v, M) := by
            intro v hv
            unfold f_X11_of
            rw [hc, Option.bind_some, if_neg (by decide)]
            rcases (show w = 0 ∨ w = 1 ∨ w = 2 by omega) with rfl | rfl | rfl
            all_goals simp (disch := omega) only [n_addl, n_addr, n_add, n_mull, n_mulr, n_mul, n_sub, n_subr, n_subl, n_cl, n_lt, n_le, n_eq, n_ltl, n_ltr, n_lel, n_ler, n_eqr, n_eql, n_nm1, n_m1n, n_m1lt, n_ltm1, l_ltr, l_ltl, l_ler, l_lel, l_m1lt, l_nneg, if_true, if_false, or_false, false_or, or_true, true_or, and_true, true_and, and_false, false_and, not_true_eq_false, not_false_eq_true, Option.bind_some, Option.bind_none, reduceIte, ltT, ltF, leT, leF, eqT, eqF, nI_lt0]
            all_goals rw [← hv]; rfl
          refine ⟨_, _, _, cl _ rfl, rf _ ?_, hI⟩
          rcases (show w = 0 ∨ w = 1 ∨ w = 2 by omega) with rfl | rfl | rfl
          · exact p3.1.symm
          · rw [show 65 + 3 * k + 1 = 66 + 3 * k by omega]; exact p3.2.1.symm
          · rw [show 65 + 3 * k + 2 = 67 + 3 * k by omega]; exact p3.2.2.symm
      · have e4 : nI w - 4 = nI (w - 4) := n_subr (by omega)
        rcases v_cases (nI (w - 4)) (n := l) (by omega) with ⟨q, hq, eq⟩ | ⟨hb, hr⟩
        · have hq' : q < 12 := by omega
          obtain ⟨M1, f1, g1⟩ := c_ask C (h := 0) (by decide) hq' (p := nI k) (Or.inr ⟨k, hk', rfl⟩) (fun _ => ⟨k, hk', rfl⟩)
          obtain ⟨M2, f2, g2⟩ := r_aims (R M1 g1) hq' hk'
          refine ⟨sp_ask (sp_law (M.1 3 2) ls) (M.1 2) 0 (nI k) (nI q), M1, M2, ?_, ?_, h.asked g1 g2⟩
          · unfold f_X11_of f_X11_of_137
            rw [hc, Option.bind_some, if_neg (by decide), e4, eq]
            simp (disch := omega) only [n_addl, n_addr, n_add, n_mull, n_mulr, n_mul, n_sub, n_subr, n_subl, n_cl, n_lt, n_le, n_eq, n_ltl, n_ltr, n_lel, n_ler, n_eqr, n_eql, n_nm1, n_m1n, n_m1lt, n_ltm1, l_ltr, l_ltl, l_ler, l_lel, l_m1lt, l_nneg, if_true, if_false, or_false, false_or, or_true, true_or, and_true, true_and, and_false, false_and, not_true_eq_false, not_false_eq_true, Option.bind_some, Option.bind_none, reduceIte, ltT, ltF, leT, leF, eqT, eqF, nI_lt0]
            rw [p_hasPlace1 hl (by omega) hq, Option.bind_some, if_neg (by decide), show f_X8_ask Z sp_G 1 0 (nI k) (nI q) M = _ from f1, Option.bind_some]
          · unfold f_X12_of f_X12_of_34 f_X12_of_77
            rw [ref M1 g1, Option.bind_some, if_neg (by decide), e4, eq]
            simp (disch := omega) only [n_addl, n_addr, n_add, n_mull, n_mulr, n_mul, n_sub, n_subr, n_subl, n_cl, n_lt, n_le, n_eq, n_ltl, n_ltr, n_lel, n_ler, n_eqr, n_eql, n_nm1, n_m1n, n_m1lt, n_ltm1, l_ltr, l_ltl, l_ler, l_lel, l_m1lt, l_nneg, if_true, if_false, or_false, false_or, or_true, true_or, and_true, true_and, and_false, false_and, not_true_eq_false, not_false_eq_true, Option.bind_some, Option.bind_none, reduceIte, ltT, ltF, leT, leF, eqT, eqF, nI_lt0]
            rw [p_isPlace1 (M := az_i M1 40 0 0) (by rw [gi_k (by decide), g1.1 42 (by decide) (by decide)]; exact l42) (by omega) hq, Option.bind_some, if_neg (by decide), f2, Option.bind_some]
        · refine bad ?_ ?_
          · unfold f_X11_of f_X11_of_137
            rw [hc, Option.bind_some, if_neg (by decide), e4]
            simp (disch := omega) only [n_addl, n_addr, n_add, n_mull, n_mulr, n_mul, n_sub, n_subr, n_subl, n_cl, n_lt, n_le, n_eq, n_ltl, n_ltr, n_lel, n_ler, n_eqr, n_eql, n_nm1, n_m1n, n_m1lt, n_ltm1, l_ltr, l_ltl, l_ler, l_lel, l_m1lt, l_nneg, if_true, if_false, or_false, false_or, or_true, true_or, and_true, true_and, and_false, false_and, not_true_eq_false, not_false_eq_true, Option.bind_some, Option.bind_none, reduceIte, ltT, ltF, leT, leF, eqT, eqF, nI_lt0]
            rw [p_hasPlace0 (by rw [show M.1 (1 + 1) 23 = nI l from hl]; exact hb), Option.bind_some, if_pos rfl]
          · unfold f_X12_of
            rw [ref M (sp_cf.refl M), Option.bind_some, if_neg (by decide), e4]
            simp (disch := omega) only [n_addl, n_addr, n_add, n_mull, n_mulr, n_mul, n_sub, n_subr, n_subl, n_cl, n_lt, n_le, n_eq, n_ltl, n_ltr, n_lel, n_ler, n_eqr, n_eql, n_nm1, n_m1n, n_m1lt, n_ltm1, l_ltr, l_ltl, l_ler, l_lel, l_m1lt, l_nneg, if_true, if_false, or_false, false_or, or_true, true_or, and_true, true_and, and_false, false_and, not_true_eq_false, not_false_eq_true, Option.bind_some, Option.bind_none, reduceIte, ltT, ltF, leT, leF, eqT, eqF, nI_lt0]
            rw [p_isPlace0 (by rw [l42]; exact hr), Option.bind_some, if_pos rfl]; rfl
  · refine bad ?_ ?_
    · unfold f_X11_of
      rw [p_hasPerson0 (by rw [show M.1 (1 + 1) 24 = nI n from hn]; exact hb)]
      rfl
    · unfold f_X12_of
      rw [p_isPerson0 (by rw [n42]; exact hr)]
      rfl
