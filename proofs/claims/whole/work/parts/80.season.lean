/-! a season -/
theorem Pair.days {Z : az_S × Nat} {B o : Nat} {inF : Int32} {ls : Nat → sp_L} {N : Nat → Int32} {M Mr : az_M} (P : Pair Z B o inF ls N M Mr) (ho : o + 1 ≠ 3 ∧ o + 1 < 71 ∧ o + 1 ≠ 19) {n : Nat} (hn : n < 1000) : ∃ M' Mr' N', f_X4_passDays o (nI n) M = some M' ∧ f_X12_goDays (nI n) Mr = some Mr' ∧ Pair Z B o inF ls N' M' Mr' ∧ sp_hc o M M' ∧ sp_fq Mr Mr' ∧ M'.1 19 = M.1 19 ∧ (∀ j, j ≠ 2 → j ≠ 16 → N' j = N j) := by
  obtain ⟨d, hd, _, hd2⟩ := P.cls.rg.2.1.1.nat (by decide) (by decide)
  obtain ⟨r, hr, _, hr2⟩ := P.cls.rg.1.2.2.1.nat (by decide) (by decide)
  have hc : sp_hc o M (ro M (o + 1) (dN N d r n)) := ⟨fun k _ _ _ h => ro_ne h, rfl⟩
  have fq : sp_fq Mr (ro Mr 42 (dR (Mr.1 42) d r n)) := (sp_fq.refl Mr).row (fun j hj => by unfold dR; rw [up_ne (by omega), up_ne (by omega)])
  have rg := dN_rg P.cls.rg (show d ≤ 999 by omega) (show r ≤ 99 by omega) n
  have pr := dN_pr P.ref.pr P.cls.rg.q7 d r n
  refine ⟨_, _, dN N d r n, ?_, p_goDays (d := d) (r := r) ((P.ref.pr.2.1 0 (by decide)).symm.trans hd) (P.ref.pr.1.2.2.1.symm.trans hr) (by omega) (by omega) (by omega), ⟨P.cls.hc ⟨ho.1, ho.2.1⟩ hc (ro_eq _ _ _) rg P.cls.hB, P.ref.fq fq (by rw [ro_eq]; exact pr) rg P.cls.hB, ?_⟩, hc, fq, ro_ne (Ne.symm ho.2.2), ?_⟩
  · rw [p_passDays, P.cls.row, sp_days_nat hd hr (by omega) (by omega) (by omega)]
  · have := P.wl
    unfold sp_wl at this ⊢
    unfold dN
    rw [up_ne (by omega), up_ne (by omega), up_ne (by omega), up_ne (by omega), up_ne (by omega), up_ne (by omega)]
    exact this
  · intro j h2 h16; unfold dN; rw [up_ne h2, up_ne h16]
theorem season_loop {Z : az_S × Nat} {inF : Int32} {ls : Nat → sp_L} {d : Nat} (hd : d ≤ 30) :
    ∀ (e i : Nat), i + e = d → ∀ (F F' : Nat), e < F → e < F' → ∀ (B : Nat) (N : Nat → Int32) (M Mr : az_M) (s c : Nat), Pair Z B 30 inF ls N M Mr → M.1 19 0 = nI s → Mr.2.1 40 41 = lI s → s ≤ 1000002 → c ≤ i → B + 8 * e ≤ 1000000000 →
    ∃ G1 G2 c' M' Mr' N', f_X2_drawSeason_24 Z sp_G F (nI d) (nI c) (nI i) M = f_X2_drawSeason_24 Z sp_G (G1 + 1) (nI d) (nI c') (nI d) M' ∧ f_X12_season_57 sp_G F' (nI d) (nI c) (nI i) Mr = f_X12_season_57 sp_G (G2 + 1) (nI d) (nI c') (nI d) Mr' ∧ c' ≤ d ∧ Pair Z (B + 8 * e) 30 inF ls N' M' Mr' ∧ sp_hc 30 M M' ∧ sp_fd Mr Mr' := by
  intro e
  induction e with
  | zero =>
    intro i hi F F' hF hF' B N M Mr s c P s1 s2 s3 hc hB
    obtain ⟨F, rfl⟩ : ∃ F1, F = F1 + 1 := ⟨F - 1, by omega⟩
    obtain ⟨F', rfl⟩ : ∃ F1, F' = F1 + 1 := ⟨F' - 1, by omega⟩
    obtain rfl : i = d := by omega
    exact ⟨F, F', c, M, Mr, N, rfl, rfl, hc, P, sp_hc.refl 30 M, sp_fd.refl Mr⟩
  | succ e ih =>
    intro i hi F F' hF hF' B N M Mr s c P s1 s2 s3 hc hB
    obtain ⟨F, rfl⟩ : ∃ F1, F = F1 + 1 := ⟨F - 1, by omega⟩
    obtain ⟨F', rfl⟩ : ∃ F1, F' = F1 + 1 := ⟨F' - 1, by omega⟩
    obtain ⟨n, hn, _, hn2⟩ := P.cls.rg.2.2.2.1.2.2.1.nat (by decide) (by decide)
    have r31 : M.1 31 25 = nI n := by have := P.cls.row; rw [show M.1 31 = N from this]; exact hn
    have r42 : Mr.1 42 2 = nI n := P.ref.pr.2.2.2.1.2.2.1.symm.trans hn
    -- go on
    have next : ∀ (B1 : Nat) (N1 : Nat → Int32) (M1 Mr1 : az_M) (t c1 : Nat), Pair Z B1 30 inF ls N1 M1 Mr1 → B1 ≤ B + 8 → M1.1 19 0 = nI t → Mr1.2.1 40 41 = lI t → t ≤ 1000002 → c1 ≤ i + 1 → sp_hc 30 M M1 → sp_fd Mr Mr1 →
        f_X2_drawSeason_24 Z sp_G (F + 1) (nI d) (nI c) (nI i) M = f_X2_drawSeason_24 Z sp_G F (nI d) (nI c1) (nI (i + 1)) M1 → f_X12_season_57 sp_G (F' + 1) (nI d) (nI c) (nI i) Mr = f_X12_season_57 sp_G F' (nI d) (nI c1) (nI (i + 1)) Mr1 →
        ∃ G1 G2 c' M' Mr' N', f_X2_drawSeason_24 Z sp_G (F + 1) (nI d) (nI c) (nI i) M = f_X2_drawSeason_24 Z sp_G (G1 + 1) (nI d) (nI c') (nI d) M' ∧ f_X12_season_57 sp_G (F' + 1) (nI d) (nI c) (nI i) Mr = f_X12_season_57 sp_G (G2 + 1) (nI d) (nI c') (nI d) Mr' ∧ c' ≤ d ∧ Pair Z (B + 8 * (e + 1)) 30 inF ls N' M' Mr' ∧ sp_hc 30 M M' ∧ sp_fd Mr Mr' := by
      intro B1 N1 M1 Mr1 t c1 P1 hB1 t1 t2 t3 hc1 h1 h2 e1 e2
      obtain ⟨G1, G2, c', M', Mr', N', a1, a2, a3, a4, a5, a6⟩ := ih (i + 1) (by omega) F F' (by omega) (by omega) (B + 8) N1 M1 Mr1 t c1 (P1.mono hB1 (by omega)) t1 t2 t3 hc1 (by omega)
      refine ⟨G1, G2, c', M', Mr', N', e1.trans a1, e2.trans a2, a3, ?_, h1.trans a5, h2.trans a6⟩
      rw [show B + 8 * (e + 1) = B + 8 + 8 * e by omega]; exact a4
    have days : ∀ (N1 : Nat → Int32) (M1 Mr1 : az_M) (t : Nat), Pair Z B 30 inF ls N1 M1 Mr1 → M1.1 19 0 = nI t → Mr1.2.1 40 41 = lI t → t ≤ 1000002 → sp_hc 30 M M1 → sp_fd Mr Mr1 →
        f_X2_drawSeason_24 Z sp_G (F + 1) (nI d) (nI c) (nI i) M = f_X2_drawSeason_122 Z sp_G (f_X2_drawSeason_24 Z sp_G F) (nI d) (nI c) (nI i) M1 → f_X12_season_57 sp_G (F' + 1) (nI d) (nI c) (nI i) Mr = f_X12_season_134 sp_G (f_X12_season_57 sp_G F') (nI d) (nI c) (nI i) Mr1 →
        ∃ G1 G2 c' M' Mr' N', f_X2_drawSeason_24 Z sp_G (F + 1) (nI d) (nI c) (nI i) M = f_X2_drawSeason_24 Z sp_G (G1 + 1) (nI d) (nI c') (nI d) M' ∧ f_X12_season_57 sp_G (F' + 1) (nI d) (nI c) (nI i) Mr = f_X12_season_57 sp_G (G2 + 1) (nI d) (nI c') (nI d) Mr' ∧ c' ≤ d ∧ Pair Z (B + 8 * (e + 1)) 30 inF ls N' M' Mr' ∧ sp_hc 30 M M' ∧ sp_fd Mr Mr' := by
      intro N1 M1 Mr1 t P1 t1 t2 t3 h1 h2 e1 e2
      obtain ⟨M2, Mr2, N2, k1, k2, P2, hc2, fq2, h19, _⟩ := P1.days (by decide) (n := 3) (by decide)
      refine next B N2 M2 Mr2 t c P2 (by omega) (by rw [h19]; exact t1) (by rw [fq2.2.2.2.1 41 (by decide) (by decide)]; exact t2) t3 (by omega) (h1.trans hc2) (h2.trans fq2.fd) ?_ ?_
      · rw [e1]; unfold f_X2_drawSeason_122 f_X2_drawSeason_130
        rw [show f_X4_passDays 30 3 M1 = some M2 from k1, Option.bind_some, n_addr]
      · rw [e2]; unfold f_X12_season_134 f_X12_season_139
        rw [show f_X12_goDays 3 Mr1 = some Mr2 from k2, Option.bind_some, n_addr]
    by_cases h0 : n = 0
    · subst h0
      refine days N M Mr s P s1 s2 s3 (sp_hc.refl 30 M) (sp_fd.refl Mr) ?_ ?_
      · rw [f_X2_drawSeason_24, r31, if_neg (by rw [n_le (by omega) (by omega)]; omega), if_pos (by decide)]
        unfold f_X2_drawSeason_60
        rw [if_pos rfl]
      · rw [f_X12_season_57, r42, if_neg (by rw [n_le (by omega) (by omega)]; omega), if_pos (by decide)]
        unfold f_X12_season_86
        rw [if_pos rfl]
    · have d1 := p_draw (p := n) s1 s3 (by omega) (by omega)
      have d2 := r_draw (p := n) s2 s3 (by omega) (by omega)
      have hqn : sp_sd s % n < n := Nat.mod_lt _ (by omega)
      have hcd : sp_hc 30 M (ro M 19 (up (M.1 19) 0 (nI (sp_sd s)))) := ⟨fun k _ h _ _ => ro_ne h, rfl⟩
      have hfd := sp_fd_seed Mr (lI (sp_sd s))
      have P1 : Pair Z B 30 inF ls N (ro M 19 (up (M.1 19) 0 (nI (sp_sd s)))) (az_l Mr 40 41 (lI (sp_sd s))) :=
        ⟨P.cls.hc (by decide) hcd (by rw [ro_ne (by decide)]; exact P.cls.row) P.cls.rg P.cls.hB, P.ref.fd hfd P.ref.pr P.ref.rg P.ref.hB, P.wl⟩
      have hq' : sp_sd s % n < (N 25).toNatClampNeg := by rw [hn, n_cl (by omega)]; exact hqn
      obtain ⟨M2, f2, g2⟩ := p_canBeHad P1.cls hq'
      obtain ⟨M3, f3, g3⟩ := r_canHave P1.ref hq'
      have P2 : Pair Z B 30 inF ls N M2 M3 := ⟨P1.cls.cf g2, P1.ref.fr g3, P.wl⟩
      have t1 : M2.1 19 0 = nI (sp_sd s) := by rw [g2.1 19 (by decide) (by decide), ro_eq, up_eq]
      have t2 : M3.2.1 40 41 = lI (sp_sd s) := by rw [g3.2.2.2.1 41 (by decide) (by decide), gl, if_pos rfl, if_pos rfl]
      have hc2 := hcd.trans (g2.hc 30)
      have fd2 := hfd.trans g3.fq.fd
      have hcls : f_X2_drawSeason_24 Z sp_G (F + 1) (nI d) (nI c) (nI i) M = (if sp_had (sp_law inF ls) N (sp_sd s % n) = 0 then f_X2_drawSeason_122 Z sp_G (f_X2_drawSeason_24 Z sp_G F) (nI d) (nI c) (nI i) M2 else ((f_X8_hold Z sp_G 30 (nI (sp_sd s % n)) M2).bind fun q11 => (if q11.1 = 1 then f_X2_drawSeason_24 Z sp_G F (nI d) (nI (c + 1)) (nI (i + 1)) q11.2 else (if q11.1 = 2 then f_X2_drawSeason_24 Z sp_G F (nI d) (nI (c + 1)) (nI (i + 1)) q11.2 else f_X2_drawSeason_24 Z sp_G F (nI d) (nI c) (nI (i + 1)) q11.2)))) := by
        rw [f_X2_drawSeason_24, r31, if_neg (by rw [n_le (by omega) (by omega)]; omega), if_neg (show ¬ nI n ≤ 0 by intro hE; have := (n_le (a := n) (b := 0) (by omega) (by omega)).mp hE; omega), d1, Option.bind_some]
        unfold f_X2_drawSeason_60 f_X2_drawSeason_112 f_X2_drawSeason_117 f_X2_drawSeason_130
        rw [if_neg (by rw [n_nm1 (by omega)]; exact not_false), f2, Option.bind_some, n_addr, n_addr, show nI c + 0 = nI c from (n_add c 0)]
      have href : f_X12_season_57 sp_G (F' + 1) (nI d) (nI c) (nI i) Mr = (if sp_had (sp_law inF ls) N (sp_sd s % n) = 0 then f_X12_season_134 sp_G (f_X12_season_57 sp_G F') (nI d) (nI c) (nI i) M3 else ((f_X12_have sp_G (nI (sp_sd s % n)) M3).bind fun q17 => (if q17.1 = 1 then f_X12_season_57 sp_G F' (nI d) (nI (c + 1)) (nI (i + 1)) q17.2 else (if q17.1 = 2 then f_X12_season_57 sp_G F' (nI d) (nI (c + 1)) (nI (i + 1)) q17.2 else f_X12_season_57 sp_G F' (nI d) (nI c) (nI (i + 1)) q17.2)))) := by
        rw [f_X12_season_57, r42, if_neg (by rw [n_le (by omega) (by omega)]; omega), if_neg (show ¬ nI n ≤ 0 by intro hE; have := (n_le (a := n) (b := 0) (by omega) (by omega)).mp hE; omega), d2, Option.bind_some]
        unfold f_X12_season_86 f_X12_season_124 f_X12_season_129 f_X12_season_139
        rw [if_neg (by rw [n_nm1 (by omega)]; exact not_false), f3, Option.bind_some, n_addr, n_addr, show nI c + 0 = nI c from (n_add c 0)]
      by_cases hh : sp_had (sp_law inF ls) N (sp_sd s % n) = 0
      · rw [if_pos hh] at hcls href
        exact days N M2 M3 (sp_sd s) P2 t1 t2 (sp_sd_lt s) hc2 fd2 hcls href
      · rw [if_neg hh] at hcls href
        obtain ⟨r, M5, M6, N', s', a1, a2, a3, a4, a5, a6, a7, a8, a9⟩ := P2.hold (by decide) hq' t1 t2 (sp_sd_lt s) (by omega)
        rw [a1, Option.bind_some] at hcls
        rw [a2, Option.bind_some] at href
        rcases (show (r = 1 ∨ r = 2) ∨ (¬ r = 1 ∧ ¬ r = 2) by rcases a3 with rfl | rfl | rfl | rfl <;> simp) with hr | ⟨hr1, hr2⟩
        · refine next (B + 8) N' M5 M6 s' (c + 1) a4 (by omega) a7 a8 a9 (by omega) (hc2.trans a5) (fd2.trans a6) ?_ ?_
          · rw [hcls]; rcases hr with rfl | rfl
            · rw [if_pos rfl]
            · rw [if_neg (show ¬ (2 : Int32) = 1 by decide), if_pos rfl]
          · rw [href]; rcases hr with rfl | rfl
            · rw [if_pos rfl]
            · rw [if_neg (show ¬ (2 : Int32) = 1 by decide), if_pos rfl]
        · refine next (B + 8) N' M5 M6 s' c a4 (by omega) a7 a8 a9 (by omega) (hc2.trans a5) (fd2.trans a6) ?_ ?_
          · rw [hcls, if_neg hr1, if_neg hr2]
          · rw [href, if_neg hr1, if_neg hr2]
/-- what was kept aside comes back whole -/
theorem r_back_same {R R' U : Nat → Int32} {q : Nat} (hU : ∀ j, j < 150 → U (150 * q + j) = R j) (h : ∀ j, j = 4 ∨ j = 5 ∨ 150 ≤ j → R' j = R j) : r_back R' U q = R := by
  funext j
  unfold r_back
  by_cases h1 : j < 150 ∧ j ≠ 4 ∧ j ≠ 5
  · rw [if_pos h1, hU j h1.1]
  · rw [if_neg h1, h j (by omega)]
theorem p_copy (o a : Nat) (M : az_M) : f_X4_copy o a M = some (ro M (o + 1) (cpy (M.1 (a + 1)) (M.1 (o + 1)) 0 0 145)) := by
  unfold f_X4_copy; rw [az_cp_ro]; rfl
theorem cpy_same {N T : Nat → Int32} : ∀ j, j < 145 → cpy N T 0 0 145 j = N j := fun j hj => by rw [cpy_in (by omega), Nat.sub_zero, Nat.zero_add]

theorem season_end {F x3 : Nat} {d : Int32} {Mr : az_M} (hx : x3 ≤ 30) : ∃ M4, f_X12_season_57 sp_G (F + 1) d (nI x3) d Mr = some (nI x3, M4) ∧ M4.1 42 = r_back (Mr.1 42) (Mr.1 45) 16 ∧ (∀ k, k ≠ 40 → k ≠ 42 → k ≠ 70 → M4.1 k = Mr.1 k) ∧ (∀ j, j ≠ 1 → M4.1 40 j = Mr.1 40 j) ∧ M4.1 40 1 = 0 ∧ M4.2 = Mr.2 ∧ M4.1 70 0 = Mr.1 42 11 ∧ M4.1 70 1 = Mr.1 42 12 ∧ M4.1 70 2 = Mr.1 42 13 ∧ M4.1 70 3 = Mr.1 42 14 ∧ M4.1 70 4 = Mr.1 42 6 ∧ M4.1 70 5 = Mr.1 42 2 := by
  have st : ∀ (F i : Nat) (h : Nat → Int32), i < 4 → f_X12_season_148 sp_G (F + 1) (nI x3) (nI i) (ro Mr 70 h) = f_X12_season_148 sp_G F (nI x3) (nI (i + 1)) (ro Mr 70 (up h i (Mr.1 42 (11 + i)))) := by
    intro F i h hi
    rw [f_X12_season_148, p_bulletOf (by omega), Option.bind_some, ro_ne (by decide)]
    simp (disch := omega) only [n_addl, n_addr, n_add, n_mull, n_mulr, n_mul, n_sub, n_subr, n_subl, n_cl, n_lt, n_le, n_eq, n_ltl, n_ltr, n_lel, n_ler, n_eqr, n_eql, n_nm1, n_m1n, n_m1lt, n_ltm1, l_ltr, l_ltl, l_ler, l_lel, l_m1lt, l_nneg, if_true, if_false, or_false, false_or, or_true, true_or, and_true, true_and, and_false, false_and, not_true_eq_false, not_false_eq_true, Option.bind_some, Option.bind_none, reduceIte, ltT, ltF, leT, leF, eqT, eqF, nI_lt0, az_i_ro, ro_eq, ro_ro]
  have en : ∀ (F : Nat) (h : Nat → Int32), f_X12_season_148 sp_G (F + 1) (nI x3) (nI 4) (ro Mr 70 h) = some (nI x3, az_i (ro (ro Mr 70 (up (up h 4 (Mr.1 42 6)) 5 (Mr.1 42 2))) 42 (r_back (Mr.1 42) (Mr.1 45) 16)) 40 1 0) := by
    intro F h
    have e1 : ∀ x y, az_i (az_i (ro Mr 70 h) 70 4 x) 70 5 y = ro Mr 70 (up (up h 4 x) 5 y) := fun x y => by
      rw [az_i_ro (ro Mr 70 h), ro_eq, ro_ro, az_i_ro, ro_eq, ro_ro]
    have e2 : ∀ x, (az_i (ro Mr 70 h) 70 4 x).1 42 2 = Mr.1 42 2 := fun x => by rw [gi_k (by decide), ro_ne (by decide)]
    rw [f_X12_season_148, if_pos (by decide), show ∀ M, f_X12_term 0 M = some (M.1 42 6) from fun M => p_term (k := 0) (by decide) M, Option.bind_some, ro_ne (by decide), e2, e1, show ∀ M, f_X12_putBack sp_G 16 M = some (ro M 42 (r_back (M.1 42) (M.1 45) 16)) from fun M => p_putBack (q := 16) (by decide) M, Option.bind_some, p_tell (nI_pos' (by omega)), Option.bind_some, ro_ne (by decide), ro_ne (by decide)]
  refine ⟨az_i (ro (ro Mr 70 (up (up (up (up (up (up (Mr.1 70) 0 (Mr.1 42 (11 + 0))) 1 (Mr.1 42 (11 + 1))) 2 (Mr.1 42 (11 + 2))) 3 (Mr.1 42 (11 + 3))) 4 (Mr.1 42 6)) 5 (Mr.1 42 2))) 42 (r_back (Mr.1 42) (Mr.1 45) 16)) 40 1 0, ?_, ?_, fun k h1 h2 h3 => ?_, fun j hj => ?_, ?_, ?_, ?_, ?_, ?_, ?_, ?_, ?_⟩
  · rw [f_X12_season_57, if_pos (by rw [Int32.le_iff_toInt_le]; omega)]
    show f_X12_season_148 sp_G (999995 + 1 + 1 + 1 + 1 + 1) (nI x3) (nI 0) Mr = _
    refine (congrArg (f_X12_season_148 sp_G (999995 + 1 + 1 + 1 + 1 + 1) (nI x3) (nI 0)) (ro_self Mr 70).symm).trans ?_
    rw [st _ 0 _ (by decide), st _ 1 _ (by decide), st _ 2 _ (by decide), st _ 3 _ (by decide), en]
  · rw [gi_k (by decide), ro_eq]
  · rw [gi_k h1, ro_ne h2, ro_ne h3]
  · rw [gi, if_pos rfl, if_neg hj, ro_ne (by decide), ro_ne (by decide)]
  · rw [gi, if_pos rfl, if_pos rfl]
  · rfl
  · rfl
  · rfl
  · rfl
  · rfl
  · rfl
  · rfl
