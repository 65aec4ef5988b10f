theorem Pair.mono {Z : az_S × Nat} {B B' o : Nat} {inF : Int32} {ls : Nat → sp_L} {N : Nat → Int32} {M Mr : az_M} (P : Pair Z B o inF ls N M Mr) (h : B ≤ B') (hB : B' ≤ 1000000000) : Pair Z B' o inF ls N M Mr :=
  ⟨⟨P.cls.bk, P.cls.inF, P.cls.row, P.cls.rg.mono h, hB, P.cls.ho⟩, ⟨P.ref.bk, P.ref.h20, P.ref.pr, P.ref.rg.mono h, hB⟩, P.wl.mono h⟩
theorem hold_stop {Z : az_S × Nat} {o F : Nat} {x2 x3 x4 x5 r x7 : Int32} {M : az_M} (hr : ¬ r = 0) : f_X8_hold_38 Z sp_G o (F + 1) x2 x3 x4 x5 r x7 M = f_X8_hold_188 Z sp_G o x2 r M := by
  rw [f_X8_hold_38, if_neg hr]
  split <;> rfl
theorem have_stop {F : Nat} {x1 x2 r x4 : Int32} {M : az_M} (hr : ¬ r = 0) : f_X12_have_12 sp_G (F + 1) x1 x2 r x4 M = f_X12_have_145 sp_G x1 r M := by
  rw [f_X12_have_12, if_neg hr, show f_X12_term 1 M = some (M.1 42 7) from p_term (k := 1) (by decide) M, Option.bind_some]
  split <;> rfl
theorem n_mod2 {i : Nat} (h : i < 1000) : az_rem (nI i) 2 = nI (i % 2) := n_remr (c := 2) (by omega) (by decide)
theorem hold_loop {Z : az_S × Nat} {o : Nat} {inF : Int32} {ls : Nat → sp_L} {q n rd a b w : Nat} (ho : o + 1 ≠ 3 ∧ o + 1 < 71 ∧ o + 1 ≠ 19) (hq : q < n) (h7 : n ≤ 7) (ha : a < 10) (hb : b < 10) (hw : w < 12) (hrd : rd ≤ 4) :
    ∀ (e i : Nat), i + e = 2 * rd → ∀ (F F' : Nat), e < F → e < F' → ∀ (B : Nat) (N : Nat → Int32) (M Mr : az_M) (s : Nat), Pair Z B o inF ls N M Mr → Q5 N q n rd a b w → M.1 19 0 = nI s → Mr.2.1 40 41 = lI s → s ≤ 1000002 → B + e ≤ 1000000000 →
    ∃ r M' Mr' N' s', f_X8_hold_38 Z sp_G o F (nI q) (nI a) (nI b) (nI w) 0 (nI i) M = some (r, M') ∧ f_X12_have_12 sp_G F' (nI q) (nI w) 0 (nI i) Mr = some (r, Mr') ∧ (r = 0 ∨ r = 1 ∨ r = 2 ∨ r = 3) ∧ Pair Z (B + e) o inF ls N' M' Mr' ∧ sp_hc o M M' ∧ sp_fd Mr Mr' ∧ M'.1 19 0 = nI s' ∧ Mr'.2.1 40 41 = lI s' ∧ s' ≤ 1000002 := by
  intro e
  induction e with
  | zero =>
    intro i hi F F' hF hF' B N M Mr s P Q s1 s2 s3 hB
    obtain ⟨F, rfl⟩ : ∃ F1, F = F1 + 1 := ⟨F - 1, by omega⟩
    obtain ⟨F', rfl⟩ : ∃ F1, F' = F1 + 1 := ⟨F' - 1, by omega⟩
    obtain ⟨M', Mr', h1, h2, P', hc, fq, h19⟩ := P.drop ho Q.n hq h7 0
    refine ⟨0, M', Mr', _, s, ?_, ?_, Or.inl rfl, P', hc, fq.fd, by rw [h19]; exact s1, ?_, s3⟩
    · rw [f_X8_hold_38, P.cls.row, Q.rd]
      simp (disch := omega) only [n_addl, n_addr, n_add, n_mull, n_mulr, n_mul, n_sub, n_subr, n_subl, n_cl, n_lt, n_le, n_eq, n_ltl, n_ltr, n_lel, n_ler, n_eqr, n_eql, n_nm1, n_m1n, n_m1lt, n_ltm1, l_ltr, l_ltl, l_ler, l_lel, l_m1lt, l_nneg, if_true, if_false, or_false, false_or, or_true, true_or, and_true, true_and, and_false, false_and, not_true_eq_false, not_false_eq_true, Option.bind_some, Option.bind_none, reduceIte, ltT, ltF, leT, leF, eqT, eqF, nI_lt0]
      exact h1
    · rw [f_X12_have_12, show f_X12_term 1 Mr = some (nI rd) from (p_term (k := 1) (by decide) Mr).trans (congrArg some ((P.ref.pr.2.1 1 (by decide)).symm.trans Q.rd)), Option.bind_some]
      simp (disch := omega) only [n_addl, n_addr, n_add, n_mull, n_mulr, n_mul, n_sub, n_subr, n_subl, n_cl, n_lt, n_le, n_eq, n_ltl, n_ltr, n_lel, n_ler, n_eqr, n_eql, n_nm1, n_m1n, n_m1lt, n_ltm1, l_ltr, l_ltl, l_ler, l_lel, l_m1lt, l_nneg, if_true, if_false, or_false, false_or, or_true, true_or, and_true, true_and, and_false, false_and, not_true_eq_false, not_false_eq_true, Option.bind_some, Option.bind_none, reduceIte, ltT, ltF, leT, leF, eqT, eqF, nI_lt0]
      exact h2
    · rw [fq.2.2.2.1 41 (by decide) (by decide)]; exact s2
  | succ e ih =>
    intro i hi F F' hF hF' B N M Mr s P Q s1 s2 s3 hB
    obtain ⟨F, rfl⟩ : ∃ F1, F = F1 + 1 := ⟨F - 1, by omega⟩
    obtain ⟨F', rfl⟩ : ∃ F1, F' = F1 + 1 := ⟨F' - 1, by omega⟩
    have hq7 : q < (N 25).toNatClampNeg := by rw [Q.n, n_cl (by omega)]; exact hq
    -- whose turn it is
    have key : ∀ (x y : Nat) (t : Int32), ((i % 2 = 0 ∧ x = a ∧ y = b ∧ t = 1) ∨ (i % 2 = 1 ∧ x = b ∧ y = a ∧ t = 0)) → ∃ r M' Mr' N' s', f_X8_hold_82 Z sp_G o (f_X8_hold_38 Z sp_G o F) (nI q) (nI a) (nI b) (nI w) 0 (nI i) t (nI x) M = some (r, M') ∧ f_X12_have_12 sp_G (F' + 1) (nI q) (nI w) 0 (nI i) Mr = some (r, Mr') ∧ (r = 0 ∨ r = 1 ∨ r = 2 ∨ r = 3) ∧ Pair Z (B + (e + 1)) o inF ls N' M' Mr' ∧ sp_hc o M M' ∧ sp_fd Mr Mr' ∧ M'.1 19 0 = nI s' ∧ Mr'.2.1 40 41 = lI s' ∧ s' ≤ 1000002 := by
      intro x y t hxy
      have hx : x < 10 := by omega
      have hy : y < 10 := by omega
      have pq := P.ref.pr.2.2.2.2.2.2.1 q hq7
      have o1 : f_X12_ofQuarrel (nI q) (az_rem (nI i) 2) Mr = some (nI x) := by
        rw [n_mod2 (by omega), p_ofQuarrel (by omega) (by omega)]
        rcases hxy with ⟨h, rfl, rfl, _⟩ | ⟨h, rfl, rfl, _⟩
        · rw [h, show 95 + 4 * q + 0 = 95 + 4 * q by omega, ← pq.1, Q.a]
        · rw [h, show 95 + 4 * q + 1 = 96 + 4 * q by omega, ← pq.2.1, Q.b]
      have o2 : f_X12_ofQuarrel (nI q) (1 - az_rem (nI i) 2) Mr = some (nI y) := by
        rw [n_mod2 (by omega), n_subl (by omega), p_ofQuarrel (by omega) (by omega)]
        rcases hxy with ⟨h, rfl, rfl, _⟩ | ⟨h, rfl, rfl, _⟩
        · rw [h, show 95 + 4 * q + (1 - 0) = 96 + 4 * q by omega, ← pq.2.1, Q.b]
        · rw [h, show 95 + 4 * q + (1 - 1) = 95 + 4 * q by omega, ← pq.1, Q.a]
      have href : f_X12_have_12 sp_G (F' + 1) (nI q) (nI w) 0 (nI i) Mr = (if sp_can N = 0 then f_X12_have_12 sp_G F' (nI q) (nI w) 3 (nI (i + 1)) Mr else ((f_X12_draw 10 Mr).bind fun q14 => ((f_X12_aimsOf sp_G (nI x) (nI w) q14.2).bind fun q16 => (if q16.1 ≤ q14.1 then ((f_X12_ofPerson (nI x) 1 q16.2).bind fun q19 => ((f_X12_shoot sp_G q19 (nI w) q16.2).bind fun q21 => f_X12_have_12 sp_G F' (nI q) (nI w) 0 (nI (i + 1)) q21)) else ((f_X12_term 0 q16.2).bind fun q23 => ((f_X12_note sp_G (nI (12 + y)) (az_i q16.2 42 (65 + 3 * y + 2) (q23 + 7))).bind fun q26 => f_X12_have_12 sp_G F' (nI q) (nI w) (if i % 2 = 0 then 1 else 2) (nI (i + 1)) q26)))))) := by
        rw [f_X12_have_12, show f_X12_term 1 Mr = some (nI rd) from (p_term (k := 1) (by decide) Mr).trans (congrArg some ((P.ref.pr.2.1 1 (by decide)).symm.trans Q.rd)), Option.bind_some, o1, Option.bind_some, o2, Option.bind_some, p_canFire' P.ref.pr, Option.bind_some]
        unfold f_X12_have_139 f_X12_have_123 f_X12_have_139
        rw [n_mod2 (by omega)]
        simp (disch := omega) only [n_addl, n_addr, n_add, n_mull, n_mulr, n_mul, n_sub, n_subr, n_subl, n_cl, n_lt, n_le, n_eq, n_ltl, n_ltr, n_lel, n_ler, n_eqr, n_eql, n_nm1, n_m1n, n_m1lt, n_ltm1, l_ltr, l_ltl, l_ler, l_lel, l_m1lt, l_nneg, if_true, if_false, or_false, false_or, or_true, true_or, and_true, true_and, and_false, false_and, not_true_eq_false, not_false_eq_true, Option.bind_some, Option.bind_none, reduceIte, ltT, ltF, leT, leF, eqT, eqF, nI_lt0]
        rcases hxy with ⟨h, _⟩ | ⟨h, _⟩
        · simp only [h, if_true]
        · simp only [h, Nat.one_ne_zero, if_false]
      have fin : ∀ (r : Int32) (N1 : Nat → Int32) (M1 Mr1 : az_M) (s' : Nat), (r = 1 ∨ r = 2 ∨ r = 3) → Pair Z B o inF ls N1 M1 Mr1 → N1 25 = nI n → sp_hc o M M1 → sp_fd Mr Mr1 → M1.1 19 0 = nI s' → Mr1.2.1 40 41 = lI s' → s' ≤ 1000002 →
          f_X8_hold_82 Z sp_G o (f_X8_hold_38 Z sp_G o F) (nI q) (nI a) (nI b) (nI w) 0 (nI i) t (nI x) M = f_X8_hold_38 Z sp_G o F (nI q) (nI a) (nI b) (nI w) r (nI (i + 1)) M1 → f_X12_have_12 sp_G (F' + 1) (nI q) (nI w) 0 (nI i) Mr = f_X12_have_12 sp_G F' (nI q) (nI w) r (nI (i + 1)) Mr1 →
          ∃ r M' Mr' N' s', f_X8_hold_82 Z sp_G o (f_X8_hold_38 Z sp_G o F) (nI q) (nI a) (nI b) (nI w) 0 (nI i) t (nI x) M = some (r, M') ∧ f_X12_have_12 sp_G (F' + 1) (nI q) (nI w) 0 (nI i) Mr = some (r, Mr') ∧ (r = 0 ∨ r = 1 ∨ r = 2 ∨ r = 3) ∧ Pair Z (B + (e + 1)) o inF ls N' M' Mr' ∧ sp_hc o M M' ∧ sp_fd Mr Mr' ∧ M'.1 19 0 = nI s' ∧ Mr'.2.1 40 41 = lI s' ∧ s' ≤ 1000002 := by
        intro r N1 M1 Mr1 s' hr P1 hn1 hc1 fd1 t1 t2 t3 e1 e2
        have hr0 : ¬ r = 0 := by rcases hr with rfl | rfl | rfl <;> decide
        obtain ⟨M', Mr', h1, h2, P', hc, fq, h19⟩ := P1.drop ho hn1 hq h7 r
        obtain ⟨F2, hF2⟩ : ∃ F2, F = F2 + 1 := ⟨F - 1, by omega⟩
        obtain ⟨F3, hF3⟩ : ∃ F3, F' = F3 + 1 := ⟨F' - 1, by omega⟩
        refine ⟨r, M', Mr', _, s', ?_, ?_, Or.inr hr, P'.mono (by omega) hB, hc1.trans hc, fd1.trans fq.fd, by rw [h19]; exact t1, ?_, t3⟩
        · rw [e1, hF2, hold_stop hr0, h1]
        · rw [e2, hF3, have_stop hr0, h2]
        · rw [fq.2.2.2.1 41 (by decide) (by decide)]; exact t2
      by_cases hcan : sp_can N = 0
      · refine fin 3 N M Mr s (by simp) P Q.n (sp_hc.refl o M) (sp_fd.refl Mr) s1 s2 s3 ?_ (by rw [href, if_pos hcan])
        unfold f_X8_hold_82 f_X8_hold_182
        rw [p_canBeFired, P.cls.row, Option.bind_some, if_pos hcan, n_addr]
      · rw [if_neg hcan] at href
        have d1 := p_draw (p := 10) s1 s3 (by decide) (by decide)
        have d2 := r_draw (p := 10) s2 s3 (by decide) (by decide)
        have hcd : sp_hc o M (ro M 19 (up (M.1 19) 0 (nI (sp_sd s)))) := ⟨fun k _ h _ _ => ro_ne h, rfl⟩
        have hfd := sp_fd_seed Mr (lI (sp_sd s))
        have P1 : Pair Z B o inF ls N (ro M 19 (up (M.1 19) 0 (nI (sp_sd s)))) (az_l Mr 40 41 (lI (sp_sd s))) :=
          ⟨P.cls.hc ⟨ho.1, ho.2.1⟩ hcd (by rw [ro_ne ho.2.2]; exact P.cls.row) P.cls.rg P.cls.hB, P.ref.fd hfd P.ref.pr P.ref.rg P.ref.hB, P.wl⟩
        obtain ⟨M2, f2, g2⟩ := c_ask P1.cls (h := 0) (by decide) hw (p := nI x) (Or.inr ⟨x, hx, rfl⟩) (fun _ => ⟨x, hx, rfl⟩)
        obtain ⟨M3, f3, g3⟩ := r_aims P1.ref hw hx
        have P2 : Pair Z B o inF ls N M2 M3 := ⟨P1.cls.cf g2, P1.ref.fr g3, P.wl⟩
        have t1 : M2.1 19 0 = nI (sp_sd s) := by rw [g2.1 19 (by decide) (by decide), ro_eq, up_eq]
        have t2 : M3.2.1 40 41 = lI (sp_sd s) := by rw [g3.2.2.2.1 41 (by decide) (by decide), gl, if_pos rfl, if_pos rfl]
        have hc2 := hcd.trans (g2.hc o)
        have fd2 := hfd.trans g3.fq.fd
        have hcls : f_X8_hold_82 Z sp_G o (f_X8_hold_38 Z sp_G o F) (nI q) (nI a) (nI b) (nI w) 0 (nI i) t (nI x) M = (if sp_ask (sp_law inF ls) N 0 (nI x) (nI w) ≤ nI (sp_sd s % 10) then ((f_X8_shoot Z sp_G o (nI x) (nI w) M2).bind fun q16 => f_X8_hold_38 Z sp_G o F (nI q) (nI a) (nI b) (nI w) 0 (nI (i + 1)) q16) else ((f_X4_noteShot o (nI (12 + y)) (az_i M2 (o + 1) (83 + y) (M2.1 (o + 1) 16 + 7))).bind fun q20 => f_X8_hold_38 Z sp_G o F (nI q) (nI a) (nI b) (nI w) (if i % 2 = 0 then 1 else 2) (nI (i + 1)) q20)) := by
          unfold f_X8_hold_82 f_X8_hold_127 f_X8_hold_168 f_X8_hold_182
          rw [p_canBeFired, P.cls.row, Option.bind_some, if_neg hcan, show f_X8_draw 10 M = _ from d1, Option.bind_some, show f_X8_ask Z sp_G o 0 (nI x) (nI w) _ = _ from f2, Option.bind_some]
          simp (disch := omega) only [n_addl, n_addr, n_add, n_mull, n_mulr, n_mul, n_sub, n_subr, n_subl, n_cl, n_lt, n_le, n_eq, n_ltl, n_ltr, n_lel, n_ler, n_eqr, n_eql, n_nm1, n_m1n, n_m1lt, n_ltm1, l_ltr, l_ltl, l_ler, l_lel, l_m1lt, l_nneg, if_true, if_false, or_false, false_or, or_true, true_or, and_true, true_and, and_false, false_and, not_true_eq_false, not_false_eq_true, Option.bind_some, Option.bind_none, reduceIte, ltT, ltF, leT, leF, eqT, eqF, nI_lt0]
          rcases hxy with ⟨h, rfl, rfl, rfl⟩ | ⟨h, rfl, rfl, rfl⟩
          · simp only [h, if_true, show ¬ (1 : Int32) = 0 by decide, if_false]
          · simp only [h, Nat.one_ne_zero, if_true, if_false]
        rw [show f_X12_draw 10 Mr = _ from d2, Option.bind_some] at href
        simp only [f3, Option.bind_some] at href
        by_cases hm : sp_ask (sp_law inF ls) N 0 (nI x) (nI w) ≤ nI (sp_sd s % 10)
        · rw [if_pos hm] at hcls href
          obtain ⟨c, hc, hc1⟩ := p_court P2.cls.rg hx
          obtain ⟨M4, M5, k1, k2, P3, hc3, fq3, h19⟩ := P2.shoot ho (by omega) hx hw hc hc1
          rw [show f_X12_ofPerson (nI x) 1 M3 = some (M3.1 42 (65 + 3 * x + 1)) from p_ofPerson (w := 1) hx (by decide) M3, Option.bind_some, show M3.1 42 (65 + 3 * x + 1) = nI c by rw [show 65 + 3 * x + 1 = 66 + 3 * x by omega, ← (P2.ref.pr.2.2.2.2.2.1 x hx).2.1]; exact hc, k2, Option.bind_some] at href
          rw [k1, Option.bind_some] at hcls
          obtain ⟨r, M', Mr', N', s', a1, a2, a3, a4, a5, a6, a7, a8, a9⟩ := ih (i + 1) (by omega) F F' (by omega) (by omega) (B + 1) _ M4 M5 (sp_sd s) P3 (Q.cong (by omega) (fun j hj => fire_at _ _ hc1 hw (by omega))) (by rw [h19]; exact t1) (by rw [fq3.2.2.2.1 41 (by decide) (by decide)]; exact t2) (sp_sd_lt s) (by omega)
          refine ⟨r, M', Mr', N', s', by rw [hcls, a1], by rw [href, a2], a3, ?_, hc2.trans (hc3.trans a5), fd2.trans (fq3.fd.trans a6), a7, a8, a9⟩
          rw [show B + (e + 1) = B + 1 + e by omega]; exact a4
        · rw [if_neg hm] at hcls href
          obtain ⟨day, e1, e2, k1, k2, P3, fq3⟩ := P2.hurt ho hy
          rw [show f_X12_term 0 M3 = some (nI day) from (p_term (k := 0) (by decide) M3).trans (congrArg some ((P2.ref.pr.2.1 0 (by decide)).symm.trans e1)), Option.bind_some, n_addr, k2, Option.bind_some] at href
          rw [P2.cls.row, e1, n_addr, k1, Option.bind_some] at hcls
          refine fin (if i % 2 = 0 then 1 else 2) _ _ _ (sp_sd s) (by split <;> simp) P3 (by rw [note_at _ _ (by decide) (by decide), up_ne (by omega)]; exact Q.n) (hc2.trans ⟨fun k _ _ _ h => ro_ne h, rfl⟩) (fd2.trans fq3.fd) (by rw [ro_ne (Ne.symm ho.2.2)]; exact t1) (by rw [fq3.2.2.2.1 41 (by decide) (by decide)]; exact t2) (sp_sd_lt s) hcls href
    rw [f_X8_hold_38, P.cls.row, Q.rd, n_mod2 (by omega)]
    simp (disch := omega) only [n_addl, n_addr, n_add, n_mull, n_mulr, n_mul, n_sub, n_subr, n_subl, n_cl, n_lt, n_le, n_eq, n_ltl, n_ltr, n_lel, n_ler, n_eqr, n_eql, n_nm1, n_m1n, n_m1lt, n_ltm1, l_ltr, l_ltl, l_ler, l_lel, l_m1lt, l_nneg, if_true, if_false, or_false, false_or, or_true, true_or, and_true, true_and, and_false, false_and, not_true_eq_false, not_false_eq_true, Option.bind_some, Option.bind_none, reduceIte, ltT, ltF, leT, leF, eqT, eqF, nI_lt0]
    unfold f_X8_hold_69
    by_cases hp : i % 2 = 0
    · rw [if_pos hp, if_neg (by decide)]
      exact key a b 1 (Or.inl ⟨hp, rfl, rfl, rfl⟩)
    · rw [if_neg hp, if_pos rfl]
      exact key b a 0 (Or.inr ⟨by omega, rfl, rfl, rfl⟩)
/-- a whole duel -/
theorem Pair.hold {Z : az_S × Nat} {B o : Nat} {inF : Int32} {ls : Nat → sp_L} {N : Nat → Int32} {M Mr : az_M} {s q : Nat} (P : Pair Z B o inF ls N M Mr) (ho : o + 1 ≠ 3 ∧ o + 1 < 71 ∧ o + 1 ≠ 19) (hq : q < (N 25).toNatClampNeg) (s1 : M.1 19 0 = nI s) (s2 : Mr.2.1 40 41 = lI s) (s3 : s ≤ 1000002) (hB : B + 8 ≤ 1000000000) :
    ∃ r M' Mr' N' s', f_X8_hold Z sp_G o (nI q) M = some (r, M') ∧ f_X12_have sp_G (nI q) Mr = some (r, Mr') ∧ (r = 0 ∨ r = 1 ∨ r = 2 ∨ r = 3) ∧ Pair Z (B + 8) o inF ls N' M' Mr' ∧ sp_hc o M M' ∧ sp_fd Mr Mr' ∧ M'.1 19 0 = nI s' ∧ Mr'.2.1 40 41 = lI s' ∧ s' ≤ 1000002 := by
  obtain ⟨a, b, w, d, e1, ha, e2, hb, hab, e3, hw, e4, hd⟩ := quar P.cls.rg hq
  obtain ⟨n, hn, _, hn2⟩ := P.cls.rg.2.2.2.1.2.2.1.nat (by decide) (by decide)
  obtain ⟨rd, hrd, _, hrd2⟩ := P.cls.rg.2.1.2.1.nat (by decide) (by decide)
  have hqn : q < n := by rw [hn, n_cl (by omega)] at hq; exact hq
  have big : 2 * rd < sp_G := Nat.lt_of_le_of_lt (show 2 * rd ≤ 8 by omega) (by decide)
  obtain ⟨r, M', Mr', N', s', a1, a2, a3, a4, a5⟩ := hold_loop ho hqn (by omega) ha hb hw (show rd ≤ 4 by omega) (2 * rd) 0 (by omega) sp_G sp_G big big B N M Mr s P ⟨hn, hrd, e1, e2, e3⟩ s1 s2 s3 (by omega)
  refine ⟨r, M', Mr', N', s', ?_, ?_, a3, a4.mono (by omega) hB, a5⟩
  · unfold f_X8_hold
    simp (disch := omega) only [n_addl, n_addr, n_add, n_mull, n_mulr, n_mul, n_sub, n_subr, n_subl, n_cl, n_lt, n_le, n_eq, n_ltl, n_ltr, n_lel, n_ler, n_eqr, n_eql, n_nm1, n_m1n, n_m1lt, n_ltm1, l_ltr, l_ltl, l_ler, l_lel, l_m1lt, l_nneg, if_true, if_false, or_false, false_or, or_true, true_or, and_true, true_and, and_false, false_and, not_true_eq_false, not_false_eq_true, Option.bind_some, Option.bind_none, reduceIte, ltT, ltF, leT, leF, eqT, eqF, nI_lt0]
    rw [P.cls.row, e1, e2, e3]; exact a1
  · unfold f_X12_have
    rw [show f_X12_ofQuarrel (nI q) 2 Mr = some (nI w) from (p_ofQuarrel (w := 2) (by omega) (by decide) Mr).trans (congrArg some (by rw [show 95 + 4 * q + 2 = 97 + 4 * q by omega, ← (P.ref.pr.2.2.2.2.2.2.1 q hq).2.2.1]; exact e3)), Option.bind_some]
    exact a2
theorem Deed.pair {Z : az_S × Nat} {B : Nat} {inF : Int32} {ls : Nat → sp_L} {M Mr : az_M} (D : Deed Z B inF ls M Mr) : Pair Z B 1 inF ls (M.1 2) M Mr := ⟨D.cls, D.ref, D.wl⟩
theorem t_duel {Z : az_S × Nat} {B : Nat} {inF : Int32} {ls : Nat → sp_L} {M Mr : az_M} (D : Deed Z B inF ls M Mr) (hB : B + 8 ≤ 1000000000) (a1 a2 : Int32) : ∃ r M' Mr', f_X1_tryDuel Z sp_G a1 a2 M = some (r, M') ∧ f_X12_duelNow sp_G a1 a2 Mr = some (r, Mr') ∧ Out Z (B + 8) inF ls r M Mr M' Mr' := by
  obtain ⟨_, _, n, _, _, hn, _, _, _, _, n2, n42⟩ := D.nums
  have no : ∀ r, (r = -1 ∨ r = -2 ∨ r = -3) → ∀ M' Mr', sp_cf M M' → sp_fr Mr Mr' → f_X1_tryDuel Z sp_G a1 a2 M = some (r, M') → f_X12_duelNow sp_G a1 a2 Mr = some (r, Mr') → ∃ r M' Mr', f_X1_tryDuel Z sp_G a1 a2 M = some (r, M') ∧ f_X12_duelNow sp_G a1 a2 Mr = some (r, Mr') ∧ Out Z (B + 8) inF ls r M Mr M' Mr' :=
    fun r hr M' Mr' f g h1 h2 => ⟨r, M', Mr', h1, h2, Or.inl ⟨hr, f, g⟩⟩
  rcases r_cases a2 0 1000000 (by decide) (by decide) with ⟨s, _, hs, rfl⟩ | ⟨hb, hi⟩
  · have hcls : f_X1_tryDuel Z sp_G a1 (nI s) M = ((f_X4_hasQuarrel 1 a1 M).bind fun q3 => (if q3 = 0 then some ((-2), M) else ((f_X8_canBeHad Z sp_G 1 a1 M).bind fun q6 => (if q6.1 = 0 then some ((-3), q6.2) else ((f_X3_keep 7 1 1 q6.2).bind fun q9 => ((f_X8_hold Z sp_G 1 a1 (az_i q9 19 0 (nI s))).bind fun q11 => some (q11.1, q11.2))))))) := by
      unfold f_X1_tryDuel
      exact i_good (lo := 0) (hi := 1000000) (Nat.zero_le s) hs (by decide)
    have href : f_X12_duelNow sp_G a1 (nI s) Mr = ((f_X12_isQuarrel a1 Mr).bind fun q4 => (if q4 = 0 then some ((-2), Mr) else ((f_X12_canHave sp_G a1 Mr).bind fun q7 => (if q7.1 = 0 then some ((-3), q7.2) else ((f_X12_remember sp_G 1 q7.2).bind fun q10 => ((f_X12_have sp_G a1 (az_l q10 40 41 (nI s).toInt64)).bind fun q12 => some (q12.1, q12.2))))))) := by
      unfold f_X12_duelNow
      rw [show f_X12_in (nI s).toInt64 0 1000000 Mr = some 1 from g_in (Nat.zero_le s) hs (by decide) Mr, Option.bind_some, if_neg (by decide)]
    rcases v_cases a1 (n := n) (by omega) with ⟨q, hq, rfl⟩ | ⟨hb, hr⟩
    · have hq' : q < (M.1 2 25).toNatClampNeg := by rw [n2, n_cl (by omega)]; exact hq
      obtain ⟨M1, f1, g1⟩ := p_canBeHad D.cls hq'
      obtain ⟨M2, f2, g2⟩ := r_canHave D.ref hq'
      have D1 := D.asked g1 g2
      rw [p_hasQuarrel1 n2 (by omega) hq, Option.bind_some, if_neg (by decide), f1, Option.bind_some] at hcls
      rw [p_isQuarrel1 n42 (by omega) hq, Option.bind_some, if_neg (by decide), f2, Option.bind_some] at href
      by_cases hh : sp_had (sp_law inF ls) (M.1 2) q = 0
      · rw [if_pos hh] at hcls href
        exact no (-3) (by simp) _ _ g1 g2 hcls href
      · rw [if_neg hh] at hcls href
        obtain ⟨M3, M4, k1, k2, D2, e2, dc2, dr2, kk, k3⟩ := D1.keep (v := 1) (by decide)
        rw [show f_X3_keep 7 1 1 M1 = some M3 from k1, Option.bind_some] at hcls
        rw [show f_X12_remember sp_G 1 M2 = some M4 from k2, Option.bind_some, nI_64 (by omega)] at href
        have e12 : M3.1 2 = M.1 2 := e2.trans (g1.1 2 (by decide) (by decide))
        have P3 : Pair Z B 1 inF ls (M3.1 2) (az_i M3 19 0 (nI s)) (az_l M4 40 41 (lI s)) :=
          ⟨D2.cls.hc (by decide) ⟨fun k _ h _ _ => gi_k h, rfl⟩ (gi_k (by decide)) D2.cls.rg D2.cls.hB, D2.ref.fd (sp_fd_seed M4 (lI s)) D2.ref.pr D2.ref.rg D2.ref.hB, D2.wl⟩
        obtain ⟨r, M5, M6, N', s', a1, a2, a3, a4, a5, a6, a7, a8, a9⟩ := P3.hold (s := s) (q := q) (by decide) (by rw [e12]; exact hq') (by rw [gi, if_pos rfl, if_pos rfl]) (by rw [gl, if_pos rfl, if_pos rfl]) (by omega) hB
        rw [a1] at hcls
        rw [a2] at href
        have b5 : ∀ k, k ≠ 14 → k ≠ 19 → k ≠ 20 → k ≠ 2 → M5.1 k = M3.1 k := fun k h1 h2 h3 h4 => (a5.1 k h1 h2 h3 h4).trans (gi_k h2)
        have r5 : M5.1 2 = N' := a4.cls.row
        have fd6 := (sp_fd_seed M4 (lI s)).trans a6
        refine ⟨r, M5, M6, hcls, href, Or.inr ⟨?_, ⟨?_, ?_, ?_, ?_⟩, ?_, ?_⟩⟩
        · rcases a3 with rfl | rfl | rfl | rfl <;> decide
        · rw [r5]; exact a4.cls
        · rw [r5]; exact a4.ref
        · rw [b5 7 (by decide) (by decide) (by decide) (by decide), b5 8 (by decide) (by decide) (by decide) (by decide), b5 9 (by decide) (by decide) (by decide) (by decide), fd6.2.1 8 (by decide) (by decide), fd6.1 46 (by decide) (by decide), fd6.1 45 (by decide) (by decide)]
          exact D2.past.mono (by omega)
        · rw [r5]; exact a4.wl
        · exact g1.dc.trans (dc2.trans ⟨fun k h2 h7 h8 h9 h14 h19 h20 => b5 k h14 h19 h20 h2, a5.2⟩)
        · exact g2.fq.dr.trans (dr2.trans fd6.dr)
    · rw [p_hasQuarrel0 (by rw [show M.1 (1 + 1) 25 = nI n from n2]; exact hb), Option.bind_some, if_pos rfl] at hcls
      rw [p_isQuarrel0 (by rw [n42]; exact hr), Option.bind_some, if_pos rfl] at href
      exact no (-2) (by simp) M Mr (sp_cf.refl M) (sp_fr.refl Mr) hcls href
  · refine no (-1) (by simp) M Mr (sp_cf.refl M) (sp_fr.refl Mr) ?_ ?_
    · unfold f_X1_tryDuel f_X1_tryDuel_10
      exact i_bad (lo := 0) (hi := 1000000) hb
    · unfold f_X12_duelNow
      rw [show f_X12_in a2.toInt64 0 1000000 Mr = some 0 from hi Mr]
      rfl
theorem ob_duel : Ob_duel az_Inv sp_G := by
  intro m Z M a1 a2 hm h
  exact h.call hm (fc := f_X1_tryDuel Z sp_G a1 a2) (fr := f_X12_duelNow sp_G a1 a2) (k := 8) (by decide) (fun inF ls Mr D => t_duel D (by unfold sp_B; omega) a1 a2)
