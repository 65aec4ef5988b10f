/-! odds -/
theorem ClsAt.pc {Z : az_S × Nat} {B B' : Nat} {inF : Int32} {ls : Nat → sp_L} {N N' : Nat → Int32} {M M' : az_M} (h : ClsAt Z B 30 inF ls N M) (f : sp_pc M M') (hr : M'.1 31 = N') (hg : sp_rg B' N') (hB : B' ≤ 1000000000) : ClsAt Z B' 30 inF ls N' M' :=
  h.to (f.1 3 (by decide) (by decide) (by decide) (by decide)) (fun k hk => f.1 k (by omega) (by omega) (by omega) (by omega)) (by rw [f.2]) hr hg hB h.ho
theorem sp_pc_32 (M : az_M) (j : Nat) (v : Int32) : sp_pc M (az_i M 32 j v) := ⟨fun k _ _ _ h => gi_k h, rfl⟩
theorem odds_loop {Z : az_S × Nat} {inF : Int32} {ls : Nat → sp_L} {q n rd a b w p : Nat} (hq : q < n) (h7 : n ≤ 7) (ha : a < 10) (hb : b < 10) (hw : w < 12) (hrd : rd ≤ 4) (hp : p < 4) :
    ∀ (e i : Nat), i + e = 2 * rd → ∀ (F F' : Nat), e < F → e < F' → ∀ (B : Nat) (Nc N : Nat → Int32) (M Mr : az_M) (x : Nat), PairS Z B inF ls Nc N M Mr → Q5 Nc q n rd a b w → Q5 N q n rd a b w → (∃ t, x = 10 ^ (8 - i) * t) → x ≤ 100000000 → (∀ j, 1 ≤ j → j ≤ 3 → M.1 32 j = Mr.1 61 j) → (x ≠ 0 → Mr.1 61 3 = 0) → B + e ≤ 1000000000 →
    ∃ M' Mr', f_X2_oddsOf_52 Z sp_G F (nI q) (nI p) (nI w) (nI x) (nI i) M = some (Mr'.1 61 p, M') ∧ f_X12_findEnds_37 sp_G F' (nI q) (nI w) (nI x) (nI i) Mr = some Mr' ∧ sp_pc M M' ∧ sp_fe Mr Mr' := by
  have e189 : ∀ (M : az_M) (x : Nat), f_X2_oddsOf_189 Z sp_G (nI p) (nI x) M = some ((if p = 0 then nI x else M.1 32 p), az_i M 32 0 (nI x)) := by
    intro M x
    unfold f_X2_oddsOf_189
    simp (disch := omega) only [n_addl, n_addr, n_add, n_mull, n_mulr, n_mul, n_sub, n_subr, n_subl, n_cl, n_lt, n_le, n_eq, n_ltl, n_ltr, n_lel, n_ler, n_eqr, n_eql, n_nm1, n_m1n, n_m1lt, n_ltm1, l_ltr, l_ltl, l_ler, l_lel, l_m1lt, l_nneg, if_true, if_false, or_false, false_or, or_true, true_or, and_true, true_and, and_false, false_and, not_true_eq_false, not_false_eq_true, Option.bind_some, Option.bind_none, reduceIte, ltT, ltF, leT, leF, eqT, eqF, nI_lt0]
    rw [gi, if_pos rfl]
  intro e
  induction e with
  | zero =>
    intro i hi F F' hF hF' B Nc N M Mr x P Qc Q hx hx8 h3 hz hB
    obtain ⟨F, rfl⟩ : ∃ F1, F = F1 + 1 := ⟨F - 1, by omega⟩
    obtain ⟨F', rfl⟩ : ∃ F1, F' = F1 + 1 := ⟨F' - 1, by omega⟩
    refine ⟨az_i M 32 0 (nI x), az_i Mr 61 0 (nI x), ?_, ?_, sp_pc_32 M 0 _, sp_fe_61 Mr 0 _⟩
    · rw [f_X2_oddsOf_52, show M.1 31 = Nc from P.cls.row, Qc.rd]
      simp (disch := omega) only [n_addl, n_addr, n_add, n_mull, n_mulr, n_mul, n_sub, n_subr, n_subl, n_cl, n_lt, n_le, n_eq, n_ltl, n_ltr, n_lel, n_ler, n_eqr, n_eql, n_nm1, n_m1n, n_m1lt, n_ltm1, l_ltr, l_ltl, l_ler, l_lel, l_m1lt, l_nneg, if_true, if_false, or_false, false_or, or_true, true_or, and_true, true_and, and_false, false_and, not_true_eq_false, not_false_eq_true, Option.bind_some, Option.bind_none, reduceIte, ltT, ltF, leT, leF, eqT, eqF, nI_lt0]
      rw [e189, gi, if_pos rfl]
      by_cases h0 : p = 0
      · rw [if_pos h0, if_pos h0]
      · rw [if_neg h0, if_neg h0, h3 p (by omega) (by omega)]
    · rw [f_X12_findEnds_37, show f_X12_term 1 Mr = some (nI rd) from (p_term (k := 1) (by decide) Mr).trans (congrArg some ((P.ref.pr.2.1 1 (by decide)).symm.trans Q.rd)), Option.bind_some]
      simp (disch := omega) only [n_addl, n_addr, n_add, n_mull, n_mulr, n_mul, n_sub, n_subr, n_subl, n_cl, n_lt, n_le, n_eq, n_ltl, n_ltr, n_lel, n_ler, n_eqr, n_eql, n_nm1, n_m1n, n_m1lt, n_ltm1, l_ltr, l_ltl, l_ler, l_lel, l_m1lt, l_nneg, if_true, if_false, or_false, false_or, or_true, true_or, and_true, true_and, and_false, false_and, not_true_eq_false, not_false_eq_true, Option.bind_some, Option.bind_none, reduceIte, ltT, ltF, leT, leF, eqT, eqF, nI_lt0]
  | succ e ih =>
    intro i hi F F' hF hF' B Nc N M Mr x P Qc Q hx hx8 h3 hz hB
    by_cases hx0 : x = 0
    · subst hx0
      obtain ⟨F, rfl⟩ : ∃ F1, F = F1 + 1 := ⟨F - 1, by omega⟩
      obtain ⟨Mr', a1, a2, a3, a4⟩ := ends_tail hq h7 ha hb hw hrd (e + 1) i hi F' hF' B N Mr P.ref P.wl Q hB
      refine ⟨az_i M 32 0 (nI 0), Mr', ?_, a1, sp_pc_32 M 0 _, a2⟩
      rw [f_X2_oddsOf_52, show M.1 31 = Nc from P.cls.row, Qc.rd]
      simp (disch := omega) only [n_addl, n_addr, n_add, n_mull, n_mulr, n_mul, n_sub, n_subr, n_subl, n_cl, n_lt, n_le, n_eq, n_ltl, n_ltr, n_lel, n_ler, n_eqr, n_eql, n_nm1, n_m1n, n_m1lt, n_ltm1, l_ltr, l_ltl, l_ler, l_lel, l_m1lt, l_nneg, if_true, if_false, or_false, false_or, or_true, true_or, and_true, true_and, and_false, false_and, not_true_eq_false, not_false_eq_true, Option.bind_some, Option.bind_none, reduceIte, ltT, ltF, leT, leF, eqT, eqF, nI_lt0]
      rw [e189]
      by_cases h0 : p = 0
      · subst h0; rw [if_pos rfl, a3]; rfl
      · rw [if_neg h0, a4 p h0, h3 p (by omega) (by omega)]
    · obtain ⟨F, rfl⟩ : ∃ F1, F = F1 + 1 := ⟨F - 1, by omega⟩
      obtain ⟨F', rfl⟩ : ∃ F1, F' = F1 + 1 := ⟨F' - 1, by omega⟩
      have hq7 : q < (N 25).toNatClampNeg := by rw [Q.n, n_cl (by omega)]; exact hq
      have pq := P.ref.pr.2.2.2.2.2.2.1 q hq7
      have hr := P.cls.row
      have hcls0 : f_X2_oddsOf_52 Z sp_G (F + 1) (nI q) (nI p) (nI w) (nI x) (nI i) M = (if sp_can Nc = 0 then f_X2_oddsOf_52 Z sp_G F (nI q) (nI p) (nI w) 0 (nI (i + 1)) (az_i M 32 3 (nI x)) else if i % 2 = 0 then f_X2_oddsOf_119 Z sp_G (f_X2_oddsOf_52 Z sp_G F) (nI q) (nI p) (nI w) (nI x) (nI i) 93 M else f_X2_oddsOf_119 Z sp_G (f_X2_oddsOf_52 Z sp_G F) (nI q) (nI p) (nI w) (nI x) (nI i) 100 M) := by
        rw [f_X2_oddsOf_52, p_canBeFired, show M.1 (30 + 1) = Nc from hr, Qc.rd, n_mod2 (by omega)]
        unfold f_X2_oddsOf_183
        simp (disch := omega) only [n_addl, n_addr, n_add, n_mull, n_mulr, n_mul, n_sub, n_subr, n_subl, n_cl, n_lt, n_le, n_eq, n_ltl, n_ltr, n_lel, n_ler, n_eqr, n_eql, n_nm1, n_m1n, n_m1lt, n_ltm1, l_ltr, l_ltl, l_ler, l_lel, l_m1lt, l_nneg, if_true, if_false, or_false, false_or, or_true, true_or, and_true, true_and, and_false, false_and, not_true_eq_false, not_false_eq_true, Option.bind_some, Option.bind_none, reduceIte, ltT, ltF, leT, leF, eqT, eqF, nI_lt0]
      have hB8 : x < 2147483648 := by omega
      by_cases hcan : sp_can N = 0
      · rw [if_pos (by rw [can_sim P.sim]; exact hcan)] at hcls0
        have z3 := hz hx0
        obtain ⟨M', Mr', a1, a2, a3, a4⟩ := ih (i + 1) (by omega) F F' (by omega) (by omega) B Nc N (az_i M 32 3 (nI x)) (az_i Mr 61 3 (nI x)) 0
          ⟨P.cls.pc (sp_pc_32 M 3 _) (by rw [gi_k (by decide)]; exact hr) P.cls.rg P.cls.hB, P.ref.fe (sp_fe_61 Mr 3 _) (gi_k (by decide)), P.wl, P.sim⟩ Qc Q ⟨0, by simp⟩ (by omega) (fun j h1 h2 => by
            rw [gi, gi, if_pos rfl, if_pos rfl]
            by_cases e3 : j = 3
            · rw [if_pos e3, if_pos e3]
            · rw [if_neg e3, if_neg e3]; exact h3 j h1 h2) (fun h => absurd rfl h) (by omega)
        refine ⟨M', Mr', by rw [hcls0]; exact a1, ?_, (sp_pc_32 M 3 _).trans a3, (sp_fe_61 Mr 3 _).trans a4⟩
        rw [f_X12_findEnds_37, show f_X12_term 1 Mr = some (nI rd) from (p_term (k := 1) (by decide) Mr).trans (congrArg some ((P.ref.pr.2.1 1 (by decide)).symm.trans Q.rd)), Option.bind_some, p_canFire' P.ref.pr, Option.bind_some, if_pos hcan, z3]
        unfold f_X12_findEnds_135
        simp (disch := omega) only [n_addl, n_addr, n_add, n_mull, n_mulr, n_mul, n_sub, n_subr, n_subl, n_cl, n_lt, n_le, n_eq, n_ltl, n_ltr, n_lel, n_ler, n_eqr, n_eql, n_nm1, n_m1n, n_m1lt, n_ltm1, l_ltr, l_ltl, l_ler, l_lel, l_m1lt, l_nneg, if_true, if_false, or_false, false_or, or_true, true_or, and_true, true_and, and_false, false_and, not_true_eq_false, not_false_eq_true, Option.bind_some, Option.bind_none, reduceIte, ltT, ltF, leT, leF, eqT, eqF, nI_lt0]
        rw [Nat.zero_add]
        exact a2
      · rw [if_neg (by rw [can_sim P.sim]; exact hcan)] at hcls0
        obtain ⟨y, s0, hy, o1, yc, hs0⟩ : ∃ y s0, y < 10 ∧ f_X12_ofQuarrel (nI q) (az_rem (nI i) 2) Mr = some (nI y) ∧ Nc (s0 + q) = nI y ∧ ((i % 2 = 0 ∧ s0 = 93) ∨ (i % 2 = 1 ∧ s0 = 100)) := by
          rw [n_mod2 (by omega), p_ofQuarrel (by omega) (by omega)]
          rcases (show i % 2 = 0 ∨ i % 2 = 1 by omega) with h | h
          · exact ⟨a, 93, ha, by rw [h, show 95 + 4 * q + 0 = 95 + 4 * q by omega, ← pq.1, Q.a], Qc.a, Or.inl ⟨h, rfl⟩⟩
          · exact ⟨b, 100, hb, by rw [h, show 95 + 4 * q + 1 = 96 + 4 * q by omega, ← pq.2.1, Q.b], Qc.b, Or.inr ⟨h, rfl⟩⟩
        obtain ⟨M1, f1, g1⟩ := c_ask P.cls (h := 0) (by decide) hw (p := nI y) (Or.inr ⟨y, hy, rfl⟩) (fun _ => ⟨y, hy, rfl⟩)
        rw [ask_sim P.sim _ (g := 0) (by decide) hw (Or.inr ⟨y, hy, rfl⟩) (fun _ => ⟨y, hy, rfl⟩)] at f1
        obtain ⟨M2, f2, g2⟩ := r_aims P.ref hw hy
        obtain ⟨am, ham, eam⟩ := ask0_in P.ref.rg (sp_law inF ls) hy hw
        rw [eam] at f1 f2
        obtain ⟨t, ht⟩ := hx
        have hpw : 10 ^ (8 - i) = 10 * 10 ^ (8 - (i + 1)) := by
          rw [show 8 - i = 8 - (i + 1) + 1 by omega, Nat.pow_succ, Nat.mul_comm]
        have hx10 : x = 10 * (x / 10) := by
          have : x = 10 * (10 ^ (8 - (i + 1)) * t) := by rw [ht, hpw, Nat.mul_assoc]
          omega
        have hx10' : x / 10 = 10 ^ (8 - (i + 1)) * t := by
          have : x = 10 * (10 ^ (8 - (i + 1)) * t) := by rw [ht, hpw, Nat.mul_assoc]
          omega
        have hle : x / 10 * am ≤ x := by
          have := Nat.mul_le_mul_left (x / 10) ham
          omega
        have hsub : x - x / 10 * am = x / 10 * (10 - am) := by
          rw [Nat.mul_sub]; omega
        generalize hc1 : az_i M1 32 (1 + i % 2) (M1.1 32 (1 + i % 2) + nI (x / 10 * am)) = M3
        generalize hr1 : az_i M2 61 (1 + i % 2) (M2.1 61 (1 + i % 2) + nI (x / 10 * am)) = M4
        have pc3 : sp_pc M M3 := by rw [← hc1]; exact g1.pc.trans (sp_pc_32 M1 _ _)
        have fe4 : sp_fe Mr M4 := by rw [← hr1]; exact g2.fq.fe.trans (sp_fe_61 M2 _ _)
        have r3 : M3.1 31 = Nc := by rw [← hc1, gi_k (by decide), g1.1 31 (by decide) (by decide)]; exact hr
        have e42 : M4.1 42 = Mr.1 42 := by rw [← hr1, gi_k (by decide), g2.1 42 (by decide)]
        have C3 := P.cls.pc pc3 r3 P.cls.rg P.cls.hB
        have R4 := P.ref.fe fe4 e42
        obtain ⟨M5, k1, k2, k3, k4⟩ := p_shoot0 C3 hw
        obtain ⟨c, hc, hcc⟩ := p_court R4.rg hy
        obtain ⟨M6, l1, l2, l3⟩ := r_shoot R4 hw hcc
        obtain ⟨rg, wl'⟩ := fire_rg P.ref.rg P.wl (by omega) (sp_law inF ls) hw hcc
        have rgc := shot_rg P.cls.rg (by omega) (sp_law inF ls) hw
        have pc5 : sp_pc M3 M5 := ⟨fun k a b c _ => k3 k a b c, k4⟩
        have P5 : PairS Z (B + 1) inF ls (sp_shot (sp_law inF ls) Nc w) (sp_fire (sp_law inF ls) N c w) M5 M6 :=
          ⟨C3.pc pc5 k2 rgc (by omega), R4.fq l3 l2 rg (by omega), wl', shot_sim P.sim _ hw hcc⟩
        have Q' := Q.cong (N' := sp_fire (sp_law inF ls) N c w) (by omega) (fun j hj => fire_at _ _ hcc hw (by omega))
        have Qc' : Q5 (sp_shot (sp_law inF ls) Nc w) q n rd a b w := Q'.cong (by omega) (fun j hj => (shot_sim P.sim (sp_law inF ls) hw hcc).at (by omega))
        have h35 : ∀ j, M5.1 32 j = M3.1 32 j := fun j => by rw [k3 32 (by decide) (by decide) (by decide)]
        have h46 : ∀ j, M6.1 61 j = M4.1 61 j := fun j => by rw [l3.1 61 (by decide) (by decide)]
        have m32 : ∀ j, M3.1 32 j = if j = 1 + i % 2 then M.1 32 (1 + i % 2) + nI (x / 10 * am) else M.1 32 j := fun j => by
          rw [← hc1, gi, if_pos rfl, g1.1 32 (by decide) (by decide)]
        have m61 : ∀ j, M4.1 61 j = if j = 1 + i % 2 then Mr.1 61 (1 + i % 2) + nI (x / 10 * am) else Mr.1 61 j := fun j => by
          rw [← hr1, gi, if_pos rfl, g2.1 61 (by decide)]
        obtain ⟨M', Mr', a1, a2, a3, a4⟩ := ih (i + 1) (by omega) F F' (by omega) (by omega) (B + 1) _ _ M5 M6 (x / 10 * (10 - am)) P5 Qc' Q' ⟨t * (10 - am), by rw [hx10', Nat.mul_assoc]⟩ (by omega) (fun j h1 h2 => by
            rw [h35, h46, m32, m61, h3 (1 + i % 2) (by omega) (by omega), h3 j h1 h2]) (fun _ => by
            rw [h46, m61, if_neg (by omega)]; exact hz hx0) (by omega)
        have h119 : f_X2_oddsOf_119 Z sp_G (f_X2_oddsOf_52 Z sp_G F) (nI q) (nI p) (nI w) (nI x) (nI i) (nI s0) M = some (Mr'.1 61 p, M') := by
          unfold f_X2_oddsOf_119 f_X2_oddsOf_183
          rw [show M.1 31 = Nc from hr, n_mod2 (by omega)]
          simp (disch := omega) only [n_addl, n_addr, n_add, n_mull, n_mulr, n_mul, n_sub, n_subr, n_subl, n_cl, n_lt, n_le, n_eq, n_ltl, n_ltr, n_lel, n_ler, n_eqr, n_eql, n_nm1, n_m1n, n_m1lt, n_ltm1, l_ltr, l_ltl, l_ler, l_lel, l_m1lt, l_nneg, if_true, if_false, or_false, false_or, or_true, true_or, and_true, true_and, and_false, false_and, not_true_eq_false, not_false_eq_true, Option.bind_some, Option.bind_none, reduceIte, ltT, ltF, leT, leF, eqT, eqF, nI_lt0, yc]
          rw [show f_X8_ask Z sp_G 30 0 (nI y) (nI w) M = _ from f1, Option.bind_some, n_divr (by omega) (by decide), n_mul, hc1, k1, Option.bind_some, n_sub hle, hsub]
          exact a1
        refine ⟨M', Mr', ?_, ?_, pc3.trans (pc5.trans a3), fe4.trans (l3.fe.trans a4)⟩
        · rw [hcls0]
          rcases hs0 with ⟨h, rfl⟩ | ⟨h, rfl⟩
          · rw [if_pos h]; exact h119
          · rw [if_neg (by omega)]; exact h119
        · rw [f_X12_findEnds_37, show f_X12_term 1 Mr = some (nI rd) from (p_term (k := 1) (by decide) Mr).trans (congrArg some ((P.ref.pr.2.1 1 (by decide)).symm.trans Q.rd)), Option.bind_some, p_canFire' P.ref.pr, Option.bind_some, if_neg hcan, o1, Option.bind_some, f2, Option.bind_some, n_mod2 (by omega)]
          unfold f_X12_findEnds_135
          simp (disch := omega) only [n_addl, n_addr, n_add, n_mull, n_mulr, n_mul, n_sub, n_subr, n_subl, n_cl, n_lt, n_le, n_eq, n_ltl, n_ltr, n_lel, n_ler, n_eqr, n_eql, n_nm1, n_m1n, n_m1lt, n_ltm1, l_ltr, l_ltl, l_ler, l_lel, l_m1lt, l_nneg, if_true, if_false, or_false, false_or, or_true, true_or, and_true, true_and, and_false, false_and, not_true_eq_false, not_false_eq_true, Option.bind_some, Option.bind_none, reduceIte, ltT, ltF, leT, leF, eqT, eqF, nI_lt0]
          rw [n_divr (by omega) (by decide), n_mul, hr1, show f_X12_ofPerson (nI y) 1 M4 = some (M4.1 42 (65 + 3 * y + 1)) from p_ofPerson (w := 1) hy (by decide) M4, Option.bind_some, show M4.1 42 (65 + 3 * y + 1) = nI c by rw [show 65 + 3 * y + 1 = 66 + 3 * y by omega, ← (R4.pr.2.2.2.2.2.1 y hy).2.1]; exact hc, l1, Option.bind_some, n_mul]
          exact a2

/-- what only papers changed -/
theorem ke_paper {M M' : az_M} (h1 : ∀ k, k ≠ 14 → k ≠ 20 → k ≠ 31 → k ≠ 32 → k ≠ 40 → k ≠ 45 → k ≠ 61 → M'.1 k = M.1 k) (h40 : ∀ j, j ≠ 0 → j ≠ 34 → j ≠ 38 → M'.1 40 j = M.1 40 j) (h45 : ∀ j, j < 2400 → M'.1 45 j = M.1 45 j) (hl : ∀ k, k = 55 ∨ k = 56 ∨ k = 57 → M'.2.1 k = M.2.1 k) (h2 : M'.2.2 = M.2.2) : sp_ke M M' := by
  refine ⟨fun k h => h1 k (by omega) (by omega) (by omega) (by omega) (by omega) (by omega) (by omega), h45, fun j _ => ?_, fun j _ => ?_, ?_, fun j _ => ?_, ?_, fun j _ => ?_, fun j h => h40 j (by omega) (by omega) (by omega), hl, h2⟩
  · rw [h1 0 (by decide) (by decide) (by decide) (by decide) (by decide) (by decide) (by decide)]
  · rw [h1 3 (by decide) (by decide) (by decide) (by decide) (by decide) (by decide) (by decide)]
  · rw [h1 5 (by decide) (by decide) (by decide) (by decide) (by decide) (by decide) (by decide)]
  · rw [h1 7 (by decide) (by decide) (by decide) (by decide) (by decide) (by decide) (by decide)]
  · rw [h1 28 (by decide) (by decide) (by decide) (by decide) (by decide) (by decide) (by decide)]
  · rw [h1 34 (by decide) (by decide) (by decide) (by decide) (by decide) (by decide) (by decide)]
theorem odds_run {m : Nat} {Z : az_S × Nat} {M : az_M} (h : az_Inv m Z M) (hm : m < 512) {q p : Nat} (hq : q < (M.1 2 25).toNatClampNeg) (hp : p < 4) (X : az_M) (h42 : X.1 42 = M.1 42) (h20 : X.1 40 20 = M.1 40 20) :
    ∃ M' Mr', f_X2_oddsOf Z sp_G (nI q) (nI p) M = some (Mr'.1 61 p, M') ∧ f_X12_findEnds sp_G (nI q) X = some Mr' ∧ sp_pc M M' ∧ sp_fe X Mr' := by
  obtain ⟨ls, R, C, wl, C1⟩ := h.paperC hm
  have R0 := R X h42 h20
  obtain ⟨a, b, w, d, e1, ha, e2, hb, hab, e3, hw, e4, hd⟩ := quar C1.rg hq
  obtain ⟨n, hn, _, hn2⟩ := C1.rg.2.2.2.1.2.2.1.nat (by decide) (by decide)
  obtain ⟨rd, hrd, _, hrd2⟩ := C1.rg.2.1.2.1.nat (by decide) (by decide)
  have hqn : q < n := by rw [hn, n_cl (by omega)] at hq; exact hq
  have big : 2 * rd < sp_G := Nat.lt_of_le_of_lt (show 2 * rd ≤ 8 by omega) (by decide)
  have Q0 : Q5 (M.1 2) q n rd a b w := ⟨hn, hrd, e1, e2, e3⟩
  have Q : Q5 (cpy (M.1 2) (M.1 31) 0 0 145) q n rd a b w := Q0.cong (by omega) (fun j hj => cpy_same j (by omega))
  have hz : ∀ (F i : Nat) (g : Nat → Int32), i < 4 → f_X12_findEnds_14 sp_G (F + 1) (nI q) (nI w) 100000000 (nI i) (ro X 61 g) = f_X12_findEnds_14 sp_G F (nI q) (nI w) 100000000 (nI (i + 1)) (ro X 61 (up g i 0)) := by
    intro F i g hi
    rw [f_X12_findEnds_14]
    simp (disch := omega) only [n_addl, n_addr, n_add, n_mull, n_mulr, n_mul, n_sub, n_subr, n_subl, n_cl, n_lt, n_le, n_eq, n_ltl, n_ltr, n_lel, n_ler, n_eqr, n_eql, n_nm1, n_m1n, n_m1lt, n_ltm1, l_ltr, l_ltl, l_ler, l_lel, l_m1lt, l_nneg, if_true, if_false, or_false, false_or, or_true, true_or, and_true, true_and, and_false, false_and, not_true_eq_false, not_false_eq_true, Option.bind_some, Option.bind_none, reduceIte, ltT, ltF, leT, leF, eqT, eqF, nI_lt0, az_i_ro, ro_eq, ro_ro]
  generalize hY : ro X 61 (up (up (up (up (X.1 61) 0 0) 1 0) 2 0) 3 0) = Y
  have hse : f_X12_findEnds sp_G (nI q) X = f_X12_findEnds_37 sp_G sp_G (nI q) (nI w) (nI 100000000) (nI 0) Y := by
    unfold f_X12_findEnds
    rw [show f_X12_ofQuarrel (nI q) 2 X = some (nI w) from (p_ofQuarrel (w := 2) (by omega) (by decide) X).trans (congrArg some (by rw [show 95 + 4 * q + 2 = 97 + 4 * q by omega, ← (R0.pr.2.2.2.2.2.2.1 q (by rw [cpy_same 25 (by decide)]; exact hq)).2.2.1, cpy_same _ (by omega)]; exact e3)), Option.bind_some]
    show f_X12_findEnds_14 sp_G (999995 + 1 + 1 + 1 + 1 + 1) (nI q) (nI w) 100000000 (nI 0) X = _
    refine (congrArg (f_X12_findEnds_14 sp_G (999995 + 1 + 1 + 1 + 1 + 1) (nI q) (nI w) 100000000 (nI 0)) (ro_self X 61).symm).trans ?_
    rw [hz _ 0 _ (by decide), hz _ 1 _ (by decide), hz _ 2 _ (by decide), hz _ 3 _ (by decide), f_X12_findEnds_14, if_pos (by decide), hY]
    rfl
  have feY : sp_fe X Y := by
    rw [← hY]; exact ⟨fun k _ _ h => ro_ne h, fun i _ _ => by rw [ro_ne (by decide)], fun _ _ _ _ => rfl, rfl, fun i _ => by rw [ro_ne (by decide)]⟩
  have Y42 : Y.1 42 = X.1 42 := by rw [← hY, ro_ne (by decide)]
  generalize hW : az_i (az_i (az_i (ro M 31 (cpy (M.1 2) (M.1 31) 0 0 145)) 32 1 0) 32 2 0) 32 3 0 = W
  have pc0 : sp_pc M (ro M 31 (cpy (M.1 2) (M.1 31) 0 0 145)) := ⟨fun k _ _ h _ => ro_ne h, rfl⟩
  have pcW' : sp_pc (ro M 31 (cpy (M.1 2) (M.1 31) 0 0 145)) W := by rw [← hW]; exact (sp_pc_32 _ _ _).trans ((sp_pc_32 _ _ _).trans (sp_pc_32 _ _ _))
  have W31 : W.1 31 = cpy (M.1 2) (M.1 31) 0 0 145 := by rw [← hW, gi_k (by decide), gi_k (by decide), gi_k (by decide), ro_eq]
  have P : PairS Z (sp_B m + 999) (M.1 3 2) ls (cpy (M.1 2) (M.1 31) 0 0 145) (cpy (M.1 2) (M.1 31) 0 0 145) W Y := ⟨C.pc pcW' W31 C.rg C.hB, R0.fe feY Y42, wl, sp_sim.refl _⟩
  obtain ⟨M', Mr', a1, a2, a3, a4⟩ := odds_loop hqn (by omega) ha hb hw (show rd ≤ 4 by omega) hp (2 * rd) 0 (by omega) sp_G sp_G big big _ _ _ W Y 100000000 P Q Q ⟨1, by decide⟩ (by decide) (fun j h1 h2 => by
    rw [← hW, ← hY]
    rcases (show j = 1 ∨ j = 2 ∨ j = 3 by omega) with rfl | rfl | rfl <;> rfl) (fun _ => by rw [← hY]; rfl) (by unfold sp_B; omega)
  refine ⟨M', Mr', ?_, hse.trans a2, pc0.trans (pcW'.trans a3), feY.trans a4⟩
  unfold f_X2_oddsOf
  rw [p_copy, Option.bind_some]
  simp (disch := omega) only [n_addl, n_addr, n_add, n_mull, n_mulr, n_mul, n_sub, n_subr, n_subl, n_cl, n_lt, n_le, n_eq, n_ltl, n_ltr, n_lel, n_ler, n_eqr, n_eql, n_nm1, n_m1n, n_m1lt, n_ltm1, l_ltr, l_ltl, l_ler, l_lel, l_m1lt, l_nneg, if_true, if_false, or_false, false_or, or_true, true_or, and_true, true_and, and_false, false_and, not_true_eq_false, not_false_eq_true, Option.bind_some, Option.bind_none, reduceIte, ltT, ltF, leT, leF, eqT, eqF, nI_lt0]
  rw [show (ro M (30 + 1) (cpy (M.1 (1 + 1)) (M.1 (30 + 1)) 0 0 145)).1 31 (107 + q) = nI w from (cpy_same (107 + q) (by omega)).trans e3]
  rw [← hW] at a1
  exact a1
theorem ob_odds : Ob_odds az_Inv sp_G := by
  intro m Z M a1 a2 hm h
  have hI := (h.ke (sp_ke_thrown M 0)).mono
  obtain ⟨pr, rg⟩ := h.2.2.1
  obtain ⟨n, hn, _, hn2⟩ := rg.2.2.2.1.2.2.1.nat (by decide) (by decide)
  have n42 : (az_i M 40 0 0).1 42 2 = nI n := pr.2.2.2.1.2.2.1.symm.trans hn
  have bad : f_X11_odds Z sp_G a1 a2 M = some (-1, M) → f_X12_odds sp_G a1 a2 M = some (-1, az_i M 40 0 0) → ∃ (r : Int32) (M1 M2 : az_M), f_X11_odds Z sp_G a1 a2 M = some (r, M1) ∧ f_X12_odds sp_G a1 a2 M1 = some (r, M2) ∧ az_Inv (m + 1) Z M2 := fun h1 h2 => ⟨_, _, _, h1, h2, hI⟩
  rcases v_cases a1 (n := n) (by omega) with ⟨q, hq, rfl⟩ | ⟨hb, hr⟩
  · have hq' : q < (M.1 2 25).toNatClampNeg := by rw [hn, n_cl (by omega)]; exact hq
    rcases r_cases a2 0 3 (by decide) (by decide) with ⟨p, _, hp, rfl⟩ | ⟨hb, hi⟩
    · obtain ⟨M0, Mr0, k1, _, pc, _⟩ := odds_run h hm hq' (show p < 4 by omega) M rfl rfl
      have m42 : M0.1 42 = M.1 42 := pc.1 42 (by decide) (by decide) (by decide) (by decide)
      have m40 : M0.1 40 = M.1 40 := pc.1 40 (by decide) (by decide) (by decide) (by decide)
      have m45 : M0.1 45 = M.1 45 := pc.1 45 (by decide) (by decide) (by decide) (by decide)
      generalize hX : ro (az_i M0 40 0 0) 45 (cpy ((az_i M0 40 0 0).1 42) ((az_i M0 40 0 0).1 45) 0 (150 * 16) 150) = X
      have XK : ∀ k, k ≠ 40 → k ≠ 45 → X.1 k = M0.1 k := fun k a b => by rw [← hX, ro_ne b, gi_k a]
      have XJ : ∀ j, j ≠ 0 → X.1 40 j = M.1 40 j := fun j a => by rw [← hX, ro_ne (by decide), gi, if_pos rfl, if_neg a, m40]
      have X45 : X.1 45 = cpy (M.1 42) (M.1 45) 0 (150 * 16) 150 := by rw [← hX, ro_eq, gi_k (by decide), gi_k (by decide), m42, m45]
      obtain ⟨M', Mr', q1, q2, pc', fe⟩ := odds_run h hm hq' (show p < 4 by omega) X (by rw [XK 42 (by decide) (by decide), m42]) (XJ 20 (by decide))
      have e := k1.symm.trans q1
      injection e with e
      injection e with e1 e2
      have back : r_back (Mr'.1 42) (Mr'.1 45) 16 = M.1 42 := by
        refine r_back_same (fun j hj => ?_) (fun j hj => ?_)
        · rw [fe.1 45 (by decide) (by decide) (by decide), X45, cpy_in (by omega), show 0 + (150 * 16 + j - 150 * 16) = j by omega]
        · rw [fe.2.2.2.2 j hj, XK 42 (by decide) (by decide), m42]
      refine ⟨Mr0.1 61 p, M0, ro Mr' 42 (M.1 42), ?_, ?_, (h.ke (ke_paper ?_ ?_ ?_ ?_ ?_)).mono⟩
      · unfold f_X11_odds
        rw [p_hasQuarrel1 hn (by omega) hq, Option.bind_some, if_neg (by decide), k1]
        simp (disch := omega) only [n_addl, n_addr, n_add, n_mull, n_mulr, n_mul, n_sub, n_subr, n_subl, n_cl, n_lt, n_le, n_eq, n_ltl, n_ltr, n_lel, n_ler, n_eqr, n_eql, n_nm1, n_m1n, n_m1lt, n_ltm1, l_ltr, l_ltl, l_ler, l_lel, l_m1lt, l_nneg, if_true, if_false, or_false, false_or, or_true, true_or, and_true, true_and, and_false, false_and, not_true_eq_false, not_false_eq_true, Option.bind_some, Option.bind_none, reduceIte, ltT, ltF, leT, leF, eqT, eqF, nI_lt0]
      · unfold f_X12_odds
        rw [p_isQuarrel1 (M := az_i M0 40 0 0) (by rw [gi_k (by decide), m42]; exact n42) (by omega) hq, Option.bind_some, if_neg (by decide), show f_X12_in (nI p).toInt64 0 3 _ = some 1 from g_in (Nat.zero_le p) hp (by decide) _, Option.bind_some, if_neg (by decide), show ∀ M, f_X12_keepAll sp_G 16 M = some (ro M 45 (cpy (M.1 42) (M.1 45) 0 (150 * 16) 150)) from fun M => p_keepAll (q := 16) (by decide) M, Option.bind_some, hX, q2, Option.bind_some, show ∀ M, f_X12_putBack sp_G 16 M = some (ro M 42 (r_back (M.1 42) (M.1 45) 16)) from fun M => p_putBack (q := 16) (by decide) M, Option.bind_some, back]
        simp (disch := omega) only [n_addl, n_addr, n_add, n_mull, n_mulr, n_mul, n_sub, n_subr, n_subl, n_cl, n_lt, n_le, n_eq, n_ltl, n_ltr, n_lel, n_ler, n_eqr, n_eql, n_nm1, n_m1n, n_m1lt, n_ltm1, l_ltr, l_ltl, l_ler, l_lel, l_m1lt, l_nneg, if_true, if_false, or_false, false_or, or_true, true_or, and_true, true_and, and_false, false_and, not_true_eq_false, not_false_eq_true, Option.bind_some, Option.bind_none, reduceIte, ltT, ltF, leT, leF, eqT, eqF, nI_lt0]
        rw [ro_ne (by decide), e1]
      · intro k a b c d e f g
        by_cases h42 : k = 42
        · subst h42; rw [ro_eq]
        · rw [ro_ne h42, fe.1 k e h42 g, XK k e f, pc.1 k a b c d]
      · intro j a b c
        rw [ro_ne (by decide), fe.2.1 j b c, XJ j a]
      · intro j hj
        rw [ro_ne (by decide), fe.1 45 (by decide) (by decide) (by decide), X45, cpy_out (by omega)]
      · intro k hk
        rw [ro_2, fe.2.2.1 k (by omega) (by omega) (by omega), ← hX]
        show M0.2.1 k = _
        rw [pc.2]
      · rw [ro_2, fe.2.2.2.1, ← hX]
        show M0.2.2 = _
        rw [pc.2]
    · refine bad ?_ ?_
      · unfold f_X11_odds f_X11_odds_20
        rw [p_hasQuarrel1 hn (by omega) hq, Option.bind_some, if_neg (by decide)]
        exact i_bad (lo := 0) (hi := 3) hb
      · unfold f_X12_odds
        rw [p_isQuarrel1 n42 (by omega) hq, Option.bind_some, if_neg (by decide), show f_X12_in a2.toInt64 0 3 _ = some 0 from hi _]
        rfl
  · refine bad ?_ ?_
    · unfold f_X11_odds
      rw [p_hasQuarrel0 (by rw [show M.1 (1 + 1) 25 = nI n from hn]; exact hb)]
      rfl
    · unfold f_X12_odds
      rw [p_isQuarrel0 (by rw [n42]; exact hr)]
      rfl
