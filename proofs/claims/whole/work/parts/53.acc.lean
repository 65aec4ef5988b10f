theorem nI_lt0 {k : Nat} (h : k < 2147483648) : (nI k < 0) = False := eq_false (nI_pos h)
/-- an argument is one of so many, or neither program takes it -/
theorem v_cases (p : Int32) {n : Nat} (hn : n < 2147483648) : (∃ k, k < n ∧ p = nI k) ∨ ((p < 0 ∨ nI n ≤ p) ∧ (p.toInt64 < 0 ∨ (nI n).toInt64 - 1 < p.toInt64)) := by
  rcases n_cases p with h | ⟨k, hk, rfl⟩
  · exact Or.inr ⟨Or.inl h, Or.inl (l_neg h)⟩
  · by_cases h : k < n
    · exact Or.inl ⟨k, h, rfl⟩
    · refine Or.inr ⟨Or.inr ?_, Or.inr ?_⟩
      · rw [n_le hn hk]; omega
      · rw [l_m1lt hk hn]; omega
theorem p_hasPlace1 {o n k : Nat} {M : az_M} (hN : M.1 (o + 1) 23 = nI n) (hn : n < 2147483648) (hk : k < n) : f_X4_hasPlace o (nI k) M = some 1 := by
  unfold f_X4_hasPlace
  rw [hN, if_neg (by rw [nI_lt0 (by omega)]; exact id), if_neg (by rw [n_le hn (by omega)]; omega)]; rfl
theorem p_hasPlace0 {o : Nat} {p : Int32} {M : az_M} (h : p < 0 ∨ M.1 (o + 1) 23 ≤ p) : f_X4_hasPlace o p M = some 0 := by
  unfold f_X4_hasPlace
  by_cases h1 : p < 0
  · rw [if_pos h1]; rfl
  · rw [if_neg h1, if_pos (h.resolve_left h1)]; rfl
theorem p_isPlace1 {n k : Nat} {M : az_M} (hN : M.1 42 0 = nI n) (hn : n < 2147483648) (hk : k < n) : f_X12_isPlace (nI k) M = some 1 := by
  unfold f_X12_isPlace
  rw [p_in, hN, if_neg (by rw [l_nneg (by omega)]; exact id), if_neg (by rw [l_m1lt (by omega) hn]; omega)]; rfl
theorem p_isPlace0 {p : Int32} {M : az_M} (h : p.toInt64 < 0 ∨ (M.1 42 0).toInt64 - 1 < p.toInt64) : f_X12_isPlace p M = some 0 := by
  unfold f_X12_isPlace
  rw [p_in]
  by_cases h1 : p.toInt64 < 0
  · rw [if_pos h1]; rfl
  · rw [if_neg h1, if_pos (h.resolve_left h1)]; rfl
theorem p_hasPerson1 {o n k : Nat} {M : az_M} (hN : M.1 (o + 1) 24 = nI n) (hn : n < 2147483648) (hk : k < n) : f_X4_hasPerson o (nI k) M = some 1 := by
  unfold f_X4_hasPerson
  rw [hN, if_neg (by rw [nI_lt0 (by omega)]; exact id), if_neg (by rw [n_le hn (by omega)]; omega)]; rfl
theorem p_hasPerson0 {o : Nat} {p : Int32} {M : az_M} (h : p < 0 ∨ M.1 (o + 1) 24 ≤ p) : f_X4_hasPerson o p M = some 0 := by
  unfold f_X4_hasPerson
  by_cases h1 : p < 0
  · rw [if_pos h1]; rfl
  · rw [if_neg h1, if_pos (h.resolve_left h1)]; rfl
theorem p_isPerson1 {n k : Nat} {M : az_M} (hN : M.1 42 1 = nI n) (hn : n < 2147483648) (hk : k < n) : f_X12_isPerson (nI k) M = some 1 := by
  unfold f_X12_isPerson
  rw [p_in, hN, if_neg (by rw [l_nneg (by omega)]; exact id), if_neg (by rw [l_m1lt (by omega) hn]; omega)]; rfl
theorem p_isPerson0 {p : Int32} {M : az_M} (h : p.toInt64 < 0 ∨ (M.1 42 1).toInt64 - 1 < p.toInt64) : f_X12_isPerson p M = some 0 := by
  unfold f_X12_isPerson
  rw [p_in]
  by_cases h1 : p.toInt64 < 0
  · rw [if_pos h1]; rfl
  · rw [if_neg h1, if_pos (h.resolve_left h1)]; rfl
theorem p_hasQuarrel1 {o n k : Nat} {M : az_M} (hN : M.1 (o + 1) 25 = nI n) (hn : n < 2147483648) (hk : k < n) : f_X4_hasQuarrel o (nI k) M = some 1 := by
  unfold f_X4_hasQuarrel
  rw [hN, if_neg (by rw [nI_lt0 (by omega)]; exact id), if_neg (by rw [n_le hn (by omega)]; omega)]; rfl
theorem p_hasQuarrel0 {o : Nat} {p : Int32} {M : az_M} (h : p < 0 ∨ M.1 (o + 1) 25 ≤ p) : f_X4_hasQuarrel o p M = some 0 := by
  unfold f_X4_hasQuarrel
  by_cases h1 : p < 0
  · rw [if_pos h1]; rfl
  · rw [if_neg h1, if_pos (h.resolve_left h1)]; rfl
theorem p_isQuarrel1 {n k : Nat} {M : az_M} (hN : M.1 42 2 = nI n) (hn : n < 2147483648) (hk : k < n) : f_X12_isQuarrel (nI k) M = some 1 := by
  unfold f_X12_isQuarrel
  rw [p_in, hN, if_neg (by rw [l_nneg (by omega)]; exact id), if_neg (by rw [l_m1lt (by omega) hn]; omega)]; rfl
theorem p_isQuarrel0 {p : Int32} {M : az_M} (h : p.toInt64 < 0 ∨ (M.1 42 2).toInt64 - 1 < p.toInt64) : f_X12_isQuarrel p M = some 0 := by
  unfold f_X12_isQuarrel
  rw [p_in]
  by_cases h1 : p.toInt64 < 0
  · rw [if_pos h1]; rfl
  · rw [if_neg h1, if_pos (h.resolve_left h1)]; rfl
theorem p_bulletOf {k : Nat} (hk : k < 5000) (M : az_M) : f_X12_bulletOf (nI k) M = some (M.1 42 (11 + k)) := by
  unfold f_X12_bulletOf
  simp (disch := omega) only [n_addl, n_addr, n_add, n_mull, n_mulr, n_mul, n_sub, n_subr, n_subl, n_cl, n_lt, n_le, n_eq, n_ltl, n_ltr, n_lel, n_ler, n_eqr, n_eql, n_nm1, n_m1n, n_m1lt, n_ltm1, l_ltr, l_ltl, l_ler, l_lel, l_m1lt, l_nneg, if_true, if_false, or_false, false_or, or_true, true_or, and_true, true_and, and_false, false_and, not_true_eq_false, not_false_eq_true, Option.bind_some, Option.bind_none, reduceIte, ltT, ltF, leT, leF, eqT, eqF, nI_lt0]
theorem p_term {k : Nat} (hk : k < 5000) (M : az_M) : f_X12_term (nI k) M = some (M.1 42 (6 + k)) := by
  unfold f_X12_term
  simp (disch := omega) only [n_addl, n_addr, n_add, n_mull, n_mulr, n_mul, n_sub, n_subr, n_subl, n_cl, n_lt, n_le, n_eq, n_ltl, n_ltr, n_lel, n_ler, n_eqr, n_eql, n_nm1, n_m1n, n_m1lt, n_ltm1, l_ltr, l_ltl, l_ler, l_lel, l_m1lt, l_nneg, if_true, if_false, or_false, false_or, or_true, true_or, and_true, true_and, and_false, false_and, not_true_eq_false, not_false_eq_true, Option.bind_some, Option.bind_none, reduceIte, ltT, ltF, leT, leF, eqT, eqF, nI_lt0]
theorem p_ofPlace {k w : Nat} (hk : k < 12) (hw : w < 4) (M : az_M) : f_X12_ofPlace (nI k) (nI w) M = some (M.1 42 (17 + 4 * k + w)) := by
  unfold f_X12_ofPlace
  simp (disch := omega) only [n_addl, n_addr, n_add, n_mull, n_mulr, n_mul, n_sub, n_subr, n_subl, n_cl, n_lt, n_le, n_eq, n_ltl, n_ltr, n_lel, n_ler, n_eqr, n_eql, n_nm1, n_m1n, n_m1lt, n_ltm1, l_ltr, l_ltl, l_ler, l_lel, l_m1lt, l_nneg, if_true, if_false, or_false, false_or, or_true, true_or, and_true, true_and, and_false, false_and, not_true_eq_false, not_false_eq_true, Option.bind_some, Option.bind_none, reduceIte, ltT, ltF, leT, leF, eqT, eqF, nI_lt0]
theorem p_ofPerson {k w : Nat} (hk : k < 10) (hw : w < 3) (M : az_M) : f_X12_ofPerson (nI k) (nI w) M = some (M.1 42 (65 + 3 * k + w)) := by
  unfold f_X12_ofPerson
  simp (disch := omega) only [n_addl, n_addr, n_add, n_mull, n_mulr, n_mul, n_sub, n_subr, n_subl, n_cl, n_lt, n_le, n_eq, n_ltl, n_ltr, n_lel, n_ler, n_eqr, n_eql, n_nm1, n_m1n, n_m1lt, n_ltm1, l_ltr, l_ltl, l_ler, l_lel, l_m1lt, l_nneg, if_true, if_false, or_false, false_or, or_true, true_or, and_true, true_and, and_false, false_and, not_true_eq_false, not_false_eq_true, Option.bind_some, Option.bind_none, reduceIte, ltT, ltF, leT, leF, eqT, eqF, nI_lt0]
theorem p_ofQuarrel {k w : Nat} (hk : k < 7) (hw : w < 4) (M : az_M) : f_X12_ofQuarrel (nI k) (nI w) M = some (M.1 42 (95 + 4 * k + w)) := by
  unfold f_X12_ofQuarrel
  simp (disch := omega) only [n_addl, n_addr, n_add, n_mull, n_mulr, n_mul, n_sub, n_subr, n_subl, n_cl, n_lt, n_le, n_eq, n_ltl, n_ltr, n_lel, n_ler, n_eqr, n_eql, n_nm1, n_m1n, n_m1lt, n_ltm1, l_ltr, l_ltl, l_ler, l_lel, l_m1lt, l_nneg, if_true, if_false, or_false, false_or, or_true, true_or, and_true, true_and, and_false, false_and, not_true_eq_false, not_false_eq_true, Option.bind_some, Option.bind_none, reduceIte, ltT, ltF, leT, leF, eqT, eqF, nI_lt0]
/-- the bullet can be fired: class, reference -/
def sp_can (N : Nat → Int32) : Int32 := if N 3 = 0 then (if N 0 < N 18 then 0 else 1) else 0
theorem p_canBeFired (o : Nat) (M : az_M) : f_X4_canBeFired o M = some (sp_can (M.1 (o + 1))) := by
  unfold f_X4_canBeFired sp_can f_X4_canBeFired_29 f_X4_canBeFired_30
  by_cases h : M.1 (o + 1) 3 = 0
  · rw [if_pos h, if_pos h]
    by_cases h2 : M.1 (o + 1) 0 < M.1 (o + 1) 18
    · rw [if_pos h2, if_pos h2]; rfl
    · rw [if_neg h2, if_neg h2]; rfl
  · rw [if_neg h, if_neg h]; rfl
theorem p_canFire (M : az_M) : f_X12_canFire M = some (if M.1 42 14 = 0 then (if M.1 42 11 < M.1 42 8 then 0 else 1) else 0) := by
  unfold f_X12_canFire
  rw [show f_X12_bulletOf 3 M = some (M.1 42 14) from p_bulletOf (k := 3) (by omega) M, show f_X12_bulletOf 0 M = some (M.1 42 11) from p_bulletOf (k := 0) (by omega) M, show f_X12_term 2 M = some (M.1 42 8) from p_term (k := 2) (by omega) M, Option.bind_some, Option.bind_some, Option.bind_some]
  by_cases h : M.1 42 14 = 0
  · rw [if_pos h, if_pos h]
    by_cases h2 : M.1 42 11 < M.1 42 8
    · rw [if_pos h2, if_pos h2]; rfl
    · rw [if_neg h2, if_neg h2]; rfl
  · rw [if_neg h, if_neg h]; rfl
theorem sp_can01 (N : Nat → Int32) : sp_can N = 0 ∨ sp_can N = 1 := by
  unfold sp_can
  split
  · split
    · exact Or.inl rfl
    · exact Or.inr rfl
  · exact Or.inl rfl
theorem p_canFire' {N : Nat → Int32} {M : az_M} (h : sp_pr N (M.1 42)) : f_X12_canFire M = some (sp_can N) := by
  obtain ⟨⟨h0, _, _, h3⟩, ht, _⟩ := h
  have h18 : N 18 = M.1 42 8 := ht 2 (by decide)
  rw [p_canFire, sp_can, h0, h3, h18]
theorem p_shotAt {o : Nat} {M : az_M} (hg : sp_in (M.1 (o + 1) 26) 0 24) (p : Int32) : f_X4_shotAt o p M = some (if p < 0 then -1 else if M.1 (o + 1) 26 ≤ p then -1 else M.1 (o + 1) (121 + p.toNatClampNeg)) := by
  unfold f_X4_shotAt f_X4_shotAt_27 f_X4_shotAt_28
  obtain ⟨n, hn, _, hn2⟩ := hg.nat (by decide) (by decide)
  rw [hn]
  rcases n_cases p with h | ⟨k, hk, rfl⟩
  · rw [if_pos h, if_pos h]
  · by_cases h2 : nI n ≤ nI k
    · rw [if_neg (nI_pos hk), if_pos h2, if_neg (nI_pos hk), if_pos h2]
    · have h3 : k < n := by rw [n_le (by omega) hk] at h2; omega
      rw [if_neg (nI_pos hk), if_neg h2, if_neg h2]
      simp (disch := omega) only [n_addl, n_addr, n_add, n_mull, n_mulr, n_mul, n_sub, n_subr, n_subl, n_cl, n_lt, n_le, n_eq, n_ltl, n_ltr, n_lel, n_ler, n_eqr, n_eql, n_nm1, n_m1n, n_m1lt, n_ltm1, l_ltr, l_ltl, l_ler, l_lel, l_m1lt, l_nneg, if_true, if_false, or_false, false_or, or_true, true_or, and_true, true_and, and_false, false_and, not_true_eq_false, not_false_eq_true, Option.bind_some, Option.bind_none, reduceIte, ltT, ltF, leT, leF, eqT, eqF, nI_lt0]
theorem ob_bullet : Ob_bullet az_Inv sp_G := by
  intro m Z M a1 _ h
  have hI := (h.ke (sp_ke_thrown M 0)).mono
  obtain ⟨hp, hg⟩ := h.2.2.1
  have hp' : sp_pr (M.1 2) ((az_i M 40 0 0).1 42) := hp
  obtain ⟨⟨p0, p1, p2, p3⟩, hp2, hp3, ⟨_, _, _, p26⟩, _, _, _, p121⟩ := hp
  obtain ⟨l, hl1, hl2, hl3⟩ := hg.2.2.2.1.2.2.2.nat (by decide) (by decide)
  rcases n_cases a1 with hn | ⟨k, hk, rfl⟩
  · refine ⟨-1, _, ?_, ?_, hI⟩
    · unfold f_X11_bullet
      rw [if_neg (fun e => by rw [e] at hn; exact absurd hn (by decide)), if_neg (fun e => by rw [e] at hn; exact absurd hn (by decide)), if_pos hn]; rfl
    · unfold f_X12_bullet
      rw [p_in, if_pos (l_neg hn)]; rfl
  · by_cases h6 : k < 6
    · rcases (show k = 0 ∨ k = 1 ∨ k = 2 ∨ k = 3 ∨ k = 4 ∨ k = 5 by omega) with rfl | rfl | rfl | rfl | rfl | rfl
      · exact ⟨M.1 2 0, _, rfl, by rw [p0]; rfl, hI⟩
      · exact ⟨M.1 2 1, _, rfl, by rw [p1]; rfl, hI⟩
      · exact ⟨M.1 2 2, _, rfl, by rw [p2]; rfl, hI⟩
      · exact ⟨M.1 2 3, _, rfl, by rw [p3]; rfl, hI⟩
      · refine ⟨sp_can (M.1 2), _, ?_, ?_, hI⟩
        · show ((f_X4_canBeFired 1 M).bind fun q8 => _) = _
          rw [p_canBeFired]
          rcases sp_can01 (M.1 2) with e | e <;> · rw [e]; rfl
        · show ((f_X12_canFire (az_i M 40 0 0)).bind fun q8 => _) = _
          rw [p_canFire' hp']
          rcases sp_can01 (M.1 2) with e | e <;> · rw [e]; rfl
      · have e42 : (az_i M 40 0 0).1 42 = M.1 42 := gi_k (by decide)
        refine ⟨if l = 0 then -1 else M.1 2 (120 + l), _, ?_, ?_, hI⟩
        · show ((f_X4_shotAt 1 (M.1 2 26 - 1) M).bind fun q6 => _) = _
          rw [p_shotAt hg.2.2.2.1.2.2.2]
          show some (if M.1 2 26 - 1 < 0 then -1 else if M.1 2 26 ≤ M.1 2 26 - 1 then -1 else M.1 2 (121 + (M.1 2 26 - 1).toNatClampNeg)) = _
          rw [hl1]
          by_cases hz : l = 0
          · subst hz; rfl
          · simp (disch := omega) only [n_addl, n_addr, n_add, n_mull, n_mulr, n_mul, n_sub, n_subr, n_subl, n_cl, n_lt, n_le, n_eq, n_ltl, n_ltr, n_lel, n_ler, n_eqr, n_eql, n_nm1, n_m1n, n_m1lt, n_ltm1, l_ltr, l_ltl, l_ler, l_lel, l_m1lt, l_nneg, if_true, if_false, or_false, false_or, or_true, true_or, and_true, true_and, and_false, false_and, not_true_eq_false, not_false_eq_true, Option.bind_some, Option.bind_none, reduceIte, ltT, ltF, leT, leF, eqT, eqF, nI_lt0]
            rw [show 121 + (l - 1) = 120 + l by omega]
        · show (if (az_i M 40 0 0).1 42 3 = 0 then _ else _) = _
          rw [e42, ← p26, hl1]
          unfold f_X12_bullet_79
          by_cases hz : l = 0
          · subst hz; rfl
          · simp (disch := omega) only [n_addl, n_addr, n_add, n_mull, n_mulr, n_mul, n_sub, n_subr, n_subl, n_cl, n_lt, n_le, n_eq, n_ltl, n_ltr, n_lel, n_ler, n_eqr, n_eql, n_nm1, n_m1n, n_m1lt, n_ltm1, l_ltr, l_ltl, l_ler, l_lel, l_m1lt, l_nneg, if_true, if_false, or_false, false_or, or_true, true_or, and_true, true_and, and_false, false_and, not_true_eq_false, not_false_eq_true, Option.bind_some, Option.bind_none, reduceIte, ltT, ltF, leT, leF, eqT, eqF, nI_lt0]
            have := p121 (l - 1) (by omega)
            rw [show 123 + l - 1 = 123 + (l - 1) by omega, ← this, show 121 + (l - 1) = 120 + l by omega]
    · refine ⟨-1, _, ?_, ?_, hI⟩
      · unfold f_X11_bullet
        simp (disch := omega) only [n_addl, n_addr, n_add, n_mull, n_mulr, n_mul, n_sub, n_subr, n_subl, n_cl, n_lt, n_le, n_eq, n_ltl, n_ltr, n_lel, n_ler, n_eqr, n_eql, n_nm1, n_m1n, n_m1lt, n_ltm1, l_ltr, l_ltl, l_ler, l_lel, l_m1lt, l_nneg, if_true, if_false, or_false, false_or, or_true, true_or, and_true, true_and, and_false, false_and, not_true_eq_false, not_false_eq_true, Option.bind_some, Option.bind_none, reduceIte, ltT, ltF, leT, leF, eqT, eqF, nI_lt0]
        rfl
      · unfold f_X12_bullet
        simp (disch := omega) only [p_in, n_addl, n_addr, n_add, n_mull, n_mulr, n_mul, n_sub, n_subr, n_subl, n_cl, n_lt, n_le, n_eq, n_ltl, n_ltr, n_lel, n_ler, n_eqr, n_eql, n_nm1, n_m1n, n_m1lt, n_ltm1, l_ltr, l_ltl, l_ler, l_lel, l_m1lt, l_nneg, if_true, if_false, or_false, false_or, or_true, true_or, and_true, true_and, and_false, false_and, not_true_eq_false, not_false_eq_true, Option.bind_some, Option.bind_none, reduceIte, ltT, ltF, leT, leF, eqT, eqF, nI_lt0]
