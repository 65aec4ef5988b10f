/-! queue(): the class -/
theorem rwF.of36 {d : Nat} {M : az_M} {f : Nat → Int32} (h : ∀ j, 17 ≤ j → f j = M.1 36 j) : rwF d M (ro M 36 f) := ⟨fun k _ _ _ a _ _ _ => ro_ne a, fun j _ _ _ _ => by rw [ro_ne (by decide)], fun j hj => by rw [ro_eq]; exact h j hj, fun j _ => by rw [ro_ne (by decide)], rfl⟩
theorem can_iff (N : Nat → Int32) : sp_can N = 0 ↔ ¬ (N 3 = 0 ∧ N 18 ≤ N 0) := by
  unfold sp_can
  by_cases h3 : N 3 = 0
  · rw [if_pos h3]
    by_cases h0 : N 0 < N 18
    · rw [if_pos h0]
      refine ⟨fun _ e => ?_, fun _ => rfl⟩
      have := e.2
      rw [Int32.le_iff_toInt_le] at this; rw [Int32.lt_iff_toInt_lt] at h0; omega
    · rw [if_neg h0]
      refine ⟨fun e => absurd e (by decide), fun e => absurd ⟨h3, ?_⟩ e⟩
      rw [Int32.lt_iff_toInt_lt] at h0; rw [Int32.le_iff_toInt_le]; omega
  · rw [if_neg h3]; exact ⟨fun _ e => h3 e.1, fun _ => rfl⟩
theorem c_missed {Z : az_S × Nat} {inF : Int32} {ls : Nat → sp_L} {q rd w : Nat} {due : Int32} (hq : q < 7) (hw : w < 12) (hrd : rd ≤ 4) : ∀ (e i F : Nat), i + e = 2 * rd → e < F → ∀ (B : Nat) (N : Nat → Int32) (M : az_M), ClsAt Z B 35 inF ls N M → N 17 = nI rd → N (114 + q) = due → B + e ≤ 1000000000 →
    ∃ r M', f_X7_canBeMissed_15 Z sp_G F (nI q) (nI w) (nI i) M = some (r, M') ∧ rwF 8 M M' ∧ M'.1 34 = M.1 34 ∧ M'.1 38 = M.1 38 ∧ M'.1 39 = M.1 39 ∧ (match sp_shots (sp_law inF ls) e N w with | none => r = 0 | some N' => if N' 16 ≤ due then r = 1 ∧ M'.1 36 = N' ∧ sp_rg (B + e) N' else r = 0) := by
  intro e
  induction e with
  | zero =>
    intro i F hi hF B N M C h17 hdue hB
    obtain ⟨F, rfl⟩ : ∃ F1, F = F1 + 1 := ⟨F - 1, by omega⟩
    have hr : M.1 36 = N := C.row
    rw [f_X7_canBeMissed_15, hr, h17]
    unfold f_X7_canBeMissed_92
    simp (disch := omega) only [n_addl, n_addr, n_add, n_mull, n_mulr, n_mul, n_sub, n_subr, n_subl, n_cl, n_lt, n_le, n_eq, n_ltl, n_ltr, n_lel, n_ler, n_eqr, n_eql, n_nm1, n_m1n, n_m1lt, n_ltm1, l_ltr, l_ltl, l_ler, l_lel, l_m1lt, l_nneg, if_true, if_false, or_false, false_or, or_true, true_or, and_true, true_and, and_false, false_and, not_true_eq_false, not_false_eq_true, Option.bind_some, Option.bind_none, reduceIte, ltT, ltF, leT, leF, eqT, eqF, nI_lt0]
    rw [hdue]
    by_cases h : due < N 16
    · rw [if_pos h]
      refine ⟨0, M, rfl, rwF.refl _ _, rfl, rfl, rfl, ?_⟩
      show if N 16 ≤ due then _ else _
      rw [if_neg (by rw [Int32.lt_iff_toInt_lt] at h; rw [Int32.le_iff_toInt_le]; omega)]
    · rw [if_neg h]
      refine ⟨1, M, rfl, rwF.refl _ _, rfl, rfl, rfl, ?_⟩
      show if N 16 ≤ due then _ else _
      rw [if_pos (by rw [Int32.lt_iff_toInt_lt] at h; rw [Int32.le_iff_toInt_le]; omega)]
      exact ⟨rfl, hr, C.rg⟩
  | succ e ih =>
    intro i F hi hF B N M C h17 hdue hB
    obtain ⟨F, rfl⟩ : ∃ F1, F = F1 + 1 := ⟨F - 1, by omega⟩
    have hr : M.1 36 = N := C.row
    rw [f_X7_canBeMissed_15, p_canBeFired, show M.1 (35 + 1) = N from hr, h17, sp_shots]
    simp (disch := omega) only [n_addl, n_addr, n_add, n_mull, n_mulr, n_mul, n_sub, n_subr, n_subl, n_cl, n_lt, n_le, n_eq, n_ltl, n_ltr, n_lel, n_ler, n_eqr, n_eql, n_nm1, n_m1n, n_m1lt, n_ltm1, l_ltr, l_ltl, l_ler, l_lel, l_m1lt, l_nneg, if_true, if_false, or_false, false_or, or_true, true_or, and_true, true_and, and_false, false_and, not_true_eq_false, not_false_eq_true, Option.bind_some, Option.bind_none, reduceIte, ltT, ltF, leT, leF, eqT, eqF, nI_lt0]
    by_cases hc : sp_can N = 0
    · rw [if_pos hc, if_neg ((can_iff N).mp hc)]
      exact ⟨0, M, rfl, rwF.refl _ _, rfl, rfl, rfl, rfl⟩
    · rw [if_neg hc, if_pos (Decidable.not_not.mp (fun e => hc ((can_iff N).mpr e)))]
      obtain ⟨S, s1, s2, s3, s4⟩ := p_shoot0 C hw
      have s2' : S.1 36 = sp_shot (sp_law inF ls) N w := s2
      have fS : rwF 8 M S := ⟨fun k a b _ c _ _ _ => s3 k a b c, fun j _ _ _ _ => by rw [s3 34 (by decide) (by decide) (by decide)], fun j hj => by rw [s2', hr, shot_17 _ _ hw hj], fun j _ => by rw [s3 37 (by decide) (by decide) (by decide)], s4⟩
      have rg' := shot_rg C.rg (by omega) (sp_law inF ls) hw
      rw [s1, Option.bind_some]
      obtain ⟨r, M', a1, a2, a3, a4, a5, a6⟩ := ih (i + 1) F (by omega) (by omega) (B + 1) _ S (C.rw fS s2' rg' (by omega)) (by rw [shot_17 _ _ hw (by omega)]; exact h17) (by rw [shot_17 _ _ hw (by omega)]; exact hdue) (by omega)
      refine ⟨r, M', a1, fS.trans a2, by rw [a3, s3 34 (by decide) (by decide) (by decide)], by rw [a4, s3 38 (by decide) (by decide) (by decide)], by rw [a5, s3 39 (by decide) (by decide) (by decide)], ?_⟩
      rw [show B + (e + 1) = B + 1 + e by omega]; exact a6
theorem c_miss {Z : az_S × Nat} {B : Nat} {inF : Int32} {ls : Nat → sp_L} {N : Nat → Int32} {M : az_M} (C : ClsAt Z B 35 inF ls N M) {q : Nat} (hq : q < (N 25).toNatClampNeg) (hB : B + 8 ≤ 1000000000) :
    ∃ r M', f_X7_canBeMissed Z sp_G (nI q) M = some (r, M') ∧ rwF 8 M M' ∧ M'.1 34 = M.1 34 ∧ M'.1 38 = M.1 38 ∧ M'.1 39 = M.1 39 ∧ (sp_miss (sp_law inF ls) N q = none → r = 0) ∧ ∀ N', sp_miss (sp_law inF ls) N q = some N' → r = 1 ∧ ClsAt Z (B + 8) 35 inF ls N' M' ∧ ∀ j, 17 ≤ j → N' j = N j := by
  obtain ⟨a, b, w, d, e1, ha, e2, hb, hab, e3, hw, e4, hd⟩ := quar C.rg hq
  obtain ⟨rd, hrd, hrd1, hrd2⟩ := C.rg.2.1.2.1.nat (by decide) (by decide)
  have h7 := C.rg.q7
  obtain ⟨r, M', a1, a2, a3, a4, a5, a6⟩ := c_missed (due := N (114 + q)) (show q < 7 by omega) hw (show rd ≤ 4 by omega) (2 * rd) 0 sp_G (by omega) (by show 2 * rd < 1000000; omega) B N M C hrd rfl (by omega)
  refine ⟨r, M', ?_, a2, a3, a4, a5, fun h => ?_, fun N' h => ?_⟩
  · unfold f_X7_canBeMissed
    simp (disch := omega) only [n_addl, n_addr, n_add, n_mull, n_mulr, n_mul, n_sub, n_subr, n_subl, n_cl, n_lt, n_le, n_eq, n_ltl, n_ltr, n_lel, n_ler, n_eqr, n_eql, n_nm1, n_m1n, n_m1lt, n_ltm1, l_ltr, l_ltl, l_ler, l_lel, l_m1lt, l_nneg, if_true, if_false, or_false, false_or, or_true, true_or, and_true, true_and, and_false, false_and, not_true_eq_false, not_false_eq_true, Option.bind_some, Option.bind_none, reduceIte, ltT, ltF, leT, leF, eqT, eqF, nI_lt0]
    rw [show M.1 36 (107 + q) = nI w from (congrFun C.row _).trans e3]; exact a1
  · rw [miss_eq _ hw e3 hrd (by omega) (by omega)] at h
    cases hs : sp_shots (sp_law inF ls) (2 * rd) N w with
    | none => rw [hs] at a6; exact a6
    | some N' =>
      rw [hs] at a6 h
      by_cases hc : N' 16 ≤ N (114 + q)
      · simp only [if_pos hc] at h; cases h
      · simp only [if_neg hc] at a6; exact a6
  · rw [miss_eq _ hw e3 hrd (by omega) (by omega)] at h
    cases hs : sp_shots (sp_law inF ls) (2 * rd) N w with
    | none => rw [hs] at h; cases h
    | some N1 =>
      rw [hs] at a6 h
      by_cases hc : N1 16 ≤ N (114 + q)
      · simp only [if_pos hc] at h a6
        injection h with h
        subst h
        exact ⟨a6.1, C.rw a2 a6.2.1 (a6.2.2.mono (by omega)) (by omega), shots_17 _ hw _ _ _ hs⟩
      · simp only [if_neg hc] at h; cases h
/-- those that weren't had -/
def rem (n had : Nat) : List Nat := (List.range n).filter (fun q => !had.testBit q)
theorem rem_or {n had q : Nat} : rem n (had ||| 2 ^ q) = (rem n had).filter (fun r => r != q) := by
  unfold rem
  rw [List.filter_filter]
  refine List.filter_congr fun r _ => ?_
  rw [Nat.testBit_or, Nat.testBit_two_pow]
  by_cases h : r = q
  · subst h; simp
  · have h1 : ¬ q = r := fun e => h e.symm
    have h2 : (r != q) = true := by simp [h]
    rw [decide_eq_false h1, Bool.or_false, h2, Bool.true_and]
def cntV (one : Int32) (rs : List (List Nat × Int32)) : Nat := if one = 0 then rs.length else if rs = [] then 0 else 1
theorem cntV_0 {one : Int32} {rs : List (List Nat × Int32)} : cntV one rs = 0 ↔ rs = [] := by
  unfold cntV
  by_cases h : one = 0
  · rw [if_pos h, List.length_eq_zero_iff]
  · rw [if_neg h]
    by_cases h2 : rs = []
    · rw [if_pos h2]; exact ⟨fun _ => h2, fun _ => rfl⟩
    · rw [if_neg h2]; exact ⟨fun e => absurd e (by decide), fun e => absurd e h2⟩
theorem cntV_le (one : Int32) (rs : List (List Nat × Int32)) : cntV one rs ≤ rs.length := by
  unfold cntV
  by_cases h : one = 0
  · rw [if_pos h]; exact Nat.le_refl _
  · rw [if_neg h]
    cases rs with
    | nil => exact Nat.le_refl _
    | cons x xs => rw [if_neg (by simp), List.length_cons]; omega
/-- what is known behind -/
def tabOK (l : Option sp_L) (n : Nat) (one : Int32) (base : Nat → Int32) (b : Int) (M : az_M) : Prop :=
  ∀ had, had < 128 → M.1 38 had = -1 ∨ ∀ N : Nat → Int32, (∀ j, j < 17 → N j = M.1 39 (17 * had + j)) → (∀ j, 17 ≤ j → N j = base j) → M.1 38 had = nI (cntV one (sp_rows l (rem n had).length (rem n had) N)) ∧ ∀ x, x ∈ sp_rows l (rem n had).length (rem n had) N → x.2.toInt ≤ b
theorem tabOK.mono {l : Option sp_L} {n : Nat} {one : Int32} {base : Nat → Int32} {b b' : Int} {M : az_M} (h : tabOK l n one base b M) (hb : b ≤ b') : tabOK l n one base b' M := by
  intro had hh
  rcases h had hh with a | a
  · exact Or.inl a
  · exact Or.inr fun N h1 h2 => ⟨(a N h1 h2).1, fun x hx => Int.le_trans ((a N h1 h2).2 x hx) hb⟩
theorem tabOK.cong {l : Option sp_L} {n : Nat} {one : Int32} {base : Nat → Int32} {b : Int} {M M' : az_M} (h : tabOK l n one base b M) (h38 : M'.1 38 = M.1 38) (h39 : M'.1 39 = M.1 39) : tabOK l n one base b M' := by
  unfold tabOK; rw [h38, h39]; exact h
def nopos (M : az_M) : Prop := ∀ had, had < 128 → M.1 38 had = -1 ∨ M.1 38 had = 0
theorem p_known {had : Nat} (hh : had < 128) (M : az_M) : ∃ r, f_X7_isKnownBehind sp_G (nI had) M = some r ∧ (r = 0 ∨ (r = 1 ∧ M.1 38 had ≠ -1 ∧ ∀ j, j < 17 → M.1 39 (17 * had + j) = M.1 36 j)) := by
  unfold f_X7_isKnownBehind
  rw [if_neg (nI_in (by omega) (by decide)), n_cl (by omega)]
  by_cases hm : M.1 38 had = -1
  · rw [if_pos hm]; exact ⟨0, rfl, Or.inl rfl⟩
  · rw [if_neg hm]
    have K : ∀ (e i F : Nat), i + e = 17 → e < F → (∀ j, j < i → M.1 39 (17 * had + j) = M.1 36 j) → ∃ r, f_X7_isKnownBehind_14 sp_G F (nI had) (nI i) M = some r ∧ (r = 0 ∨ (r = 1 ∧ ∀ j, j < 17 → M.1 39 (17 * had + j) = M.1 36 j)) := by
      intro e
      induction e with
      | zero =>
        intro i F hi hF hj
        obtain ⟨F, rfl⟩ : ∃ F1, F = F1 + 1 := ⟨F - 1, by omega⟩
        rw [f_X7_isKnownBehind_14]
        simp (disch := omega) only [n_addl, n_addr, n_add, n_mull, n_mulr, n_mul, n_sub, n_subr, n_subl, n_cl, n_lt, n_le, n_eq, n_ltl, n_ltr, n_lel, n_ler, n_eqr, n_eql, n_nm1, n_m1n, n_m1lt, n_ltm1, l_ltr, l_ltl, l_ler, l_lel, l_m1lt, l_nneg, if_true, if_false, or_false, false_or, or_true, true_or, and_true, true_and, and_false, false_and, not_true_eq_false, not_false_eq_true, Option.bind_some, Option.bind_none, reduceIte, ltT, ltF, leT, leF, eqT, eqF, nI_lt0]
        exact ⟨1, rfl, Or.inr ⟨rfl, fun j h => hj j (by omega)⟩⟩
      | succ e ih =>
        intro i F hi hF hj
        obtain ⟨F, rfl⟩ : ∃ F1, F = F1 + 1 := ⟨F - 1, by omega⟩
        rw [f_X7_isKnownBehind_14]
        simp (disch := omega) only [n_addl, n_addr, n_add, n_mull, n_mulr, n_mul, n_sub, n_subr, n_subl, n_cl, n_lt, n_le, n_eq, n_ltl, n_ltr, n_lel, n_ler, n_eqr, n_eql, n_nm1, n_m1n, n_m1lt, n_ltm1, l_ltr, l_ltl, l_ler, l_lel, l_m1lt, l_nneg, if_true, if_false, or_false, false_or, or_true, true_or, and_true, true_and, and_false, false_and, not_true_eq_false, not_false_eq_true, Option.bind_some, Option.bind_none, reduceIte, ltT, ltF, leT, leF, eqT, eqF, nI_lt0]
        rw [Nat.mul_comm had 17]
        by_cases h : M.1 39 (17 * had + i) = M.1 36 i
        · rw [if_pos h]
          exact ih (i + 1) F (by omega) (by omega) (fun j hj' => by
            by_cases e : j = i
            · rw [e]; exact h
            · exact hj j (by omega))
        · rw [if_neg h]; exact ⟨0, rfl, Or.inl rfl⟩
    obtain ⟨r, a1, a2⟩ := K 17 0 sp_G (by omega) (by decide) (fun j hj => by omega)
    refine ⟨r, a1, ?_⟩
    rcases a2 with a | a
    · exact Or.inl a
    · exact Or.inr ⟨a.1, hm, a.2⟩
