/-! queue(): the reference -/
theorem r_hadL {Z : az_S × Nat} {inF : Int32} {ls : Nat → sp_L} {q n rd a b w : Nat} {due : Int32} (hq : q < n) (h7 : n ≤ 7) (ha : a < 10) (hb : b < 10) (hw : w < 12) (hrd : rd ≤ 4) : ∀ (e i F : Nat), i + e = 2 * rd → e + 1 < F → ∀ (B : Nat) (Nc N : Nat → Int32) (M : az_M), RefAt Z B inF ls N M → sp_wl B N → sp_sim Nc N → Q5 N q n rd a b w → N (114 + q) = due → B + e ≤ 1000000000 →
    ∃ r M', f_X12_isHad_4 sp_G F (nI q) 1 (nI i) M = some (r, M') ∧ sp_fq M M' ∧ (match sp_shots (sp_law inF ls) e Nc w with | none => r = 0 | some Nc' => if Nc' 3 = 0 ∧ Nc' 16 ≤ due then r = 1 ∧ ∃ N', RefAt Z (B + e) inF ls N' M' ∧ sp_wl (B + e) N' ∧ sp_sim Nc' N' ∧ (∀ j, j = 17 ∨ j = 25 ∨ (27 ≤ j ∧ j < 121) → N' j = N j) else r = 0) := by
  have off : ∀ (F i : Nat) (M : az_M), f_X12_term 1 M = some (nI rd) → f_X12_isHad_4 sp_G (F + 1) (nI q) 0 (nI i) M = some (0, M) := by
    intro F i M ht
    rw [f_X12_isHad_4, ht, Option.bind_some]
    unfold f_X12_isHad_57 f_X12_isHad_87 f_X12_isHad_88
    rw [if_pos rfl, if_pos rfl]
    by_cases h : 2 * nI rd ≤ nI i
    · rw [if_pos h]; rfl
    · rw [if_neg h]; rfl
  intro e
  induction e with
  | zero =>
    intro i F hi hF B Nc N M R wl sm Q hdue hB
    obtain ⟨F, rfl⟩ : ∃ F1, F = F1 + 1 := ⟨F - 1, by omega⟩
    have ht : f_X12_term 1 M = some (nI rd) := (p_term (k := 1) (by decide) M).trans (congrArg some ((R.pr.2.1 1 (by decide)).symm.trans Q.rd))
    have hq7 : q < (N 25).toNatClampNeg := by rw [Q.n, n_cl (by omega)]; exact hq
    rw [f_X12_isHad_4, ht, Option.bind_some, show (2 : Int32) * nI rd = nI (2 * rd) from n_mull 2 rd, if_pos (by rw [n_le (by omega) (by omega)]; omega)]
    unfold f_X12_isHad_57 f_X12_isHad_87 f_X12_isHad_88
    rw [if_neg (by decide), show f_X12_bulletOf 3 M = some (M.1 42 14) from p_bulletOf (k := 3) (by decide) M, Option.bind_some, ← R.pr.1.2.2.2, ← sm.at (j := 3) (by omega), show f_X12_term 0 M = some (M.1 42 6) from p_term (k := 0) (by decide) M, show f_X12_ofQuarrel (nI q) 3 M = some (M.1 42 (98 + 4 * q)) from (p_ofQuarrel (w := 3) (by omega) (by decide) M).trans (by rw [show 95 + 4 * q + 3 = 98 + 4 * q by omega]), ← (R.pr.2.2.2.2.2.2.1 q hq7).2.2.2, hdue, show M.1 42 6 = N 16 from (R.pr.2.1 0 (by decide)).symm, ← sm.at (j := 16) (by omega)]
    simp only [Option.bind_some]
    by_cases h3 : Nc 3 = 0
    · rw [if_pos h3]
      by_cases h : due < Nc 16
      · rw [if_pos h]
        refine ⟨0, M, rfl, sp_fq.refl M, ?_⟩
        show if Nc 3 = 0 ∧ Nc 16 ≤ due then _ else _
        rw [if_neg]
        rintro ⟨-, e⟩
        rw [Int32.lt_iff_toInt_lt] at h; rw [Int32.le_iff_toInt_le] at e; omega
      · rw [if_neg h]
        refine ⟨1, M, rfl, sp_fq.refl M, ?_⟩
        show if Nc 3 = 0 ∧ Nc 16 ≤ due then _ else _
        rw [if_pos ⟨h3, by rw [Int32.lt_iff_toInt_lt] at h; rw [Int32.le_iff_toInt_le]; omega⟩]
        exact ⟨rfl, N, R, wl, sm, fun _ _ => rfl⟩
    · rw [if_neg h3]
      refine ⟨0, M, rfl, sp_fq.refl M, ?_⟩
      show if Nc 3 = 0 ∧ Nc 16 ≤ due then _ else _
      rw [if_neg (fun e => h3 e.1)]
  | succ e ih =>
    intro i F hi hF B Nc N M R wl sm Q hdue hB
    obtain ⟨F, rfl⟩ : ∃ F1, F = F1 + 1 := ⟨F - 1, by omega⟩
    have ht : f_X12_term 1 M = some (nI rd) := (p_term (k := 1) (by decide) M).trans (congrArg some ((R.pr.2.1 1 (by decide)).symm.trans Q.rd))
    have hq7 : q < (N 25).toNatClampNeg := by rw [Q.n, n_cl (by omega)]; exact hq
    have pq := R.pr.2.2.2.2.2.2.1 q hq7
    rw [f_X12_isHad_4, ht, Option.bind_some, show (2 : Int32) * nI rd = nI (2 * rd) from n_mull 2 rd, if_neg (by rw [n_le (by omega) (by omega)]; omega), if_neg (by decide), p_canFire' R.pr, Option.bind_some, sp_shots]
    unfold f_X12_isHad_51
    rw [show nI i + 1 = nI (i + 1) from (nI_succ i).symm]
    have hcs := can_sim sm
    by_cases hc : sp_can N = 0
    · rw [if_pos hc, hc]
      obtain ⟨F, rfl⟩ : ∃ F1, F = F1 + 1 := ⟨F - 1, by omega⟩
      rw [off _ _ _ ht, if_neg ((can_iff Nc).mp (hcs.trans hc))]
      exact ⟨0, M, rfl, sp_fq.refl M, rfl⟩
    · rw [if_neg hc, if_pos (Decidable.not_not.mp (fun e => hc (hcs.symm.trans ((can_iff Nc).mpr e))))]
      have hc1 : sp_can N = 1 := (sp_can01 N).resolve_left hc
      obtain ⟨x, hx, o1⟩ : ∃ x, x < 10 ∧ f_X12_ofQuarrel (nI q) (az_rem (nI i) 2) M = some (nI x) := by
        rw [n_mod2 (by omega), p_ofQuarrel (by omega) (by omega)]
        rcases (show i % 2 = 0 ∨ i % 2 = 1 by omega) with h | h
        · exact ⟨a, ha, by rw [h, show 95 + 4 * q + 0 = 95 + 4 * q by omega, ← pq.1, Q.a]⟩
        · exact ⟨b, hb, by rw [h, show 95 + 4 * q + 1 = 96 + 4 * q by omega, ← pq.2.1, Q.b]⟩
      obtain ⟨cc, hcc, hcc1⟩ := p_court R.rg hx
      obtain ⟨M1, l1, l2, l3⟩ := r_shoot R hw hcc1
      obtain ⟨rg, wl'⟩ := fire_rg R.rg wl (by omega) (sp_law inF ls) hw hcc1
      rw [o1, Option.bind_some, show f_X12_ofPerson (nI x) 1 M = some (M.1 42 (65 + 3 * x + 1)) from p_ofPerson (w := 1) hx (by decide) M, Option.bind_some, show M.1 42 (65 + 3 * x + 1) = nI cc by rw [show 65 + 3 * x + 1 = 66 + 3 * x by omega, ← (R.pr.2.2.2.2.2.1 x hx).2.1]; exact hcc, show f_X12_ofQuarrel (nI q) 2 M = some (nI w) from (p_ofQuarrel (w := 2) (by omega) (by decide) M).trans (by rw [show 95 + 4 * q + 2 = 97 + 4 * q by omega, ← pq.2.2.1, Q.w]), Option.bind_some, l1, Option.bind_some, hc1]
      have hf : ∀ j, j = 17 ∨ j = 25 ∨ (27 ≤ j ∧ j < 121) → sp_fire (sp_law inF ls) N cc w j = N j := fun j hj => fire_at _ _ hcc1 hw hj
      obtain ⟨r, M', a1, a2, a3⟩ := ih (i + 1) F (by omega) (by omega) (B + 1) (sp_shot (sp_law inF ls) Nc w) _ M1 (R.fq l3 l2 rg (by omega)) wl' (shot_sim sm _ hw hcc1) (Q.cong (by omega) (fun j hj => hf j (by omega))) (by rw [hf (114 + q) (by omega)]; exact hdue) (by omega)
      refine ⟨r, M', a1, l3.trans a2, ?_⟩
      cases hs : sp_shots (sp_law inF ls) e (sp_shot (sp_law inF ls) Nc w) w with
      | none => rw [hs] at a3; exact a3
      | some Nc' =>
        rw [hs] at a3
        show if Nc' 3 = 0 ∧ Nc' 16 ≤ due then _ else _
        by_cases h : Nc' 3 = 0 ∧ Nc' 16 ≤ due
        · simp only [if_pos h] at a3 ⊢
          obtain ⟨k1, N', k2, k3, k4, k5⟩ := a3
          rw [show B + (e + 1) = B + 1 + e by omega]
          exact ⟨k1, N', k2, k3, k4, fun j hj => (k5 j hj).trans (hf j hj)⟩
        · simp only [if_neg h] at a3 ⊢; exact a3
theorem r_had {Z : az_S × Nat} {B : Nat} {inF : Int32} {ls : Nat → sp_L} {Nc N : Nat → Int32} {M : az_M} (R : RefAt Z B inF ls N M) (wl : sp_wl B N) (sm : sp_sim Nc N) {q : Nat} (hq : q < (N 25).toNatClampNeg) (hB : B + 8 ≤ 1000000000) :
    ∃ r M', f_X12_isHad sp_G (nI q) M = some (r, M') ∧ sp_fq M M' ∧ (sp_miss (sp_law inF ls) Nc q = none → r = 0) ∧ ∀ Nc', sp_miss (sp_law inF ls) Nc q = some Nc' → r = 1 ∧ ∃ N', RefAt Z (B + 8) inF ls N' M' ∧ sp_wl (B + 8) N' ∧ sp_sim Nc' N' ∧ N' 25 = N 25 := by
  obtain ⟨a, b, w, d, e1, ha, e2, hb, hab, e3, hw, e4, hd⟩ := quar R.rg hq
  obtain ⟨rd, hrd, hrd1, hrd2⟩ := R.rg.2.1.2.1.nat (by decide) (by decide)
  obtain ⟨n, hn, _, hn2⟩ := R.rg.2.2.2.1.2.2.1.nat (by decide) (by decide)
  have hqn : q < n := by rw [hn, n_cl (by omega)] at hq; exact hq
  obtain ⟨r, M', a1, a2, a3⟩ := r_hadL (due := N (114 + q)) hqn (by omega) ha hb hw (show rd ≤ 4 by omega) (2 * rd) 0 sp_G (by omega) (by show 2 * rd + 1 < 1000000; omega) B Nc N M R wl sm ⟨hn, hrd, e1, e2, e3⟩ rfl (by omega)
  have hms : sp_miss (sp_law inF ls) Nc q = (match sp_shots (sp_law inF ls) (2 * rd) Nc w with | none => none | some N' => if N' 3 = 0 ∧ N' 16 ≤ N (114 + q) then some N' else none) := by
    unfold sp_miss
    rw [sm.at (j := 17) (by omega), sm.at (j := 107 + q) (by omega), sm.at (j := 114 + q) (by omega), hrd, e3, n_cl (by omega), n_cl (by omega)]
    cases sp_shots (sp_law inF ls) (2 * rd) Nc w <;> rfl
  refine ⟨r, M', a1, a2, fun h => ?_, fun Nc' h => ?_⟩
  · rw [hms] at h
    cases hs : sp_shots (sp_law inF ls) (2 * rd) Nc w with
    | none => rw [hs] at a3; exact a3
    | some N' =>
      rw [hs] at a3 h
      by_cases hc : N' 3 = 0 ∧ N' 16 ≤ N (114 + q)
      · simp only [if_pos hc] at h; cases h
      · simp only [if_neg hc] at a3; exact a3
  · rw [hms] at h
    cases hs : sp_shots (sp_law inF ls) (2 * rd) Nc w with
    | none => rw [hs] at h; cases h
    | some N1 =>
      rw [hs] at a3 h
      by_cases hc : N1 3 = 0 ∧ N1 16 ≤ N (114 + q)
      · simp only [if_pos hc] at h a3
        injection h with h
        subst h
        obtain ⟨k1, N', k2, k3, k4, k5⟩ := a3
        exact ⟨k1, N', ⟨k2.bk, k2.h20, k2.pr, k2.rg.mono (by omega), by omega⟩, k3.mono (by omega), k4, k5 25 (by omega)⟩
      · simp only [if_neg hc] at h; cases h
theorem p_keepWait {q : Nat} (hq : q ≤ 7) (M : az_M) : f_X12_keepWait sp_G (nI q) M = some (ro M 65 (cpy (M.1 42) (M.1 65) 0 (150 * q) 150)) := by
  refine (lp_fill (f := fun F i M => f_X12_keepWait_2 sp_G F (nI q) i M) (fin := fun M => some M) (M := M) (k := 65) (d := 150 * q) (n := 150) (g := fun i => M.1 42 (0 + i)) (F := sp_G) ?_ ?_ (by decide)).trans rfl
  · intro F i h hi hh
    show f_X12_keepWait_2 sp_G (F + 1) (nI q) (nI i) _ = f_X12_keepWait_2 sp_G F (nI q) (nI (i + 1)) _
    rw [f_X12_keepWait_2]
    simp (disch := omega) only [n_addl, n_addr, n_add, n_mull, n_mulr, n_mul, n_sub, n_subr, n_subl, n_cl, n_lt, n_le, n_eq, n_ltl, n_ltr, n_lel, n_ler, n_eqr, n_eql, n_nm1, n_m1n, n_m1lt, n_ltm1, l_ltr, l_ltl, l_ler, l_lel, l_m1lt, l_nneg, if_true, if_false, or_false, false_or, or_true, true_or, and_true, true_and, and_false, false_and, not_true_eq_false, not_false_eq_true, Option.bind_some, Option.bind_none, reduceIte, ltT, ltF, leT, leF, eqT, eqF, nI_lt0, az_i_ro, ro_eq, ro_ro]
    rw [ro_ne (by decide), Nat.zero_add]
  · intro F h
    show f_X12_keepWait_2 sp_G (F + 1) (nI q) (nI 150) _ = _
    rw [f_X12_keepWait_2]
    simp (disch := omega) only [n_addl, n_addr, n_add, n_mull, n_mulr, n_mul, n_sub, n_subr, n_subl, n_cl, n_lt, n_le, n_eq, n_ltl, n_ltr, n_lel, n_ler, n_eqr, n_eql, n_nm1, n_m1n, n_m1lt, n_ltm1, l_ltr, l_ltl, l_ler, l_lel, l_m1lt, l_nneg, if_true, if_false, or_false, false_or, or_true, true_or, and_true, true_and, and_false, false_and, not_true_eq_false, not_false_eq_true, Option.bind_some, Option.bind_none, reduceIte, ltT, ltF, leT, leF, eqT, eqF, nI_lt0]
theorem p_putWait {q : Nat} (hq : q ≤ 7) (M : az_M) : f_X12_putWait sp_G (nI q) M = some (ro M 42 (cpy (M.1 65) (M.1 42) (150 * q) 0 150)) := by
  refine (lp_fill (f := fun F i M => f_X12_putWait_2 sp_G F (nI q) i M) (fin := fun M => some M) (M := M) (k := 42) (d := 0) (n := 150) (g := fun i => M.1 65 (150 * q + i)) (F := sp_G) ?_ ?_ (by decide)).trans rfl
  · intro F i h hi hh
    show f_X12_putWait_2 sp_G (F + 1) (nI q) (nI i) _ = f_X12_putWait_2 sp_G F (nI q) (nI (i + 1)) _
    rw [f_X12_putWait_2]
    simp (disch := omega) only [n_addl, n_addr, n_add, n_mull, n_mulr, n_mul, n_sub, n_subr, n_subl, n_cl, n_lt, n_le, n_eq, n_ltl, n_ltr, n_lel, n_ler, n_eqr, n_eql, n_nm1, n_m1n, n_m1lt, n_ltm1, l_ltr, l_ltl, l_ler, l_lel, l_m1lt, l_nneg, if_true, if_false, or_false, false_or, or_true, true_or, and_true, true_and, and_false, false_and, not_true_eq_false, not_false_eq_true, Option.bind_some, Option.bind_none, reduceIte, ltT, ltF, leT, leF, eqT, eqF, nI_lt0, az_i_ro, ro_eq, ro_ro, Nat.zero_add]
    rw [ro_ne (by decide)]
  · intro F h
    show f_X12_putWait_2 sp_G (F + 1) (nI q) (nI 150) _ = _
    rw [f_X12_putWait_2]
    simp (disch := omega) only [n_addl, n_addr, n_add, n_mull, n_mulr, n_mul, n_sub, n_subr, n_subl, n_cl, n_lt, n_le, n_eq, n_ltl, n_ltr, n_lel, n_ler, n_eqr, n_eql, n_nm1, n_m1n, n_m1lt, n_ltm1, l_ltr, l_ltl, l_ler, l_lel, l_m1lt, l_nneg, if_true, if_false, or_false, false_or, or_true, true_or, and_true, true_and, and_false, false_and, not_true_eq_false, not_false_eq_true, Option.bind_some, Option.bind_none, reduceIte, ltT, ltF, leT, leF, eqT, eqF, nI_lt0]
def ordS (M : az_M) (Ls : List (List Nat × Int32)) : Prop := M.1 40 48 = nI Ls.length ∧ (∀ x, Ls.head? = some x → ∀ k y, x.1[k]? = some y → M.1 63 k = nI y) ∧ (sp_best Ls = none → M.1 40 47 = -1) ∧ ∀ x, sp_best Ls = some x → M.1 40 47 = x.2 ∧ ∀ k y, x.1[k]? = some y → M.1 64 k = nI y
theorem p_keepOrder {n : Nat} (hn : n ≤ 7) {M : az_M} {Ls : List (List Nat × Int32)} {r : List Nat} {w : Int32} (hr : r.length = n) (h62 : ∀ k y, r[k]? = some y → M.1 62 k = nI y) (hw : M.1 42 11 = w) (hw0 : 0 ≤ w.toInt) (hS : ordS M Ls) (hL : Ls.length ≤ 1000000) :
    ∃ M', f_X12_keepOrder sp_G (nI n) M = some M' ∧ ordS M' (Ls ++ [(r, w)]) ∧ (∀ k, k ≠ 40 → k ≠ 63 → k ≠ 64 → M'.1 k = M.1 k) ∧ (∀ j, j ≠ 47 → j ≠ 48 → M'.1 40 j = M.1 40 j) ∧ M'.2 = M.2 := by
  obtain ⟨s1, s2, s3, s4⟩ := hS
  have h32 : ∀ X : az_M, X.1 40 = M.1 40 → X.1 62 = M.1 62 → X.1 42 = M.1 42 → X.1 64 = M.1 64 → ∃ M', f_X12_keepOrder_32 sp_G (nI n) X = some M' ∧ M'.1 40 48 = nI (Ls.length + 1) ∧ (∀ k, k ≠ 40 → k ≠ 64 → M'.1 k = X.1 k) ∧ (∀ j, j ≠ 47 → j ≠ 48 → M'.1 40 j = X.1 40 j) ∧ M'.2 = X.2 ∧ ∀ x, sp_best (Ls ++ [(r, w)]) = some x → M'.1 40 47 = x.2 ∧ ∀ k y, x.1[k]? = some y → M'.1 64 k = nI y := by
    intro X x40 x62 x42 x64
    have e48 : X.1 40 48 + 1 = nI (Ls.length + 1) := by rw [x40, s1]; exact (nI_succ _).symm
    unfold f_X12_keepOrder_32
    rw [e48]
    generalize hY : az_i X 40 48 (nI (Ls.length + 1)) = Y
    have Y42 : Y.1 42 11 = w := by rw [← hY, gi_k (by decide), x42]; exact hw
    have Y47 : Y.1 40 47 = M.1 40 47 := by rw [← hY, gi, if_pos rfl, if_neg (by decide), x40]
    have Y48 : Y.1 40 48 = nI (Ls.length + 1) := by rw [← hY, gi, if_pos rfl, if_pos rfl]
    have YK : ∀ k, k ≠ 40 → Y.1 k = X.1 k := fun k h => by rw [← hY, gi_k h]
    have YJ : ∀ j, j ≠ 48 → Y.1 40 j = X.1 40 j := fun j h => by rw [← hY, gi, if_pos rfl, if_neg h]
    rw [show f_X12_bulletOf 0 Y = some (Y.1 42 11) from p_bulletOf (k := 0) (by decide) Y, Option.bind_some, Y42, Option.bind_some, Y47]
    have hba : sp_best (Ls ++ [(r, w)]) = if M.1 40 47 < w then some (r, w) else sp_best Ls := by
      rw [best_append]
      cases hb : sp_best Ls with
      | none =>
        rw [if_pos (by rw [s3 hb, Int32.lt_iff_toInt_lt]; have : (-1 : Int32).toInt = -1 := rfl; omega)]; rfl
      | some x =>
        rw [(s4 x hb).1]
        show (if w ≤ x.2 then some x else some (r, w)) = _
        by_cases h : w ≤ x.2
        · rw [if_pos h, if_neg (by rw [Int32.lt_iff_toInt_lt]; rw [Int32.le_iff_toInt_le] at h; omega)]
        · rw [if_neg h, if_pos (by rw [Int32.lt_iff_toInt_lt]; rw [Int32.le_iff_toInt_le] at h; omega)]
    by_cases hlt : M.1 40 47 < w
    · rw [if_pos hlt]
      rw [if_pos hlt] at hba
      have K : ∀ (e i F : Nat), i + e = n → e < F → ∀ (V : az_M), V.1 62 = M.1 62 → (∀ k y, k < i → r[k]? = some y → V.1 64 k = nI y) → ∃ M', f_X12_keepOrder_66 sp_G F (nI n) (nI i) V = some M' ∧ (∀ k, k ≠ 64 → M'.1 k = V.1 k) ∧ M'.2 = V.2 ∧ ∀ k y, r[k]? = some y → M'.1 64 k = nI y := by
        intro e
        induction e with
        | zero =>
          intro i F hi hF V v62 v64
          obtain ⟨F, rfl⟩ : ∃ F1, F = F1 + 1 := ⟨F - 1, by omega⟩
          rw [f_X12_keepOrder_66, if_pos (by rw [n_le (by omega) (by omega)]; omega)]
          exact ⟨V, rfl, fun _ _ => rfl, rfl, fun k y h => v64 k y (by have := (List.getElem?_eq_some_iff.mp h).1; omega) h⟩
        | succ e ih =>
          intro i F hi hF V v62 v64
          obtain ⟨F, rfl⟩ : ∃ F1, F = F1 + 1 := ⟨F - 1, by omega⟩
          rw [f_X12_keepOrder_66, if_neg (by rw [n_le (by omega) (by omega)]; omega), if_neg (nI_in (by omega) (by decide)), if_neg (nI_in (by omega) (by decide)), n_cl (by omega), show nI i + 1 = nI (i + 1) from (nI_succ i).symm]
          obtain ⟨M', a1, a2, a3, a4⟩ := ih (i + 1) F (by omega) (by omega) (az_i V 64 i (V.1 62 i)) (by rw [gi_k (by decide)]; exact v62) (fun k y hk h => by
            rw [gi, if_pos rfl]
            by_cases e : k = i
            · subst e; rw [if_pos rfl, v62]; exact h62 k y h
            · rw [if_neg e]; exact v64 k y (by omega) h)
          exact ⟨M', a1, fun k hk => by rw [a2 k hk, gi_k hk], a3, a4⟩
      obtain ⟨M', a1, a2, a3, a4⟩ := K n 0 sp_G (by omega) (by show n < 1000000; omega) (az_i Y 40 47 w) (by rw [gi_k (by decide), YK 62 (by decide)]; exact x62) (fun k y h => by omega)
      refine ⟨M', a1, ?_, fun k h1 h2 => by rw [a2 k h2, gi_k h1, YK k h1], fun j h1 h2 => by rw [a2 40 (by decide), gi, if_pos rfl, if_neg h1, YJ j h2], by rw [a3, ← hY]; rfl, fun x hx => ?_⟩
      · rw [a2 40 (by decide), gi, if_pos rfl, if_neg (by decide), Y48]
      · rw [hba] at hx
        injection hx with hx
        subst hx
        exact ⟨by rw [a2 40 (by decide), gi, if_pos rfl, if_pos rfl], a4⟩
    · rw [if_neg hlt]
      rw [if_neg hlt] at hba
      refine ⟨Y, rfl, Y48, fun k h1 _ => YK k h1, fun j _ h => YJ j h, by rw [← hY]; rfl, fun x hx => ?_⟩
      rw [hba] at hx
      exact ⟨by rw [Y47]; exact (s4 x hx).1, fun k y h => by rw [YK 64 (by decide), x64]; exact (s4 x hx).2 k y h⟩
  have mk : ∀ (X M' : az_M), (∀ k, k ≠ 63 → X.1 k = M.1 k) → X.2 = M.2 → M'.1 40 48 = nI (Ls.length + 1) ∧ (∀ k, k ≠ 40 → k ≠ 64 → M'.1 k = X.1 k) ∧ (∀ j, j ≠ 47 → j ≠ 48 → M'.1 40 j = X.1 40 j) ∧ M'.2 = X.2 ∧ (∀ x, sp_best (Ls ++ [(r, w)]) = some x → M'.1 40 47 = x.2 ∧ ∀ k y, x.1[k]? = some y → M'.1 64 k = nI y) → (∀ x, (Ls ++ [(r, w)]).head? = some x → ∀ k y, x.1[k]? = some y → X.1 63 k = nI y) → ordS M' (Ls ++ [(r, w)]) ∧ (∀ k, k ≠ 40 → k ≠ 63 → k ≠ 64 → M'.1 k = M.1 k) ∧ (∀ j, j ≠ 47 → j ≠ 48 → M'.1 40 j = M.1 40 j) ∧ M'.2 = M.2 := by
    intro X M' xk x2 h hh
    obtain ⟨a, b, c, d, e⟩ := h
    refine ⟨⟨by rw [a, List.length_append]; rfl, fun x hx k y hy => by rw [b 63 (by decide) (by decide)]; exact hh x hx k y hy, fun hb => ?_, e⟩, fun k h1 h2 h3 => by rw [b k h1 h3, xk k h2], fun j h1 h2 => by rw [c j h1 h2, xk 40 (by decide)], by rw [d, x2]⟩
    have := best_none.mp hb
    exact absurd this (by simp)
  unfold f_X12_keepOrder
  by_cases h0 : Ls = []
  · subst h0
    have z48 : ∀ X : az_M, X.1 40 = M.1 40 → X.1 40 48 = 0 := fun X h => by rw [h, s1]; rfl
    have K : ∀ (e i F : Nat), i + e = n → e < F → ∀ (V : az_M), (∀ k, k ≠ 63 → V.1 k = M.1 k) → V.2 = M.2 → (∀ k y, k < i → r[k]? = some y → V.1 63 k = nI y) → ∃ X, f_X12_keepOrder_2 sp_G F (nI n) (nI i) V = f_X12_keepOrder_32 sp_G (nI n) X ∧ (∀ k, k ≠ 63 → X.1 k = M.1 k) ∧ X.2 = M.2 ∧ ∀ k y, r[k]? = some y → X.1 63 k = nI y := by
      intro e
      induction e with
      | zero =>
        intro i F hi hF V vk v2 v63
        obtain ⟨F, rfl⟩ : ∃ F1, F = F1 + 1 := ⟨F - 1, by omega⟩
        rw [f_X12_keepOrder_2, if_pos (by rw [n_le (by omega) (by omega)]; omega)]
        exact ⟨V, rfl, vk, v2, fun k y h => v63 k y (by have := (List.getElem?_eq_some_iff.mp h).1; omega) h⟩
      | succ e ih =>
        intro i F hi hF V vk v2 v63
        obtain ⟨F, rfl⟩ : ∃ F1, F = F1 + 1 := ⟨F - 1, by omega⟩
        rw [f_X12_keepOrder_2, if_neg (by rw [n_le (by omega) (by omega)]; omega), if_pos (z48 V (vk 40 (by decide))), if_neg (nI_in (by omega) (by decide)), if_neg (nI_in (by omega) (by decide)), n_cl (by omega), show nI i + 1 = nI (i + 1) from (nI_succ i).symm]
        exact ih (i + 1) F (by omega) (by omega) (az_i V 63 i (V.1 62 i)) (fun k hk => by rw [gi_k hk, vk k hk]) v2 (fun k y hk h => by
          rw [gi, if_pos rfl]
          by_cases e : k = i
          · subst e; rw [if_pos rfl, vk 62 (by decide)]; exact h62 k y h
          · rw [if_neg e]; exact v63 k y (by omega) h)
    obtain ⟨X, a1, a2, a3, a4⟩ := K n 0 sp_G (by omega) (by show n < 1000000; omega) M (fun _ _ => rfl) rfl (fun k y h => by omega)
    obtain ⟨M', b1, b2⟩ := h32 X (a2 40 (by decide)) (a2 62 (by decide)) (a2 42 (by decide)) (a2 64 (by decide))
    have := mk X M' a2 a3 b2 (fun x hx k y hy => by
      injection hx with hx
      subst hx
      exact a4 k y hy)
    exact ⟨M', by rw [show f_X12_keepOrder_2 sp_G sp_G (nI n) 0 M = _ from a1]; exact b1, this⟩
  · obtain ⟨M', b1, b2⟩ := h32 M rfl rfl rfl rfl
    have := mk M M' (fun _ _ => rfl) rfl b2 (fun x hx k y hy => by
      cases Ls with
      | nil => exact absurd rfl h0
      | cons z zs => exact s2 x hx k y hy)
    refine ⟨M', ?_, this⟩
    have ne : ¬ M.1 40 48 = 0 := by
      rw [s1, show (0 : Int32) = nI 0 from rfl, n_eq (by omega) (by omega), List.length_eq_zero_iff]; exact h0
    show f_X12_keepOrder_2 sp_G (999999 + 1) (nI n) 0 M = some M'
    rw [f_X12_keepOrder_2]
    by_cases hn0 : nI n ≤ 0
    · rw [if_pos hn0]; exact b1
    · rw [if_neg hn0, if_neg ne]; exact b1
theorem p_isFresh {k q : Nat} (hk : k < 7) (hq : q < 7) {pre : List Nat} (hp : pre.length = k) (h7 : ∀ x, x ∈ pre → x < 7) {M : az_M} (h62 : ∀ i x, pre[i]? = some x → M.1 62 i = nI x) (hkq : M.1 62 k = nI q) : f_X12_isFresh sp_G (nI k) M = some (if q ∈ pre then 0 else 1) := by
  have K : ∀ (e i F : Nat) (s : Int32), i + e = k → e < F → (s = 0 ∨ s = 1) → f_X12_isFresh_4 sp_G F (nI k) s (nI i) M = some (if s = 0 ∨ q ∈ pre.drop i then 0 else 1) := by
    intro e
    induction e with
    | zero =>
      intro i F s hi hF hs
      obtain ⟨F, rfl⟩ : ∃ F1, F = F1 + 1 := ⟨F - 1, by omega⟩
      rw [f_X12_isFresh_4, if_pos (by rw [n_le (by omega) (by omega)]; omega), if_pos hs, List.drop_eq_nil_of_le (by omega)]
      rcases hs with rfl | rfl
      · rw [if_pos (Or.inl rfl)]
      · rw [if_neg (by simp)]
    | succ e ih =>
      intro i F s hi hF hs
      obtain ⟨F, rfl⟩ : ∃ F1, F = F1 + 1 := ⟨F - 1, by omega⟩
      have hil : i < pre.length := by omega
      have hd : pre.drop i = pre[i] :: pre.drop (i + 1) := List.drop_eq_getElem_cons hil
      have ei : M.1 62 i = nI pre[i] := h62 i _ (List.getElem?_eq_getElem hil)
      have l7 := h7 pre[i] (List.getElem_mem hil)
      rw [f_X12_isFresh_4, if_neg (by rw [n_le (by omega) (by omega)]; omega)]
      unfold f_X12_isFresh_32 f_X12_isFresh_33
      rw [show nI i + 1 = nI (i + 1) from (nI_succ i).symm, if_neg (nI_in (by omega) (by decide)), if_neg (nI_in (by omega) (by decide)), n_cl (by omega), n_cl (by omega), ei, hkq, hd]
      simp only [n_eq (show pre[i] < 2147483648 by omega) (show q < 2147483648 by omega), List.mem_cons]
      rcases hs with rfl | rfl
      · rw [if_pos rfl, ih (i + 1) F 0 (by omega) (by omega) (Or.inl rfl), if_pos (Or.inl rfl), if_pos (Or.inl rfl)]
      · rw [if_neg (by decide)]
        by_cases hx : pre[i] = q
        · rw [if_pos hx, ih (i + 1) F 0 (by omega) (by omega) (Or.inl rfl), if_pos (Or.inl rfl), if_pos (Or.inr (Or.inl hx.symm))]
        · rw [if_neg hx, ih (i + 1) F 1 (by omega) (by omega) (Or.inr rfl)]
          by_cases hm : q ∈ pre.drop (i + 1)
          · rw [if_pos (Or.inr hm), if_pos (Or.inr (Or.inr hm))]
          · rw [if_neg (by rintro (h | h); exact absurd h (by decide); exact hm h), if_neg (by rintro (h | h | h); exact absurd h (by decide); exact hx h.symm; exact hm h)]
  have := K k 0 sp_G 1 (by omega) (by show k < 1000000; omega) (Or.inr rfl)
  rw [List.drop_zero] at this
  unfold f_X12_isFresh
  rw [show f_X12_isFresh_4 sp_G sp_G (nI k) 1 0 M = _ from this]
  by_cases hm : q ∈ pre
  · rw [if_pos hm, if_pos (Or.inr hm)]
  · rw [if_neg hm, if_neg (by rintro (h | h); exact absurd h (by decide); exact hm h)]
