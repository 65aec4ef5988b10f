/-! what the law says: the reference -/
theorem gl (M : az_M) (k j : Nat) (v : Int64) (k' j' : Nat) : (az_l M k j v).2.1 k' j' = if k' = k then (if j' = j then v else M.2.1 k' j') else M.2.1 k' j' := by
  by_cases h : k' = k
  · subst h; rw [az_l_eq, if_pos rfl]; rfl
  · rw [az_l_ne h, if_neg h]
/-- what the reference's reckoning changes -/
def sp_fr (M M' : az_M) : Prop := (∀ k, k ≠ 40 → M'.1 k = M.1 k) ∧ (∀ j, j ≠ 34 → j ≠ 38 → M'.1 40 j = M.1 40 j) ∧ (∀ k, k ≠ 40 → k ≠ 58 → k ≠ 60 → M'.2.1 k = M.2.1 k) ∧ (∀ j, j ≠ 39 → j ≠ 40 → M'.2.1 40 j = M.2.1 40 j) ∧ M'.2.2 = M.2.2
theorem sp_fr.refl (M : az_M) : sp_fr M M := ⟨fun _ _ => rfl, fun _ _ _ => rfl, fun _ _ _ _ => rfl, fun _ _ _ => rfl, rfl⟩
theorem sp_fr.trans {M M' M'' : az_M} (h : sp_fr M M') (g : sp_fr M' M'') : sp_fr M M'' :=
  ⟨fun k hk => (g.1 k hk).trans (h.1 k hk), fun j h1 h2 => (g.2.1 j h1 h2).trans (h.2.1 j h1 h2), fun k h1 h2 h3 => (g.2.2.1 k h1 h2 h3).trans (h.2.2.1 k h1 h2 h3), fun j h1 h2 => (g.2.2.2.1 j h1 h2).trans (h.2.2.2.1 j h1 h2), g.2.2.2.2.trans h.2.2.2.2⟩
/-- the words stand, at this law -/
def sp_wd (M : az_M) (b : Nat) (R : Nat → Int32) (e : sp_E) : Prop := M.1 42 = R ∧ M.1 40 20 = 0 ∧ M.1 40 34 = nI b ∧ ∀ j, j < 11 → M.2.1 58 (j + 1) = (e j).toInt64
theorem sp_RM.run {R : Nat → Int32} {b : Nat} {f g : Int32} {φ : sp_E → Option Int32} (h : sp_RM R b f g φ) {M : az_M} {e : sp_E} (w : sp_wd M b R e) : ∃ M', f_X12_reckonAll sp_G f g M = some M' ∧ (φ e = none → M'.1 40 38 = 1) ∧ (∀ v, φ e = some v → M'.1 40 38 = 0 ∧ M'.2.1 40 39 = v.toInt64) ∧ sp_fr M M' ∧ sp_wd M' b R e := by
  obtain ⟨w1, w2, w3, w4⟩ := w
  obtain ⟨M', a, b, c, d, e, f, g, i⟩ := h M e (fun j _ _ => by rw [w1]) w2 w3 w4
  refine ⟨M', a, b, c, ⟨d, fun j _ h => e j h, fun k h1 _ h3 => f k h1 h3, fun j h _ => g j h, i⟩, ?_, ?_, ?_, ?_⟩
  · rw [d 42 (by decide)]; exact w1
  · rw [e 20 (by decide)]; exact w2
  · rw [e 34 (by decide)]; exact w3
  · rw [f 58 (by decide) (by decide)]; exact w4
theorem p_isSo59 {R : Nat → Int32} {f c : Nat} {e : sp_E} {x : sp_C} {M : az_M} (hf : f < 6) (hc : c < 12) (w : sp_wd M (150 + 900 * f) R e) (h1 : R (152 + 900 * f + 8 * c) = x.1)
    (h4 : if x.1 = 4 then x.2.2 = fun _ => some 1 else sp_RM R (150 + 900 * f) (R (155 + 900 * f + 8 * c)) (R (156 + 900 * f + 8 * c)) x.2.2) :
    ∃ M', f_X12_isSo_59 sp_G (nI (152 + 900 * f + 8 * c)) M = some ((if x.2.2 e = none then 0 else 1), M') ∧ sp_fr M M' ∧ sp_wd M' (150 + 900 * f) R e ∧ (x.1 ≠ 4 → ∀ v, x.2.2 e = some v → M'.2.1 40 40 = v.toInt64) := by
  unfold f_X12_isSo_59 f_X12_isSo_109
  simp (disch := omega) only [n_addl, n_addr, n_add, n_mull, n_mulr, n_mul, n_sub, n_subr, n_subl, n_cl, n_lt, n_le, n_eq, n_ltl, n_ltr, n_lel, n_ler, n_eqr, n_eql, n_nm1, n_m1n, n_m1lt, n_ltm1, l_ltr, l_ltl, l_ler, l_lel, l_m1lt, l_nneg, if_true, if_false, or_false, false_or, or_true, true_or, and_true, true_and, and_false, false_and, not_true_eq_false, not_false_eq_true, Option.bind_some, Option.bind_none, reduceIte, ltT, ltF, leT, leF, eqT, eqF, nI_lt0]
  rw [w.1, h1]
  by_cases hx : x.1 = 4
  · rw [if_pos hx] at h4 ⊢
    refine ⟨M, ?_, sp_fr.refl M, w, fun h => absurd hx h⟩
    rw [h4, if_neg (by simp)]
  · rw [if_neg hx] at h4 ⊢
    obtain ⟨M', a1, a2, a3, a4, a5⟩ := h4.run w
    rw [show 152 + 900 * f + 8 * c + 3 = 155 + 900 * f + 8 * c by omega, show 152 + 900 * f + 8 * c + 4 = 156 + 900 * f + 8 * c by omega, a1, Option.bind_some]
    refine ⟨az_l M' 40 40 (M'.2.1 40 39), ?_, a4.trans ⟨fun _ _ => rfl, fun _ _ _ => rfl, fun k h _ _ => az_l_ne h, fun j _ h => by rw [gl, if_pos rfl, if_neg h], rfl⟩, ⟨a5.1, a5.2.1, a5.2.2.1, fun j hj => by rw [gl, if_neg (by decide)]; exact a5.2.2.2 j hj⟩, fun _ v hv => ?_⟩
    · show (if M'.1 40 38 = 0 then _ else _) = _
      cases hv : x.2.2 e with
      | none => rw [a2 hv, if_neg (by decide), if_pos rfl]
      | some v => rw [(a3 v hv).1, if_pos rfl, if_neg (by simp)]
    · rw [gl, if_pos rfl, if_pos rfl]; exact (a3 v hv).2
theorem p_isSo {R : Nat → Int32} {f c : Nat} {e : sp_E} {x : sp_C} {M : az_M} (hf : f < 6) (hc : c < 12) (w : sp_wd M (150 + 900 * f) R e) (h1 : R (152 + 900 * f + 8 * c) = x.1)
    (h3 : if R (157 + 900 * f + 8 * c) < R (158 + 900 * f + 8 * c) then sp_RM R (150 + 900 * f) (R (157 + 900 * f + 8 * c)) (R (158 + 900 * f + 8 * c)) x.2.1 else x.2.1 = fun _ => some 1)
    (h4 : if x.1 = 4 then x.2.2 = fun _ => some 1 else sp_RM R (150 + 900 * f) (R (155 + 900 * f + 8 * c)) (R (156 + 900 * f + 8 * c)) x.2.2) :
    ∃ M', f_X12_isSo sp_G (nI (152 + 900 * f + 8 * c)) M = some ((if sp_tell1 x x.1 e = none then 0 else 1), M') ∧ sp_fr M M' ∧ sp_wd M' (150 + 900 * f) R e ∧ (x.1 ≠ 4 → ∀ v, sp_tell1 x x.1 e = some v → M'.2.1 40 40 = v.toInt64) := by
  unfold f_X12_isSo f_X12_isSo_57
  simp (disch := omega) only [n_addl, n_addr, n_add, n_mull, n_mulr, n_mul, n_sub, n_subr, n_subl, n_cl, n_lt, n_le, n_eq, n_ltl, n_ltr, n_lel, n_ler, n_eqr, n_eql, n_nm1, n_m1n, n_m1lt, n_ltm1, l_ltr, l_ltl, l_ler, l_lel, l_m1lt, l_nneg, if_true, if_false, or_false, false_or, or_true, true_or, and_true, true_and, and_false, false_and, not_true_eq_false, not_false_eq_true, Option.bind_some, Option.bind_none, reduceIte, ltT, ltF, leT, leF, eqT, eqF, nI_lt0]
  rw [show 152 + 900 * f + 8 * c + 5 = 157 + 900 * f + 8 * c by omega, show 152 + 900 * f + 8 * c + 6 = 158 + 900 * f + 8 * c by omega, w.1]
  by_cases hlt : R (157 + 900 * f + 8 * c) < R (158 + 900 * f + 8 * c)
  · rw [if_pos hlt] at h3
    rw [if_neg (by rw [Int32.le_iff_toInt_le]; rw [Int32.lt_iff_toInt_lt] at hlt; omega)]
    obtain ⟨M1, a1, a2, a3, a4, a5⟩ := h3.run w
    rw [a1, Option.bind_some]
    cases ht : x.2.1 e with
    | none =>
      have t1 : sp_tell1 x x.1 e = none := by unfold sp_tell1; rw [if_pos rfl, ht]
      refine ⟨M1, ?_, a4, a5, fun _ v hv => by rw [t1] at hv; cases hv⟩
      rw [a2 ht, if_neg (by decide), t1, if_pos rfl]
    | some u =>
      obtain ⟨b1, b2⟩ := a3 u ht
      rw [b1, if_pos rfl, b2]
      by_cases hu : u = 0
      · subst hu
        have t1 : sp_tell1 x x.1 e = none := by unfold sp_tell1; rw [if_pos rfl, ht]; rfl
        refine ⟨M1, ?_, a4, a5, fun _ v hv => by rw [t1] at hv; cases hv⟩
        rw [if_pos (by rfl), t1, if_pos rfl]
      · have t1 : sp_tell1 x x.1 e = x.2.2 e := by
          unfold sp_tell1; rw [if_pos rfl, ht]; exact if_neg hu
        rw [if_neg (fun hE => hu (by have := congrArg Int64.toInt32 hE; rw [Int32.toInt32_toInt64] at this; exact this)), t1]
        obtain ⟨M2, c1, c2, c3, c4⟩ := p_isSo59 hf hc a5 h1 h4
        exact ⟨M2, c1, a4.trans c2, c3, c4⟩
  · rw [if_neg hlt] at h3
    rw [if_pos (by rw [Int32.le_iff_toInt_le]; rw [Int32.lt_iff_toInt_lt] at hlt; omega)]
    have t1 : sp_tell1 x x.1 e = x.2.2 e := by
      unfold sp_tell1; rw [if_pos rfl, h3]; exact if_neg (by decide)
    rw [t1]
    exact p_isSo59 hf hc w h1 h4
def sp_dec (d : Int64) (v : Option Int32) : Int64 := match v with
  | none => d
  | some v => v.toInt64
theorem p_tells180 {R : Nat → Int32} {f h : Nat} {e : sp_E} {l : sp_L} {M : az_M} (hf : f < 6) (hh : h < 5) (hl : l.length ≤ 12) (mt : sp_MT R f l) (d : Int64) :
    ∀ (n i : Nat), i + n = l.length → ∀ (F : Nat), n < F → ∀ (M' : az_M), sp_fr M M' → sp_wd M' (150 + 900 * f) R e →
    ∃ M'', f_X12_tells_180 sp_G F (nI h) (sp_dec d (sp_tell (l.take i) (nI h) e)) (nI i) M' = some (sp_dec d (sp_tell l (nI h) e), M'') ∧ sp_fr M M'' := by
  obtain ⟨m1, m2⟩ := mt
  intro n
  induction n with
  | zero =>
    intro i hi F hF M' fr w
    obtain ⟨F, rfl⟩ : ∃ F', F = F' + 1 := ⟨F - 1, by omega⟩
    refine ⟨M', ?_, fr⟩
    obtain ⟨w1, w2, w3, w4⟩ := w
    rw [f_X12_tells_180, w3, w1]
    simp (disch := omega) only [n_addl, n_addr, n_add, n_mull, n_mulr, n_mul, n_sub, n_subr, n_subl, n_cl, n_lt, n_le, n_eq, n_ltl, n_ltr, n_lel, n_ler, n_eqr, n_eql, n_nm1, n_m1n, n_m1lt, n_ltm1, l_ltr, l_ltl, l_ler, l_lel, l_m1lt, l_nneg, if_true, if_false, or_false, false_or, or_true, true_or, and_true, true_and, and_false, false_and, not_true_eq_false, not_false_eq_true, Option.bind_some, Option.bind_none, reduceIte, ltT, ltF, leT, leF, eqT, eqF, nI_lt0]
    rw [show 150 + 900 * f + 1 = 151 + 900 * f by omega, m1]
    simp (disch := omega) only [n_addl, n_addr, n_add, n_mull, n_mulr, n_mul, n_sub, n_subr, n_subl, n_cl, n_lt, n_le, n_eq, n_ltl, n_ltr, n_lel, n_ler, n_eqr, n_eql, n_nm1, n_m1n, n_m1lt, n_ltm1, l_ltr, l_ltl, l_ler, l_lel, l_m1lt, l_nneg, if_true, if_false, or_false, false_or, or_true, true_or, and_true, true_and, and_false, false_and, not_true_eq_false, not_false_eq_true, Option.bind_some, Option.bind_none, reduceIte, ltT, ltF, leT, leF, eqT, eqF, nI_lt0]
    rw [show i = l.length by omega, List.take_length]
  | succ n ih =>
    intro i hi F hF M' fr w
    obtain ⟨F, rfl⟩ : ∃ F', F = F' + 1 := ⟨F - 1, by omega⟩
    obtain ⟨x, hx⟩ : ∃ x, l[i]? = some x := ⟨l[i], List.getElem?_eq_getElem (by omega)⟩
    obtain ⟨d1, d2, d3, d4⟩ := m2 i x hx
    have w0 := w
    obtain ⟨w1, w2, w3, w4⟩ := w0
    have next : ∀ M2, sp_fr M M2 → sp_wd M2 (150 + 900 * f) R e → ∀ y, y = sp_dec d (sp_tell (l.take (i + 1)) (nI h) e) → ∃ M'', f_X12_tells_245 sp_G (f_X12_tells_180 sp_G F) (nI h) y (nI i) M2 = some (sp_dec d (sp_tell l (nI h) e), M'') ∧ sp_fr M M'' := by
      intro M2 fr2 w2 y hy
      obtain ⟨M'', a, b⟩ := ih (i + 1) (by omega) F (by omega) M2 fr2 w2
      refine ⟨M'', ?_, b⟩
      rw [← a, hy]
      unfold f_X12_tells_245
      rw [n_addr]
    rw [f_X12_tells_180, w3, w1]
    simp (disch := omega) only [n_addl, n_addr, n_add, n_mull, n_mulr, n_mul, n_sub, n_subr, n_subl, n_cl, n_lt, n_le, n_eq, n_ltl, n_ltr, n_lel, n_ler, n_eqr, n_eql, n_nm1, n_m1n, n_m1lt, n_ltm1, l_ltr, l_ltl, l_ler, l_lel, l_m1lt, l_nneg, if_true, if_false, or_false, false_or, or_true, true_or, and_true, true_and, and_false, false_and, not_true_eq_false, not_false_eq_true, Option.bind_some, Option.bind_none, reduceIte, ltT, ltF, leT, leF, eqT, eqF, nI_lt0]
    rw [show 150 + 900 * f + 1 = 151 + 900 * f by omega, m1, show 150 + 900 * f + 2 + 8 * i = 152 + 900 * f + 8 * i by omega, d1]
    simp (disch := omega) only [n_addl, n_addr, n_add, n_mull, n_mulr, n_mul, n_sub, n_subr, n_subl, n_cl, n_lt, n_le, n_eq, n_ltl, n_ltr, n_lel, n_ler, n_eqr, n_eql, n_nm1, n_m1n, n_m1lt, n_ltm1, l_ltr, l_ltl, l_ler, l_lel, l_m1lt, l_nneg, if_true, if_false, or_false, false_or, or_true, true_or, and_true, true_and, and_false, false_and, not_true_eq_false, not_false_eq_true, Option.bind_some, Option.bind_none, reduceIte, ltT, ltF, leT, leF, eqT, eqF, nI_lt0]
    by_cases hd : x.1 = nI h
    · rw [if_pos hd]
      obtain ⟨M2, a1, a2, a3, a4⟩ := p_isSo hf (show i < 12 by omega) w d1 d3 d4
      rw [a1, Option.bind_some]
      rw [hd] at a4 ⊢
      cases ht : sp_tell1 x (nI h) e with
      | none =>
        rw [if_pos (by rw [if_pos rfl])]
        exact next M2 (fr.trans a2) a3 _ (by rw [tell_take hx, ht]; rfl)
      | some v =>
        rw [if_neg (by rw [if_neg (by simp)]; exact (by decide : ¬ (1 : Int32) = 0))]
        unfold f_X12_tells_243
        by_cases h4 : h = 4
        · subst h4
          rw [if_pos rfl]
          refine next M2 (fr.trans a2) a3 _ ?_
          rw [tell_take hx, ht]
          have hv : v = 1 := by
            rw [if_pos (show x.1 = 4 from hd)] at d4
            unfold sp_tell1 at ht
            rw [if_pos hd, d4] at ht
            split at ht
            · cases ht
            · split at ht
              · cases ht
              · exact (Option.some.inj ht).symm
          rw [hv]; rfl
        · rw [if_neg h4]
          refine next M2 (fr.trans a2) a3 _ ?_
          rw [tell_take hx, ht, a4 (by intro hE; exact h4 ((n_eq (a := h) (b := 4) (by omega) (by omega)).mp hE)) v ht]
          rfl
    · rw [if_neg hd]
      refine next M' fr w _ ?_
      rw [tell_take hx, show sp_tell1 x (nI h) e = none by unfold sp_tell1; rw [if_neg hd], Option.none_or]
/-- the words of a law, over the reference's row -/
def r_env (R : Nat → Int32) (w p : Int32) (q : Nat) : sp_E := fun j => match j with
  | 0 => p
  | 1 => if p = -1 then -1 else R (65 + 3 * p.toNatClampNeg)
  | 2 => nI q
  | 3 => R (17 + 4 * q)
  | 4 => R (18 + 4 * q)
  | 5 => R (20 + 4 * q)
  | 6 => w
  | 7 => R 12
  | 8 => R 13
  | 9 => R 6
  | _ => R 10
theorem p_tells {Z : az_S × Nat} {h q : Nat} {ls : Nat → sp_L} {p w : Int32} {M : az_M} {A : Nat → Nat → Int32} {ref : Nat → Option Nat} {cnt inF : Int32} (hh : h < 5) (hq : q < 12) (hp : p = -1 ∨ ∃ k, k < 10 ∧ p = nI k)
    (bk : sp_bk Z A ref cnt inF (M.1 42) ls) (h20 : M.1 40 20 = 0) (d : Int64) :
    ∃ M', f_X12_tells sp_G (nI h) p (nI q) w d M = some (sp_dec d ((sp_law inF ls).bind (fun l => sp_tell l (nI h) (r_env (M.1 42) w p q))), M') ∧ sp_fr M M' := by
  obtain ⟨n, b1, b2, b3, b4, b5, b6⟩ := bk
  unfold f_X12_tells
  rw [← b4]
  rcases b5 with b5 | ⟨f, hf, b5⟩
  · rw [if_pos b5, b5, sp_law_m1]
    exact ⟨M, rfl, sp_fr.refl M⟩
  · obtain ⟨t, c1, c2, c3, c4⟩ := b6 f hf
    rw [b5, sp_law_nI (by omega), if_neg (by rw [n_nm1 (by omega)]; exact not_false), n_mull, n_addl]
    have K : ∀ (s : Int64), s = (r_env (M.1 42) w p q 1).toInt64 → ∃ M', f_X12_tells_62 sp_G (nI h) (nI q) w d s 2 (az_l (az_i M 40 34 (nI (150 + 900 * f))) 58 1 p.toInt64) = some (sp_dec d (sp_tell (ls f) (nI h) (r_env (M.1 42) w p q)), M') ∧ sp_fr M M' := by
      intro s hs
      have pl0 : ∀ M, f_X12_ofPlace (nI q) 0 M = some (M.1 42 (17 + 4 * q)) := fun M => p_ofPlace (w := 0) hq (by decide) M
      have pl1 : ∀ M, f_X12_ofPlace (nI q) 1 M = some (M.1 42 (17 + 4 * q + 1)) := fun M => p_ofPlace (w := 1) hq (by decide) M
      have pl3 : ∀ M, f_X12_ofPlace (nI q) 3 M = some (M.1 42 (17 + 4 * q + 3)) := fun M => p_ofPlace (w := 3) hq (by decide) M
      have bu1 : ∀ M, f_X12_bulletOf 1 M = some (M.1 42 12) := fun M => p_bulletOf (k := 1) (by decide) M
      have bu2 : ∀ M, f_X12_bulletOf 2 M = some (M.1 42 13) := fun M => p_bulletOf (k := 2) (by decide) M
      have te0 : ∀ M, f_X12_term 0 M = some (M.1 42 6) := fun M => p_term (k := 0) (by decide) M
      have te4 : ∀ M, f_X12_term 4 M = some (M.1 42 10) := fun M => p_term (k := 4) (by decide) M
      unfold f_X12_tells_62
      simp only [pl0, pl1, pl3, bu1, bu2, te0, te4, Option.bind_some, az_l_1]
      rw [if_neg (by decide), gi_k (show 42 ≠ 40 by decide)]
      refine p_tells180 (i := 0) (n := (ls f).length) (F := sp_G) (by omega) hh c2.2.2.2.1 c3 d (by omega) (Nat.lt_of_le_of_lt c2.2.2.2.1 (by decide)) _ ⟨fun k hk => gi_k hk, fun j h34 _ => ?_, fun k h40 h58 _ => ?_, fun j _ _ => ?_, rfl⟩ ⟨?_, ?_, ?_, ?_⟩
      · simp only [az_l_1]
        rw [gi, if_pos rfl, if_neg h34]
      · rw [az_l_ne h58, az_l_ne h58, az_l_ne h58, az_l_ne h58, az_l_ne h58, az_l_ne h58, az_l_ne h58, az_l_ne h58, az_l_ne h58, az_l_ne h58, az_l_ne h58]; rfl
      · rw [az_l_ne (by decide), az_l_ne (by decide), az_l_ne (by decide), az_l_ne (by decide), az_l_ne (by decide), az_l_ne (by decide), az_l_ne (by decide), az_l_ne (by decide), az_l_ne (by decide), az_l_ne (by decide), az_l_ne (by decide)]; rfl
      · show (az_i M 40 34 (nI (150 + 900 * f))).1 42 = M.1 42
        exact gi_k (show 42 ≠ 40 by decide)
      · simp only [az_l_1]
        rw [gi, if_pos rfl, if_neg (by decide)]; exact h20
      · simp only [az_l_1]
        rw [gi, if_pos rfl, if_pos rfl]
      · intro j hj
        rcases (show j = 0 ∨ j = 1 ∨ j = 2 ∨ j = 3 ∨ j = 4 ∨ j = 5 ∨ j = 6 ∨ j = 7 ∨ j = 8 ∨ j = 9 ∨ j = 10 by omega) with rfl | rfl | rfl | rfl | rfl | rfl | rfl | rfl | rfl | rfl | rfl
        · rfl
        · exact hs
        · rfl
        · rfl
        · show (M.1 42 (17 + 4 * q + 1)).toInt64 = (M.1 42 (18 + 4 * q)).toInt64
          rw [show 17 + 4 * q + 1 = 18 + 4 * q by omega]
        · show (M.1 42 (17 + 4 * q + 3)).toInt64 = (M.1 42 (20 + 4 * q)).toInt64
          rw [show 17 + 4 * q + 3 = 20 + 4 * q by omega]
        · rfl
        · rfl
        · rfl
        · rfl
        · rfl
    rcases hp with rfl | ⟨k, hk, rfl⟩
    · rw [if_pos rfl]
      exact K (-1) rfl
    · rw [if_neg (by rw [n_nm1 (by omega)]; exact not_false), show f_X12_ofPerson (nI k) 0 _ = some _ from p_ofPerson (w := 0) hk (by decide) _, Option.bind_some]
      refine K _ ?_
      show (M.1 42 (65 + 3 * k)).toInt64 = (if nI k = -1 then -1 else M.1 42 (65 + 3 * (nI k).toNatClampNeg)).toInt64
      rw [if_neg (by rw [n_nm1 (by omega)]; exact not_false), n_cl (by omega)]
