/-! what the law says: the class -/
def sp_ext (φ : sp_E → Option Int32) : Prop := ∀ e e' : sp_E, (∀ j, j < 11 → e j = e' j) → φ e = φ e'
theorem sp_RM.ext {R : Nat → Int32} {b : Nat} {f g : Int32} {φ : sp_E → Option Int32} (h : sp_RM R b f g φ) : sp_ext φ := by
  intro e e' he
  obtain ⟨M1, a1, a2, a3, _⟩ := h (fun k j => if k = 42 then R j else if k = 40 then (if j = 34 then nI b else 0) else 0, fun k j => if k = 58 then (e (j - 1)).toInt64 else 0, fun _ _ => none) e (fun j _ _ => rfl) rfl rfl (fun j hj => rfl)
  obtain ⟨M2, b1, b2, b3, _⟩ := h (fun k j => if k = 42 then R j else if k = 40 then (if j = 34 then nI b else 0) else 0, fun k j => if k = 58 then (e (j - 1)).toInt64 else 0, fun _ _ => none) e' (fun j _ _ => rfl) rfl rfl (fun j hj => congrArg Int32.toInt64 (he j hj))
  obtain rfl : M1 = M2 := Option.some.inj (a1.symm.trans b1)
  cases h1 : φ e with
  | none =>
    cases h2 : φ e' with
    | none => rfl
    | some v => exact absurd ((a2 h1).symm.trans (b3 v h2).1) (by decide)
  | some v =>
    cases h2 : φ e' with
    | none => exact absurd ((b2 h2).symm.trans (a3 v h1).1) (by decide)
    | some w =>
      have h3 : v.toInt64.toInt32 = w.toInt64.toInt32 := congrArg Int64.toInt32 ((a3 v h1).2.symm.trans (b3 w h2).2)
      rw [Int32.toInt32_toInt64, Int32.toInt32_toInt64] at h3
      rw [h3]
theorem sp_MT.ext {R : Nat → Int32} {i : Nat} {l : sp_L} (h : sp_MT R i l) {c : Nat} {x : sp_C} (hx : l[c]? = some x) : sp_ext x.2.1 ∧ sp_ext x.2.2 := by
  obtain ⟨_, _, h3, h4⟩ := h.2 c x hx
  constructor
  · split at h3
    · exact h3.ext
    · rw [h3]; exact fun _ _ _ => rfl
  · split at h4
    · rw [h4]; exact fun _ _ _ => rfl
    · exact h4.ext
theorem p_setWords30 {o q : Nat} (ho : o + 1 ≠ 20) (hq : q < 12) (s : Int32) (M : az_M) : f_X8_setWords_30 o (nI q) s 1 M = some (az_i (az_i (az_i (az_i (az_i (az_i (az_i (az_i (az_i (az_i M 20 1 s) 20 2 (nI q)) 20 3 (M.1 (o + 1) (27 + q))) 20 4 (M.1 (o + 1) (39 + q))) 20 5 (M.1 (o + 1) (4 + q))) 20 6 (M.1 (o + 1) 0)) 20 7 (M.1 (o + 1) 1)) 20 8 (M.1 (o + 1) 2)) 20 9 (M.1 (o + 1) 16)) 20 10 (M.1 (o + 1) 20)) := by
  have hr : ∀ (M : az_M) (j : Nat) (v : Int32), (az_i M 20 j v).1 (o + 1) = M.1 (o + 1) := fun M j v => gi_k ho
  unfold f_X8_setWords_30
  simp only [hr]
  simp (disch := omega) only [n_addl, n_addr, n_add, n_mull, n_mulr, n_mul, n_sub, n_subr, n_subl, n_cl, n_lt, n_le, n_eq, n_ltl, n_ltr, n_lel, n_ler, n_eqr, n_eql, n_nm1, n_m1n, n_m1lt, n_ltm1, l_ltr, l_ltl, l_ler, l_lel, l_m1lt, l_nneg, if_true, if_false, or_false, false_or, or_true, true_or, and_true, true_and, and_false, false_and, not_true_eq_false, not_false_eq_true, Option.bind_some, Option.bind_none, reduceIte, ltT, ltF, leT, leF, eqT, eqF, nI_lt0, show ¬ (1 : Int32) < 0 by decide, show (1 : Int32).toNatClampNeg = 1 from rfl]
theorem p_setWords {o q : Nat} (ho : o + 1 ≠ 20) (hq : q < 12) {p : Int32} (hp : p = -1 ∨ ∃ k, k < 10 ∧ p = nI k) (M : az_M) : ∃ M', f_X8_setWords o p (nI q) M = some M' ∧ (∀ k, k ≠ 20 → M'.1 k = M.1 k) ∧ M'.2 = M.2 ∧ ∀ j, j < 11 → M'.1 20 j = sp_env (M.1 (o + 1)) p (nI q) j := by
  have hr : ∀ (j : Nat) (v : Int32), (az_i M 20 j v).1 (o + 1) = M.1 (o + 1) := fun j v => gi_k ho
  have K : ∀ (s : Int32), s = (if p = -1 then -1 else M.1 (o + 1) (63 + p.toNatClampNeg)) → ∃ M', f_X8_setWords_30 o (nI q) s 1 (az_i M 20 0 p) = some M' ∧ (∀ k, k ≠ 20 → M'.1 k = M.1 k) ∧ M'.2 = M.2 ∧ ∀ j, j < 11 → M'.1 20 j = sp_env (M.1 (o + 1)) p (nI q) j := by
    intro s hs
    refine ⟨_, p_setWords30 ho hq s _, fun k hk => ?_, rfl, fun j hj => ?_⟩
    · rw [gi_k hk, gi_k hk, gi_k hk, gi_k hk, gi_k hk, gi_k hk, gi_k hk, gi_k hk, gi_k hk, gi_k hk, gi_k hk]
    · rw [hr]
      have hc : (nI q).toNatClampNeg = q := n_cl (by omega)
      rcases (show j = 0 ∨ j = 1 ∨ j = 2 ∨ j = 3 ∨ j = 4 ∨ j = 5 ∨ j = 6 ∨ j = 7 ∨ j = 8 ∨ j = 9 ∨ j = 10 by omega) with rfl | rfl | rfl | rfl | rfl | rfl | rfl | rfl | rfl | rfl | rfl
      · rfl
      · exact hs
      · rfl
      · show M.1 (o + 1) (27 + q) = M.1 (o + 1) (27 + (nI q).toNatClampNeg); rw [hc]
      · show M.1 (o + 1) (39 + q) = M.1 (o + 1) (39 + (nI q).toNatClampNeg); rw [hc]
      · show M.1 (o + 1) (4 + q) = M.1 (o + 1) (4 + (nI q).toNatClampNeg); rw [hc]
      · rfl
      · rfl
      · rfl
      · rfl
      · rfl
  unfold f_X8_setWords
  rcases hp with rfl | ⟨k, hk, rfl⟩
  · rw [if_pos rfl]; exact K (-1) (by rw [if_pos rfl])
  · rw [hr]
    simp (disch := omega) only [n_addl, n_addr, n_add, n_mull, n_mulr, n_mul, n_sub, n_subr, n_subl, n_cl, n_lt, n_le, n_eq, n_ltl, n_ltr, n_lel, n_ler, n_eqr, n_eql, n_nm1, n_m1n, n_m1lt, n_ltm1, l_ltr, l_ltl, l_ler, l_lel, l_m1lt, l_nneg, if_true, if_false, or_false, false_or, or_true, true_or, and_true, true_and, and_false, false_and, not_true_eq_false, not_false_eq_true, Option.bind_some, Option.bind_none, reduceIte, ltT, ltF, leT, leF, eqT, eqF, nI_lt0]
    exact K _ (by rw [if_neg (by rw [n_nm1 (by omega)]; exact not_false), n_cl (by omega)])
theorem p_without {o h q : Nat} (hh : h < 5) (hq : q < 12) {p : Int32} (hp : h = 0 → ∃ k, k < 10 ∧ p = nI k) (M : az_M) : f_X8_withoutLaw o (nI h) p (nI q) M = some (sp_without (M.1 (o + 1)) h p (nI q)) := by
  have hc : (nI q).toNatClampNeg = q := n_cl (by omega)
  unfold f_X8_withoutLaw sp_without
  rw [hc]
  rcases (show h = 0 ∨ h = 1 ∨ h = 2 ∨ h = 3 ∨ h = 4 by omega) with rfl | rfl | rfl | rfl | rfl
  · obtain ⟨k, hk, rfl⟩ := hp rfl
    simp (disch := omega) only [n_addl, n_addr, n_add, n_mull, n_mulr, n_mul, n_sub, n_subr, n_subl, n_cl, n_lt, n_le, n_eq, n_ltl, n_ltr, n_lel, n_ler, n_eqr, n_eql, n_nm1, n_m1n, n_m1lt, n_ltm1, l_ltr, l_ltl, l_ler, l_lel, l_m1lt, l_nneg, if_true, if_false, or_false, false_or, or_true, true_or, and_true, true_and, and_false, false_and, not_true_eq_false, not_false_eq_true, Option.bind_some, Option.bind_none, reduceIte, ltT, ltF, leT, leF, eqT, eqF, nI_lt0]
  · simp (disch := omega) only [n_addl, n_addr, n_add, n_mull, n_mulr, n_mul, n_sub, n_subr, n_subl, n_cl, n_lt, n_le, n_eq, n_ltl, n_ltr, n_lel, n_ler, n_eqr, n_eql, n_nm1, n_m1n, n_m1lt, n_ltm1, l_ltr, l_ltl, l_ler, l_lel, l_m1lt, l_nneg, if_true, if_false, or_false, false_or, or_true, true_or, and_true, true_and, and_false, false_and, not_true_eq_false, not_false_eq_true, Option.bind_some, Option.bind_none, reduceIte, ltT, ltF, leT, leF, eqT, eqF, nI_lt0]
  · simp (disch := omega) only [n_addl, n_addr, n_add, n_mull, n_mulr, n_mul, n_sub, n_subr, n_subl, n_cl, n_lt, n_le, n_eq, n_ltl, n_ltr, n_lel, n_ler, n_eqr, n_eql, n_nm1, n_m1n, n_m1lt, n_ltm1, l_ltr, l_ltl, l_ler, l_lel, l_m1lt, l_nneg, if_true, if_false, or_false, false_or, or_true, true_or, and_true, true_and, and_false, false_and, not_true_eq_false, not_false_eq_true, Option.bind_some, Option.bind_none, reduceIte, ltT, ltF, leT, leF, eqT, eqF, nI_lt0]
  · simp (disch := omega) only [n_addl, n_addr, n_add, n_mull, n_mulr, n_mul, n_sub, n_subr, n_subl, n_cl, n_lt, n_le, n_eq, n_ltl, n_ltr, n_lel, n_ler, n_eqr, n_eql, n_nm1, n_m1n, n_m1lt, n_ltm1, l_ltr, l_ltl, l_ler, l_lel, l_m1lt, l_nneg, if_true, if_false, or_false, false_or, or_true, true_or, and_true, true_and, and_false, false_and, not_true_eq_false, not_false_eq_true, Option.bind_some, Option.bind_none, reduceIte, ltT, ltF, leT, leF, eqT, eqF, nI_lt0]
  · simp (disch := omega) only [n_addl, n_addr, n_add, n_mull, n_mulr, n_mul, n_sub, n_subr, n_subl, n_cl, n_lt, n_le, n_eq, n_ltl, n_ltr, n_lel, n_ler, n_eqr, n_eql, n_nm1, n_m1n, n_m1lt, n_ltm1, l_ltr, l_ltl, l_ler, l_lel, l_m1lt, l_nneg, if_true, if_false, or_false, false_or, or_true, true_or, and_true, true_and, and_false, false_and, not_true_eq_false, not_false_eq_true, Option.bind_some, Option.bind_none, reduceIte, ltT, ltF, leT, leF, eqT, eqF, nI_lt0]
def sp_end (N : Nat → Int32) (h : Nat) (p q : Int32) (v : Option Int32) : Int32 := match v with
  | none => sp_without N h p q
  | some v => sp_clamp (sp_most h) v
theorem nI_pred1 (i : Nat) : nI (i + 1) - 1 = nI i := by rw [n_subr (by omega)]; rfl
theorem tell_take {l : sp_L} {i : Nat} {x : sp_C} (hx : l[i]? = some x) (hd : Int32) (e : sp_E) : sp_tell (l.take (i + 1)) hd e = (sp_tell1 x hd e).or (sp_tell (l.take i) hd e) := by
  have h1 : i < l.length := (List.getElem?_eq_some_iff.mp hx).1
  have h2 : l[i] = x := (List.getElem?_eq_some_iff.mp hx).2
  unfold sp_tell
  rw [← List.take_append_getElem h1, List.foldl_append, h2]
  rfl
theorem p_get {Z : az_S × Nat} {t i c n : Nat} (hi : i < n) (hc : c < 6) (hn : n ≤ 12) (hz : 6 * n ≤ Z.1.2 (t + 2)) (M : az_M) : f_X10_get Z t (nI i) (nI c) M = some (M.1 (t + 2) (6 * i + c)) := by
  unfold f_X10_get
  simp (disch := omega) only [n_addl, n_addr, n_add, n_mull, n_mulr, n_mul, n_sub, n_subr, n_subl, n_cl, n_lt, n_le, n_eq, n_ltl, n_ltr, n_lel, n_ler, n_eqr, n_eql, n_nm1, n_m1n, n_m1lt, n_ltm1, l_ltr, l_ltl, l_ler, l_lel, l_m1lt, l_nneg, if_true, if_false, or_false, false_or, or_true, true_or, and_true, true_and, and_false, false_and, not_true_eq_false, not_false_eq_true, Option.bind_some, Option.bind_none, reduceIte, ltT, ltF, leT, leF, eqT, eqF, nI_lt0]
  rw [Nat.mul_comm]
theorem p_ask35 {Z : az_S × Nat} {o h q t : Nat} {l : sp_L} {p : Int32} {M : az_M} (ho : o + 1 ≠ 20) (ho' : o + 1 ≠ 14) (hh : h < 5) (hq : q < 12) (hp : p = -1 ∨ ∃ k, k < 10 ∧ p = nI k) (hp0 : h = 0 → ∃ k, k < 10 ∧ p = nI k)
    (ct : sp_CT Z M.1 t l) (ex : ∀ (c : Nat) (x : sp_C), l[c]? = some x → sp_ext x.2.1 ∧ sp_ext x.2.2) (ok : ∀ x, x ∈ l → sp_cok x)
    (en : ∀ j, j < 11 → -1000000000 ≤ (sp_env (M.1 (o + 1)) p (nI q) j).toInt ∧ (sp_env (M.1 (o + 1)) p (nI q) j).toInt ≤ 1000000000) :
    ∀ (i : Nat), i ≤ l.length → ∀ (F : Nat), i < F → ∀ (x6 : Int32) (M' : az_M), (∀ k, k ≠ 14 → k ≠ 20 → M'.1 k = M.1 k) → M'.2 = M.2 → (x6 = 0 ∨ (x6 = 1 ∧ ∀ j, j < 11 → M'.1 20 j = sp_env (M.1 (o + 1)) p (nI q) j)) →
    ∃ M'', f_X8_ask_35 Z sp_G o F (nI h) p (nI q) t x6 (nI i - 1) M' = some (sp_end (M.1 (o + 1)) h p (nI q) (sp_tell (l.take i) (nI h) (sp_env (M.1 (o + 1)) p (nI q))), M'') ∧ (∀ k, k ≠ 14 → k ≠ 20 → M''.1 k = M.1 k) ∧ M''.2 = M.2 := by
  obtain ⟨c1, c2, c3, c4, c5, c6⟩ := ct
  intro i
  induction i with
  | zero =>
    intro _ F hF x6 M' hf hf2 _
    obtain ⟨F, rfl⟩ : ∃ F', F = F' + 1 := ⟨F - 1, by omega⟩
    refine ⟨M', ?_, hf, hf2⟩
    rw [f_X8_ask_35, if_pos (by decide), p_without hh hq hp0, hf (o + 1) ho' ho]
    rfl
  | succ i ih =>
    intro hi F hF x6 M' hf hf2 hw
    obtain ⟨F, rfl⟩ : ∃ F', F = F' + 1 := ⟨F - 1, by omega⟩
    obtain ⟨x, hx⟩ : ∃ x, l[i]? = some x := ⟨l[i], List.getElem?_eq_getElem (by omega)⟩
    obtain ⟨d1, d2, d3⟩ := c6 i x hx
    obtain ⟨e1, e2⟩ := ex i x hx
    obtain ⟨k1, k2⟩ := ok x (List.mem_of_getElem? hx)
    have get : ∀ (c : Nat) (M2 : az_M), c < 6 → (∀ k, k ≠ 14 → k ≠ 20 → M2.1 k = M.1 k) → f_X10_get Z t (nI i) (nI c) M2 = some (M.1 (t + 2) (6 * i + c)) := fun c M2 hc h2 => by
      rw [p_get (n := l.length) (by omega) hc c4 c5, h2 (t + 2) (by omega) (by omega)]
    have next : ∀ (x6 : Int32) (M2 : az_M), (∀ k, k ≠ 14 → k ≠ 20 → M2.1 k = M.1 k) → M2.2 = M.2 → (x6 = 0 ∨ (x6 = 1 ∧ ∀ j, j < 11 → M2.1 20 j = sp_env (M.1 (o + 1)) p (nI q) j)) → sp_tell1 x (nI h) (sp_env (M.1 (o + 1)) p (nI q)) = none →
        ∃ M'', f_X8_ask_153 Z sp_G o (f_X8_ask_35 Z sp_G o F) (nI h) p (nI q) t x6 (nI i) M2 = some (sp_end (M.1 (o + 1)) h p (nI q) (sp_tell (l.take (i + 1)) (nI h) (sp_env (M.1 (o + 1)) p (nI q))), M'') ∧ (∀ k, k ≠ 14 → k ≠ 20 → M''.1 k = M.1 k) ∧ M''.2 = M.2 := by
      intro x6 M2 h1 h2 h3 h4
      obtain ⟨M'', a, b, c⟩ := ih (by omega) F (by omega) x6 M2 h1 h2 h3
      refine ⟨M'', ?_, b, c⟩
      rw [tell_take hx, h4, Option.none_or, ← a]
      unfold f_X8_ask_153
      rw [Int32.sub_eq_add_neg]
    have body : ∀ (M2 : az_M), (∀ k, k ≠ 14 → k ≠ 20 → M2.1 k = M.1 k) → M2.2 = M.2 → (∀ j, j < 11 → M2.1 20 j = sp_env (M.1 (o + 1)) p (nI q) j) → x.1 = nI h →
        ∃ M'', f_X8_ask_68 Z sp_G o (f_X8_ask_35 Z sp_G o F) (nI h) p (nI q) t 1 (nI i) M2 = some (sp_end (M.1 (o + 1)) h p (nI q) (sp_tell (l.take (i + 1)) (nI h) (sp_env (M.1 (o + 1)) p (nI q))), M'') ∧ (∀ k, k ≠ 14 → k ≠ 20 → M''.1 k = M.1 k) ∧ M''.2 = M.2 := by
      intro M2 h1 h2 h3 h4
      obtain ⟨M3, r1, r2, r3⟩ := d2 M2 (h1 (t + 1) (by omega) (by omega))
      rw [e1 _ _ h3] at r1
      have t20 : M3.1 20 = M2.1 20 := r2 20 (by decide)
      have f3 : ∀ k, k ≠ 14 → k ≠ 20 → M3.1 k = M.1 k := fun k h h' => (r2 k h).trans (h1 k h h')
      have g3 : M3.2 = M.2 := r3.trans h2
      have w3 : ∀ j, j < 11 → M3.1 20 j = sp_env (M.1 (o + 1)) p (nI q) j := fun j hj => by rw [t20]; exact h3 j hj
      unfold f_X8_ask_68
      rw [show f_X10_get Z t (nI i) 4 M2 = _ from get 4 M2 (by decide) h1, show f_X10_get Z t (nI i) 5 M2 = _ from get 5 M2 (by decide) h1]
      simp only [Option.bind_some]
      rw [r1, Option.bind_some]
      cases ht : x.2.1 (sp_env (M.1 (o + 1)) p (nI q)) with
      | none =>
        rw [if_pos (show sp_enc none ≤ 0 by decide)]
        exact next 1 M3 f3 g3 (Or.inr ⟨rfl, w3⟩) (by unfold sp_tell1; rw [if_pos h4, ht])
      | some v =>
        rcases k1 _ v ht with rfl | rfl
        · rw [if_pos (show sp_enc (some 0) ≤ 0 by decide)]
          exact next 1 M3 f3 g3 (Or.inr ⟨rfl, w3⟩) (by unfold sp_tell1; rw [if_pos h4, ht]; rfl)
        · rw [if_neg (show ¬ sp_enc (some 1) ≤ 0 by decide)]
          rw [show f_X10_get Z t (nI i) 2 M3 = _ from get 2 M3 (by decide) f3, show f_X10_get Z t (nI i) 3 M3 = _ from get 3 M3 (by decide) f3]
          simp only [Option.bind_some]
          obtain ⟨M4, s1, s2, s3⟩ := d3 M3 (f3 (t + 1) (by omega) (by omega))
          rw [e2 _ _ w3] at s1
          have f4 : ∀ k, k ≠ 14 → k ≠ 20 → M4.1 k = M.1 k := fun k h h' => (s2 k h).trans (f3 k h h')
          have g4 : M4.2 = M.2 := s3.trans g3
          have w4 : ∀ j, j < 11 → M4.1 20 j = sp_env (M.1 (o + 1)) p (nI q) j := fun j hj => by rw [s2 20 (by decide)]; exact w3 j hj
          have t1 : sp_tell1 x (nI h) (sp_env (M.1 (o + 1)) p (nI q)) = x.2.2 (sp_env (M.1 (o + 1)) p (nI q)) := by
            unfold sp_tell1; rw [if_pos h4, ht]; rfl
          rw [s1, Option.bind_some]
          cases hs : x.2.2 (sp_env (M.1 (o + 1)) p (nI q)) with
          | none =>
            rw [if_pos (show sp_enc none = -2147483648 from rfl)]
            exact next 1 M4 f4 g4 (Or.inr ⟨rfl, w4⟩) (t1.trans hs)
          | some v =>
            have hv := k2 _ v en hs
            rw [if_neg (show ¬ sp_enc (some v) = -2147483648 by
              intro hE
              have : v.toInt = -2147483648 := congrArg Int32.toInt (show v = -2147483648 from hE)
              omega), if_neg (show ¬ (nI h < 0 ∨ 5 ≤ (nI h).toNatClampNeg) by
              intro hE
              rcases hE with hE | hE
              · rw [nI_lt0 (by omega)] at hE; exact hE
              · rw [n_cl (by omega)] at hE; omega)]
            refine ⟨M4, ?_, f4, g4⟩
            rw [tell_take hx, t1, hs, n_cl (k := h) (by omega)]
            rfl
    rw [f_X8_ask_35, nI_pred1, if_neg (by rw [nI_lt0 (by omega)]; exact not_false), show f_X10_get Z t (nI i) 0 M' = _ from get 0 M' (by decide) hf, Option.bind_some, show M.1 (t + 2) (6 * i + 0) = x.1 from d1]
    by_cases hd : x.1 = nI h
    · rw [if_pos hd]
      rcases hw with rfl | ⟨rfl, hw⟩
      · rw [if_pos rfl]
        obtain ⟨M2, a, b, c, d⟩ := p_setWords ho hq hp M'
        rw [a, Option.bind_some]
        refine body M2 (fun k h h' => (b k h').trans (hf k h h')) (c.trans hf2) (fun j hj => ?_) hd
        rw [d j hj, hf (o + 1) ho' ho]
      · rw [if_neg (by decide)]
        exact body M' hf hf2 hw hd
    · rw [if_neg hd]
      exact next x6 M' hf hf2 hw (by unfold sp_tell1; rw [if_neg hd])
theorem sp_env_ok {B : Nat} {N : Nat → Int32} (hg : sp_rg B N) (hB : B ≤ 1000000000) {q : Nat} (hq : q < 12) {p : Int32} (hp : p = -1 ∨ ∃ k, k < 10 ∧ p = nI k) : ∀ j, j < 11 → -1000000000 ≤ (sp_env N p (nI q) j).toInt ∧ (sp_env N p (nI q) j).toInt ≤ 1000000000 := by
  obtain ⟨⟨a0, a1, a2, a3⟩, ⟨b0, b1, b2, b3, b4⟩, ⟨c1, c2⟩, ⟨d0, d1, d2, d3⟩, e, f, g⟩ := hg
  have hc : (nI q).toNatClampNeg = q := n_cl (by omega)
  have K : ∀ {x : Int32} {lo hi : Int}, sp_in x lo hi → 0 ≤ lo → hi ≤ 1000000000 → -1000000000 ≤ x.toInt ∧ x.toInt ≤ 1000000000 := fun h h1 h2 => ⟨by have := h.1; omega, by have := h.2; omega⟩
  intro j hj
  rcases (show j = 0 ∨ j = 1 ∨ j = 2 ∨ j = 3 ∨ j = 4 ∨ j = 5 ∨ j = 6 ∨ j = 7 ∨ j = 8 ∨ j = 9 ∨ j = 10 by omega) with rfl | rfl | rfl | rfl | rfl | rfl | rfl | rfl | rfl | rfl | rfl
  · show -1000000000 ≤ p.toInt ∧ p.toInt ≤ 1000000000
    rcases hp with rfl | ⟨k, hk, rfl⟩
    · decide
    · rw [n_int (by omega)]; omega
  · show -1000000000 ≤ (if p = -1 then -1 else N (63 + p.toNatClampNeg)).toInt ∧ (if p = -1 then -1 else N (63 + p.toNatClampNeg)).toInt ≤ 1000000000
    rcases hp with rfl | ⟨k, hk, rfl⟩
    · rw [if_pos rfl]; decide
    · rw [if_neg (by rw [n_nm1 (by omega)]; exact not_false), n_cl (by omega)]
      exact K (f k hk).1 (by omega) (by omega)
  · show -1000000000 ≤ (nI q).toInt ∧ (nI q).toInt ≤ 1000000000
    rw [n_int (by omega)]; omega
  · show -1000000000 ≤ (N (27 + (nI q).toNatClampNeg)).toInt ∧ (N (27 + (nI q).toNatClampNeg)).toInt ≤ 1000000000
    rw [hc]; exact K (e q hq).1 (by omega) (by omega)
  · show -1000000000 ≤ (N (39 + (nI q).toNatClampNeg)).toInt ∧ (N (39 + (nI q).toNatClampNeg)).toInt ≤ 1000000000
    rw [hc]; exact K (e q hq).2.1 (by omega) (by omega)
  · show -1000000000 ≤ (N (4 + (nI q).toNatClampNeg)).toInt ∧ (N (4 + (nI q).toNatClampNeg)).toInt ≤ 1000000000
    rw [hc]; exact K (e q hq).2.2.2 (by omega) (by omega)
  · exact K a0 (by omega) (by omega)
  · exact K a1 (by omega) (by omega)
  · exact K a2 (by omega) (by omega)
  · exact K b0 (by omega) (by omega)
  · exact K b4 (by omega) (by omega)
theorem sp_law_m1 (ls : Nat → sp_L) : sp_law (-1) ls = none := if_pos rfl
theorem sp_law_nI {f : Nat} (hf : f < 100) (ls : Nat → sp_L) : sp_law (nI f) ls = some (ls f) := by
  unfold sp_law
  rw [if_neg (by rw [n_nm1 (by omega)]; exact not_false), n_cl (by omega)]
theorem p_ask {Z : az_S × Nat} {o h q B : Nat} {ls : Nat → sp_L} {p : Int32} {M : az_M} {R : Nat → Int32} (ho : o + 1 ≠ 20) (ho' : o + 1 ≠ 14) (hh : h < 5) (hq : q < 12) (hp : p = -1 ∨ ∃ k, k < 10 ∧ p = nI k) (hp0 : h = 0 → ∃ k, k < 10 ∧ p = nI k)
    (bk : sp_bk Z M.1 (M.2.2 4) (M.1 3 1) (M.1 3 2) R ls) (hg : sp_rg B (M.1 (o + 1))) (hB : B ≤ 1000000000) :
    ∃ M', f_X8_ask Z sp_G o (nI h) p (nI q) M = some (sp_ask (sp_law (M.1 3 2) ls) (M.1 (o + 1)) h p (nI q), M') ∧ (∀ k, k ≠ 14 → k ≠ 20 → M'.1 k = M.1 k) ∧ M'.2 = M.2 := by
  obtain ⟨n, b1, b2, b3, b4, b5, b6⟩ := bk
  unfold f_X8_ask f_X0_lawInForce f_X0_lawInForce_31 f_X0_lawInForce_30 f_X0_lawInForce_31
  rcases b5 with b5 | ⟨f, hf, b5⟩
  · refine ⟨M, ?_, fun _ _ _ => rfl, rfl⟩
    rw [b5, if_pos (by decide), Option.bind_some, if_pos rfl, p_without hh hq hp0, sp_law_m1]
    rfl
  · obtain ⟨t, c1, c2, c3, c4⟩ := b6 f hf
    have hlen : (ls f).length ≤ 12 := c2.2.2.2.1
    obtain ⟨M', r, r1, r2⟩ := p_ask35 (F := sp_G) ho ho' hh hq hp hp0 c2 (fun c x hx => c3.ext hx) c4 (sp_env_ok hg hB hq hp) (ls f).length (Nat.le_refl _) (Nat.lt_of_le_of_lt hlen (by decide)) 0 M (fun _ _ _ => rfl) rfl (Or.inl rfl)
    refine ⟨M', ?_, r1, r2⟩
    rw [b5, b2]
    simp (disch := omega) only [n_addl, n_addr, n_add, n_mull, n_mulr, n_mul, n_sub, n_subr, n_subl, n_cl, n_lt, n_le, n_eq, n_ltl, n_ltr, n_lel, n_ler, n_eqr, n_eql, n_nm1, n_m1n, n_m1lt, n_ltm1, l_ltr, l_ltl, l_ler, l_lel, l_m1lt, l_nneg, if_true, if_false, or_false, false_or, or_true, true_or, and_true, true_and, and_false, false_and, not_true_eq_false, not_false_eq_true, Option.bind_some, Option.bind_none, reduceIte, ltT, ltF, leT, leF, eqT, eqF, nI_lt0]
    rw [show M.2.2 (3 + 1) f = some t from c1, if_neg (by simp), Option.bind_some, if_pos c2.2.1, c2.2.2.1, r, List.take_length, sp_law_nI (by omega)]
    rfl
