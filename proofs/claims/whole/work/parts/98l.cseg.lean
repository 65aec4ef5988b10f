/-! WHAT CODE MEANS: the class -/
def jn (o : Nat) (a b : Int32) : Option Int32 := (f_X6_join (nI o) a.toInt64 b.toInt64 m_0).bind fun q => if 1000000000 < q then none else if (-1000000000) ≤ q then some q.toInt32 else none
theorem p_join (o : Int32) (a b : Int64) (M : az_M) : f_X6_join o a b M = f_X6_join o a b m_0 := rfl
theorem join_some {o : Nat} (a b : Int64) : ∃ q, f_X6_join (nI o) a b m_0 = some q := by
  unfold f_X6_join f_X6_join_71 f_X6_join_87 f_X6_join_99 f_X6_join_111 f_X6_join_123
  by_cases hb : b = 0
  · simp only [if_pos hb]
    repeat' split
    all_goals exact ⟨_, rfl⟩
  · simp only [if_neg hb]
    repeat' split
    all_goals exact ⟨_, rfl⟩
/-- two parts joined -/
def cj (o : Nat) (φ ψ : sp_E → Option Int32) : sp_E → Option Int32 := fun e => (φ e).bind fun a => (ψ e).bind fun b => jn o a b
def cn (φ : sp_E → Option Int32) : sp_E → Option Int32 := fun e => (φ e).map fun v => 1 - v
/-- one, and only if it doesn't settle it the other: 11 or, 12 and -/
def ca (o : Nat) (φ ψ : sp_E → Option Int32) : sp_E → Option Int32 := fun e => (φ e).bind fun v => if v = (if o = 11 then 1 else 0) then some v else ψ e
def is01 (φ : sp_E → Option Int32) : Prop := ∀ e v, φ e = some v → v = 0 ∨ v = 1
def cSeg (wl : Nat) (C : Nat → Int32) (a b k : Nat) (φ : sp_E → Option Int32) : Prop := a < b ∧ 1 ≤ k ∧ ∀ (Z : az_S × Nat) (t a3 g h F : Nat) (M : az_M), b ≤ g → g ≤ Z.1.2 (t + 1) → Z.1.2 (t + 1) ≤ 400 → Z.1.2 a3 = wl → t + 1 ≠ 14 → a3 ≠ 14 → (∀ j, a ≤ j → j < b → M.1 (t + 1) j = C j) → h + k ≤ 51 → g < F + a →
  ∃ F' M', g < F' + b ∧ (∀ q, q ≠ 14 → M'.1 q = M.1 q) ∧ M'.2 = M.2 ∧ (∀ j, j < h → M'.1 14 j = M.1 14 j) ∧ (φ (M.1 a3) = none → f_X6_reckon_19 Z sp_G t a3 F (nI g) (nI h) (nI a) M = some (-2147483648, M')) ∧ ∀ v, φ (M.1 a3) = some v → f_X6_reckon_19 Z sp_G t a3 F (nI g) (nI h) (nI a) M = f_X6_reckon_19 Z sp_G t a3 F' (nI g) (nI (h + 1)) (nI b) M' ∧ M'.1 14 h = v
theorem cSeg.cong {wl : Nat} {C C' : Nat → Int32} {a b k : Nat} {φ : sp_E → Option Int32} (h : cSeg wl C a b k φ) (hC : ∀ j, a ≤ j → j < b → C' j = C j) : cSeg wl C' a b k φ :=
  ⟨h.1, h.2.1, fun Z t a3 g hh F M h1 h2 h3 h4 h5 h6 h7 h8 h9 => h.2.2 Z t a3 g hh F M h1 h2 h3 h4 h5 h6 (fun j x y => (h7 j x y).trans (hC j x y)) h8 h9⟩
theorem sd_15 {w s : Nat} (hs : s < 16) : nI (w * 16 + s) &&& 15 = nI s := by rw [c_15]; exact congrArg nI (by omega)
theorem sd_4 {w s : Nat} (hs : s < 16) (hw : w ≤ 100000) : nI (w * 16 + s) >>> (4 &&& 31) = nI w := by
  rw [show (4 : Int32) = nI 4 from rfl, c_shr (by decide) (by omega)]; exact congrArg nI (by show (w * 16 + s) / 16 = w; omega)
theorem c_push {Z : az_S × Nat} {t a3 g a h F w s wl : Nat} {M : az_M} (hg : a < g) (hl : g ≤ Z.1.2 (t + 1)) (h400 : Z.1.2 (t + 1) ≤ 400) (hwl : Z.1.2 a3 = wl) (hw4 : wl ≤ 400) (hM : M.1 (t + 1) a = nI (w * 16 + s)) (hs : s = 0 ∨ (s = 1 ∧ w < wl)) (hw : w ≤ 100000) (hh : h < 51) :
    f_X6_reckon_19 Z sp_G t a3 (F + 1) (nI g) (nI h) (nI a) M = f_X6_reckon_19 Z sp_G t a3 F (nI g) (nI (h + 1)) (nI (a + 1)) (az_i M 14 h (if s = 0 then nI w else M.1 a3 w)) := by
  rw [f_X6_reckon_19, n_cl (by omega), hM, sd_15 (by omega), sd_4 (by omega) hw, show Int32.ofNat (Z.1.2 (t + 1)) = nI (Z.1.2 (t + 1)) from rfl, show Int32.ofNat (Z.1.2 a3) = nI (Z.1.2 a3) from rfl, hwl]
  unfold f_X6_reckon_85 f_X6_reckon_106 f_X6_reckon_302
  rw [hwl]
  rcases hs with rfl | ⟨rfl, hw2⟩
  · simp (disch := omega) only [n_addl, n_addr, n_add, n_mull, n_mulr, n_mul, n_sub, n_subr, n_subl, n_cl, n_lt, n_le, n_eq, n_ltl, n_ltr, n_lel, n_ler, n_eqr, n_eql, n_nm1, n_m1n, n_m1lt, n_ltm1, l_ltr, l_ltl, l_ler, l_lel, l_m1lt, l_nneg, if_true, if_false, or_false, false_or, or_true, true_or, and_true, true_and, and_false, false_and, not_true_eq_false, not_false_eq_true, Option.bind_some, Option.bind_none, reduceIte, ltT, ltF, leT, leF, eqT, eqF, nI_lt0]
  · simp (disch := omega) only [n_addl, n_addr, n_add, n_mull, n_mulr, n_mul, n_sub, n_subr, n_subl, n_cl, n_lt, n_le, n_eq, n_ltl, n_ltr, n_lel, n_ler, n_eqr, n_eql, n_nm1, n_m1n, n_m1lt, n_ltm1, l_ltr, l_ltl, l_ler, l_lel, l_m1lt, l_nneg, if_true, if_false, or_false, false_or, or_true, true_or, and_true, true_and, and_false, false_and, not_true_eq_false, not_false_eq_true, Option.bind_some, Option.bind_none, reduceIte, ltT, ltF, leT, leF, eqT, eqF, nI_lt0, Nat.one_ne_zero]
theorem c_not {Z : az_S × Nat} {t a3 g a h F w : Nat} {M : az_M} (hg : a < g) (hl : g ≤ Z.1.2 (t + 1)) (h400 : Z.1.2 (t + 1) ≤ 400) (hM : M.1 (t + 1) a = nI (w * 16 + 10)) (hw : w ≤ 100000) (hh : h < 51) :
    f_X6_reckon_19 Z sp_G t a3 (F + 1) (nI g) (nI (h + 1)) (nI a) M = f_X6_reckon_19 Z sp_G t a3 F (nI g) (nI (h + 1)) (nI (a + 1)) (az_i M 14 h (1 - M.1 14 h)) := by
  rw [f_X6_reckon_19, n_cl (by omega), hM, sd_15 (by omega), sd_4 (by omega) hw, show Int32.ofNat (Z.1.2 (t + 1)) = nI (Z.1.2 (t + 1)) from rfl]
  unfold f_X6_reckon_302
  rw [nI_pred]
  simp (disch := omega) only [n_addl, n_addr, n_add, n_mull, n_mulr, n_mul, n_sub, n_subr, n_subl, n_cl, n_lt, n_le, n_eq, n_ltl, n_ltr, n_lel, n_ler, n_eqr, n_eql, n_nm1, n_m1n, n_m1lt, n_ltm1, l_ltr, l_ltl, l_ler, l_lel, l_m1lt, l_nneg, if_true, if_false, or_false, false_or, or_true, true_or, and_true, true_and, and_false, false_and, not_true_eq_false, not_false_eq_true, Option.bind_some, Option.bind_none, reduceIte, ltT, ltF, leT, leF, eqT, eqF, nI_lt0]
theorem c_jmp {Z : az_S × Nat} {t a3 g a h F w o : Nat} {M : az_M} (hg : a < g) (hl : g ≤ Z.1.2 (t + 1)) (h400 : Z.1.2 (t + 1) ≤ 400) (ho : o = 11 ∨ o = 12) (hM : M.1 (t + 1) a = nI (w * 16 + o)) (hw : w ≤ 400) (haw : a < w) (hh : h < 51) (h01 : M.1 14 h = 0 ∨ M.1 14 h = 1) :
    f_X6_reckon_19 Z sp_G t a3 (F + 1) (nI g) (nI (h + 1)) (nI a) M = if M.1 14 h = (if o = 11 then 1 else 0) then f_X6_reckon_19 Z sp_G t a3 F (nI g) (nI (h + 1)) (nI w) M else f_X6_reckon_19 Z sp_G t a3 F (nI g) (nI h) (nI (a + 1)) M := by
  have em : nI (h + 1) + (-1) = nI h := by rw [nI_succ, Int32.add_assoc]; show nI h + 0 = _; rw [Int32.add_zero]
  rw [f_X6_reckon_19, n_cl (by omega), hM, sd_15 (by omega), sd_4 (by omega) (by omega), show Int32.ofNat (Z.1.2 (t + 1)) = nI (Z.1.2 (t + 1)) from rfl]
  unfold f_X6_reckon_166 f_X6_reckon_183 f_X6_reckon_195 f_X6_reckon_203 f_X6_reckon_229 f_X6_reckon_302
  rw [nI_pred, em]
  have e1 : nI w - 1 + 1 = nI w := by rw [Int32.sub_add_cancel]
  rcases ho with rfl | rfl
  · rcases h01 with h0 | h0
    · simp (disch := omega) only [n_addl, n_addr, n_add, n_mull, n_mulr, n_mul, n_sub, n_subr, n_subl, n_cl, n_lt, n_le, n_eq, n_ltl, n_ltr, n_lel, n_ler, n_eqr, n_eql, n_nm1, n_m1n, n_m1lt, n_ltm1, l_ltr, l_ltl, l_ler, l_lel, l_m1lt, l_nneg, if_true, if_false, or_false, false_or, or_true, true_or, and_true, true_and, and_false, false_and, not_true_eq_false, not_false_eq_true, Option.bind_some, Option.bind_none, reduceIte, ltT, ltF, leT, leF, eqT, eqF, nI_lt0, h0, e1]
      rw [if_neg (show ¬ ((0 : Int32) = 1) by decide), if_neg (show ¬ ((0 : Int32) = 1) by decide)]
    · simp (disch := omega) only [n_addl, n_addr, n_add, n_mull, n_mulr, n_mul, n_sub, n_subr, n_subl, n_cl, n_lt, n_le, n_eq, n_ltl, n_ltr, n_lel, n_ler, n_eqr, n_eql, n_nm1, n_m1n, n_m1lt, n_ltm1, l_ltr, l_ltl, l_ler, l_lel, l_m1lt, l_nneg, if_true, if_false, or_false, false_or, or_true, true_or, and_true, true_and, and_false, false_and, not_true_eq_false, not_false_eq_true, Option.bind_some, Option.bind_none, reduceIte, ltT, ltF, leT, leF, eqT, eqF, nI_lt0, h0, e1]
      rw [if_neg (show ¬ ((1 : Int32) = 0) by decide), if_neg (show ¬ ((1 : Int32) = 0) by decide), show w - 1 + 1 = w by omega]
  · rcases h01 with h0 | h0
    · simp (disch := omega) only [n_addl, n_addr, n_add, n_mull, n_mulr, n_mul, n_sub, n_subr, n_subl, n_cl, n_lt, n_le, n_eq, n_ltl, n_ltr, n_lel, n_ler, n_eqr, n_eql, n_nm1, n_m1n, n_m1lt, n_ltm1, l_ltr, l_ltl, l_ler, l_lel, l_m1lt, l_nneg, if_true, if_false, or_false, false_or, or_true, true_or, and_true, true_and, and_false, false_and, not_true_eq_false, not_false_eq_true, Option.bind_some, Option.bind_none, reduceIte, ltT, ltF, leT, leF, eqT, eqF, nI_lt0, h0, e1]
      rw [if_neg (show ¬ ((1 : Int32) = 0) by decide), show w - 1 + 1 = w by omega]
    · simp (disch := omega) only [n_addl, n_addr, n_add, n_mull, n_mulr, n_mul, n_sub, n_subr, n_subl, n_cl, n_lt, n_le, n_eq, n_ltl, n_ltr, n_lel, n_ler, n_eqr, n_eql, n_nm1, n_m1n, n_m1lt, n_ltm1, l_ltr, l_ltl, l_ler, l_lel, l_m1lt, l_nneg, if_true, if_false, or_false, false_or, or_true, true_or, and_true, true_and, and_false, false_and, not_true_eq_false, not_false_eq_true, Option.bind_some, Option.bind_none, reduceIte, ltT, ltF, leT, leF, eqT, eqF, nI_lt0, h0, e1]
      simp only [if_neg (show ¬ ((1 : Int32) = 0) by decide)]
theorem c_op {Z : az_S × Nat} {t a3 g a h F w o : Nat} {M : az_M} (hg : a < g) (hl : g ≤ Z.1.2 (t + 1)) (h400 : Z.1.2 (t + 1) ≤ 400) (ho : 2 ≤ o ∧ o ≤ 9) (hM : M.1 (t + 1) a = nI (w * 16 + o)) (hw : w ≤ 400) (hh : h + 1 < 51) :
    f_X6_reckon_19 Z sp_G t a3 (F + 1) (nI g) (nI (h + 2)) (nI a) M = match jn o (M.1 14 h) (M.1 14 (h + 1)) with | none => some (-2147483648, M) | some v => f_X6_reckon_19 Z sp_G t a3 F (nI g) (nI (h + 1)) (nI (a + 1)) (az_i M 14 h v) := by
  have em : nI (h + 2) + (-1) = nI (h + 1) := by rw [show h + 2 = h + 1 + 1 from rfl, nI_succ, Int32.add_assoc]; show nI (h + 1) + 0 = _; rw [Int32.add_zero]
  rw [f_X6_reckon_19, n_cl (by omega), hM, sd_15 (by omega), sd_4 (by omega) (by omega), show Int32.ofNat (Z.1.2 (t + 1)) = nI (Z.1.2 (t + 1)) from rfl]
  unfold f_X6_reckon_287 f_X6_reckon_302
  rw [em, nI_pred]
  simp (disch := omega) only [n_addl, n_addr, n_add, n_mull, n_mulr, n_mul, n_sub, n_subr, n_subl, n_cl, n_lt, n_le, n_eq, n_ltl, n_ltr, n_lel, n_ler, n_eqr, n_eql, n_nm1, n_m1n, n_m1lt, n_ltm1, l_ltr, l_ltl, l_ler, l_lel, l_m1lt, l_nneg, if_true, if_false, or_false, false_or, or_true, true_or, and_true, true_and, and_false, false_and, not_true_eq_false, not_false_eq_true, Option.bind_some, Option.bind_none, reduceIte, ltT, ltF, leT, leF, eqT, eqF, nI_lt0]
  rw [p_join]
  unfold jn
  obtain ⟨q, hq⟩ := join_some (o := o) (M.1 14 h).toInt64 (M.1 14 (h + 1)).toInt64
  rw [show h + 1 - 1 = h from rfl, hq, Option.bind_some, Option.bind_some]
  by_cases h1 : 1000000000 < q
  · rw [if_pos h1, if_pos h1]
  · rw [if_neg h1, if_neg h1]
    by_cases h2 : (-1000000000) ≤ q
    · rw [if_pos h2, if_pos h2]
    · rw [if_neg h2, if_neg h2]
theorem cSeg_push {wl a w s : Nat} {C : Nat → Int32} (hwl : wl ≤ 400) (hC : C a = nI (w * 16 + s)) (hs : s = 0 ∨ (s = 1 ∧ w < wl)) (hw : w ≤ 100000) : cSeg wl C a (a + 1) 1 (fun e => some (if s = 0 then nI w else e w)) := by
  refine ⟨by omega, by omega, fun Z t a3 g h F M h1 h2 h3 h4 h5 h6 h7 h8 h9 => ?_⟩
  obtain ⟨F, rfl⟩ : ∃ F1, F = F1 + 1 := ⟨F - 1, by omega⟩
  refine ⟨F, az_i M 14 h (if s = 0 then nI w else M.1 a3 w), by omega, fun q hq => gi_k hq, rfl, fun j hj => by rw [gi, if_pos rfl, if_neg (by omega)], fun e => (by cases e), fun v hv => ?_⟩
  injection hv with hv
  exact ⟨c_push (by omega) h2 h3 h4 hwl ((h7 a (by omega) (by omega)).trans hC) hs hw (by omega), by rw [gi, if_pos rfl, if_pos rfl, hv]⟩
theorem cSeg_not {wl a b k w : Nat} {C : Nat → Int32} {φ : sp_E → Option Int32} (h : cSeg wl C a b k φ) (hC : C b = nI (w * 16 + 10)) (hw : w ≤ 400) : cSeg wl C a (b + 1) k (cn φ) := by
  obtain ⟨k1, k2, k3⟩ := h
  refine ⟨by omega, k2, fun Z t a3 g h F M h1 h2 h3 h4 h5 h6 h7 h8 h9 => ?_⟩
  obtain ⟨F', M', a1, a2, a3', a4, a5, a6⟩ := k3 Z t a3 g h F M (by omega) h2 h3 h4 h5 h6 (fun j x y => h7 j x (by omega)) h8 h9
  unfold cn
  cases hp : φ (M.1 a3) with
  | none => exact ⟨F' - 1, M', by omega, a2, a3', a4, fun _ => a5 hp, fun v hv => (by cases hv)⟩
  | some v =>
    obtain ⟨F', rfl⟩ : ∃ F1, F' = F1 + 1 := ⟨F' - 1, by omega⟩
    obtain ⟨b1, b2⟩ := a6 v hp
    refine ⟨F', az_i M' 14 h (1 - M'.1 14 h), by omega, fun q hq => by rw [gi_k hq, a2 q hq], a3', fun j hj => by rw [gi, if_pos rfl, if_neg (by omega), a4 j hj], fun e => (by cases e), fun u hu => ?_⟩
    injection hu with hu
    exact ⟨by rw [b1, c_not (by omega) h2 h3 (by rw [a2 (t + 1) h5, h7 b (by omega) (by omega)]; exact hC) (by omega) (by omega)], by rw [gi, if_pos rfl, if_pos rfl, b2]; exact hu⟩
theorem cSeg_op {wl a b c k k' w o : Nat} {C : Nat → Int32} {φ ψ : sp_E → Option Int32} (h : cSeg wl C a b k φ) (h' : cSeg wl C b c k' ψ) (ho : 2 ≤ o ∧ o ≤ 9) (hC : C c = nI (w * 16 + o)) (hw : w ≤ 400) : cSeg wl C a (c + 1) (k + k') (cj o φ ψ) := by
  obtain ⟨k1, k2, k3⟩ := h
  obtain ⟨l1, l2, l3⟩ := h'
  refine ⟨by omega, by omega, fun Z t a3 g h F M h1 h2 h3 h4 h5 h6 h7 h8 h9 => ?_⟩
  obtain ⟨F', M', a1, a2, a3', a4, a5, a6⟩ := k3 Z t a3 g h F M (by omega) h2 h3 h4 h5 h6 (fun j x y => h7 j x (by omega)) (by omega) h9
  unfold cj
  cases hp : φ (M.1 a3) with
  | none => exact ⟨F' + b, M', by omega, a2, a3', a4, fun _ => a5 hp, fun v hv => (by cases hv)⟩
  | some v =>
    obtain ⟨b1, b2⟩ := a6 v hp
    obtain ⟨G', N', d1, d2, d3, d4, d5, d6⟩ := l3 Z t a3 g (h + 1) F' M' (by omega) h2 h3 h4 h5 h6 (fun j x y => by rw [a2 (t + 1) h5]; exact h7 j (by omega) (by omega)) (by omega) a1
    rw [a2 a3 h6] at d5 d6
    cases hq : ψ (M.1 a3) with
    | none => exact ⟨G' + c, N', by omega, fun q hq => by rw [d2 q hq, a2 q hq], by rw [d3, a3'], fun j hj => by rw [d4 j (by omega), a4 j hj], fun _ => by rw [b1]; exact d5 hq, fun u hu => by cases hu⟩
    | some u =>
      obtain ⟨e1, e2⟩ := d6 u hq
      obtain ⟨G', rfl⟩ : ∃ F1, G' = F1 + 1 := ⟨G' - 1, by omega⟩
      have e3 : N'.1 14 h = v := by rw [d4 h (by omega), b2]
      have st := c_op (a3 := a3) (h := h) (F := G') (w := w) (show c < g by omega) h2 h3 ho (M := N') (by rw [d2 (t + 1) h5, a2 (t + 1) h5, h7 c (by omega) (by omega)]; exact hC) hw (by omega)
      rw [e3, e2] at st
      show ∃ F' M', _ ∧ _ ∧ _ ∧ _ ∧ (jn o v u = none → _) ∧ ∀ x, jn o v u = some x → _
      cases hj : jn o v u with
      | none =>
        rw [hj] at st
        exact ⟨G', N', by omega, fun q hq => by rw [d2 q hq, a2 q hq], by rw [d3, a3'], fun j hj => by rw [d4 j (by omega), a4 j hj], fun _ => by rw [b1, e1]; exact st, fun u hu => by cases hu⟩
      | some x =>
        rw [hj] at st
        refine ⟨G', az_i N' 14 h x, by omega, fun q hq => by rw [gi_k hq, d2 q hq, a2 q hq], by rw [← a3']; exact d3, fun j hj => by rw [gi, if_pos rfl, if_neg (by omega), d4 j (by omega), a4 j hj], fun e => (by cases e), fun y hy => ?_⟩
        injection hy with hy
        exact ⟨by rw [b1, e1]; exact st, by rw [gi, if_pos rfl, if_pos rfl, hy]⟩
theorem cSeg_and {wl a b c k k' o : Nat} {C : Nat → Int32} {φ ψ : sp_E → Option Int32} (h : cSeg wl C a b k φ) (h' : cSeg wl C (b + 1) c k' ψ) (ho : o = 11 ∨ o = 12) (hC : C b = nI (c * 16 + o)) (hc : c ≤ 400) (h01 : is01 φ) : cSeg wl C a c (k + k') (ca o φ ψ) := by
  obtain ⟨k1, k2, k3⟩ := h
  obtain ⟨l1, l2, l3⟩ := h'
  refine ⟨by omega, by omega, fun Z t a3 g h F M h1 h2 h3 h4 h5 h6 h7 h8 h9 => ?_⟩
  obtain ⟨F', M', a1, a2, a3', a4, a5, a6⟩ := k3 Z t a3 g h F M (by omega) h2 h3 h4 h5 h6 (fun j x y => h7 j x (by omega)) (by omega) h9
  unfold ca
  cases hp : φ (M.1 a3) with
  | none => exact ⟨F' + b, M', by omega, a2, a3', a4, fun _ => a5 hp, fun v hv => (by cases hv)⟩
  | some v =>
    obtain ⟨b1, b2⟩ := a6 v hp
    obtain ⟨F', rfl⟩ : ∃ F1, F' = F1 + 1 := ⟨F' - 1, by omega⟩
    have st := c_jmp (a3 := a3) (h := h) (F := F') (w := c) (show b < g by omega) h2 h3 ho (M := M') (by rw [a2 (t + 1) h5, h7 b (by omega) (by omega)]; exact hC) hc (by omega) (by omega) (by rw [b2]; exact h01 _ v hp)
    rw [b2] at st
    show ∃ F' M', _ ∧ _ ∧ _ ∧ _ ∧ ((if v = (if o = 11 then 1 else 0) then some v else ψ (M.1 a3)) = none → _) ∧ ∀ x, (if v = (if o = 11 then 1 else 0) then some v else ψ (M.1 a3)) = some x → _
    by_cases hs : v = (if o = 11 then 1 else 0)
    · rw [if_pos hs] at st ⊢
      refine ⟨F', M', by omega, a2, a3', a4, fun e => (by cases e), fun x hx => ?_⟩
      injection hx with hx
      exact ⟨by rw [b1]; exact st, by rw [b2, hx]⟩
    · rw [if_neg hs] at st ⊢
      obtain ⟨G', N', d1, d2, d3, d4, d5, d6⟩ := l3 Z t a3 g h F' M' (by omega) h2 h3 h4 h5 h6 (fun j x y => by rw [a2 (t + 1) h5]; exact h7 j (by omega) (by omega)) (by omega) (by omega)
      rw [a2 a3 h6] at d5 d6
      exact ⟨G', N', d1, fun q hq => by rw [d2 q hq, a2 q hq], by rw [d3, a3'], fun j hj => by rw [d4 j hj, a4 j hj], fun e => by rw [b1, st]; exact d5 e, fun x hx => ⟨by rw [b1, st]; exact (d6 x hx).1, (d6 x hx).2⟩⟩
