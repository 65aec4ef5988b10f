/-! TOKENS: the reference -/
theorem nIn {c N : Nat} (h : c < N) (hc : c < 2147483648) : ¬ (nI c < 0 ∨ N ≤ c) := fun e => e.elim (nI_pos hc) (by omega)
def whash (w : List Nat) : Nat := w.foldl (fun a x => a * 32 + (x - 96)) 0
def twv (w : List Nat) : Int64 := if w.length ≤ 10 then lN (whash w) else -1
def tworth (T : Nat → Nat) (L i : Nat) : Int64 := if tkd T L i = 0 then 0 else if tkd T L i = 1 then twv (twb T L (L - i) i) else if tkd T L i = 2 then lN (tnum T L 1000000 (L - i) i 0) else lN (T i)
def tokR (T : Nat → Nat) (L i : Nat) (M : az_M) : Prop := M.1 40 16 = nI (tkd T L i) ∧ M.1 40 14 = nI i ∧ M.1 40 15 = nI (tto T L i) ∧ M.2.1 40 17 = tworth T L i
def rF0 (M M' : az_M) : Prop := (∀ k, k ≠ 40 → M'.1 k = M.1 k) ∧ (∀ j, j ≠ 14 → j ≠ 15 → j ≠ 16 → M'.1 40 j = M.1 40 j) ∧ (∀ k, k ≠ 40 → M'.2.1 k = M.2.1 k) ∧ (∀ j, j ≠ 17 → M'.2.1 40 j = M.2.1 40 j) ∧ M'.2.2 = M.2.2
theorem rF0.refl (M : az_M) : rF0 M M := ⟨fun _ _ => rfl, fun _ _ _ _ => rfl, fun _ _ => rfl, fun _ _ => rfl, rfl⟩
theorem rF0.trans {M M' M'' : az_M} (h : rF0 M M') (g : rF0 M' M'') : rF0 M M'' := ⟨fun k a => (g.1 k a).trans (h.1 k a), fun j a b c => (g.2.1 j a b c).trans (h.2.1 j a b c), fun k a => (g.2.2.1 k a).trans (h.2.2.1 k a), fun j a => (g.2.2.2.1 j a).trans (h.2.2.2.1 j a), g.2.2.2.2.trans h.2.2.2.2⟩
theorem gl_k {M : az_M} {k j : Nat} {v : Int64} {k' : Nat} (h : k' ≠ k) : (az_l M k j v).2.1 k' = M.2.1 k' := if_neg h
theorem gl_j (M : az_M) (k j : Nat) (v : Int64) (j' : Nat) : (az_l M k j v).2.1 k j' = if j' = j then v else M.2.1 k j' := by
  show (if k = k then vp_updL (M.2.1 k) j v else M.2.1 k) j' = _
  rw [if_pos rfl]; rfl
theorem rF0_i {M : az_M} {j : Nat} {v : Int32} (h : j = 14 ∨ j = 15 ∨ j = 16) : rF0 M (az_i M 40 j v) := ⟨fun k a => gi_k a, fun i a b c => by rw [gi, if_pos rfl, if_neg (by omega)], fun _ _ => rfl, fun _ _ => rfl, rfl⟩
theorem rF0_l {M : az_M} {v : Int64} : rF0 M (az_l M 40 17 v) := ⟨fun _ _ => rfl, fun _ _ _ _ => rfl, fun k a => gl_k a, fun j a => by rw [gl_j, if_neg a], rfl⟩
theorem Tr.rF {T : Nat → Nat} {L : Nat} {M M' : az_M} (h : Tr T L M) (f : rF0 M M') : Tr T L M' := by
  unfold Tr; rw [f.2.1 13 (by decide) (by decide) (by decide), f.1 49 (by decide)]; exact h
theorem p_isSmall {b : Nat} (hb : b ≤ 255) (M : az_M) : f_X12_isSmall (nI b) M = some (if 97 ≤ b ∧ b ≤ 122 then 1 else 0) := by
  unfold f_X12_isSmall f_X12_isSmall_16 f_X12_isSmall_17
  simp (disch := omega) only [n_addl, n_addr, n_add, n_mull, n_mulr, n_mul, n_sub, n_subr, n_subl, n_cl, n_lt, n_le, n_eq, n_ltl, n_ltr, n_lel, n_ler, n_eqr, n_eql, n_nm1, n_m1n, n_m1lt, n_ltm1, l_ltr, l_ltl, l_ler, l_lel, l_m1lt, l_nneg]
  by_cases h1 : b < 97
  · rw [if_pos h1, if_neg (show ¬ (97 ≤ b ∧ b ≤ 122) by omega)]; rfl
  · rw [if_neg h1]
    by_cases h2 : 122 < b
    · rw [if_pos h2, if_neg (show ¬ (97 ≤ b ∧ b ≤ 122) by omega)]; rfl
    · rw [if_neg h2, if_pos (show 97 ≤ b ∧ b ≤ 122 by omega)]; rfl
theorem p_isDigit {b : Nat} (hb : b ≤ 255) (M : az_M) : f_X12_isDigit (nI b) M = some (if 48 ≤ b ∧ b ≤ 57 then 1 else 0) := by
  unfold f_X12_isDigit f_X12_isDigit_16 f_X12_isDigit_17
  simp (disch := omega) only [n_addl, n_addr, n_add, n_mull, n_mulr, n_mul, n_sub, n_subr, n_subl, n_cl, n_lt, n_le, n_eq, n_ltl, n_ltr, n_lel, n_ler, n_eqr, n_eql, n_nm1, n_m1n, n_m1lt, n_ltm1, l_ltr, l_ltl, l_ler, l_lel, l_m1lt, l_nneg]
  by_cases h1 : b < 48
  · rw [if_pos h1, if_neg (show ¬ (48 ≤ b ∧ b ≤ 57) by omega)]; rfl
  · rw [if_neg h1]
    by_cases h2 : 57 < b
    · rw [if_pos h2, if_neg (show ¬ (48 ≤ b ∧ b ≤ 57) by omega)]; rfl
    · rw [if_neg h2, if_pos (show 48 ≤ b ∧ b ≤ 57 by omega)]; rfl
theorem tkd_at {T : Nat → Nat} {L q : Nat} (h : q < L) : tkd T L q = if 97 ≤ T q ∧ T q ≤ 122 then 1 else if 48 ≤ T q ∧ T q ≤ 57 then 2 else 3 := by unfold tkd; rw [if_neg (by omega)]
theorem twv_snoc {u : List Nat} {b : Nat} (hb : 97 ≤ b ∧ b ≤ 122) (h : u.length < 10) : twv u * 32 + (nI b).toInt64 - 96 = twv (u ++ [b]) := by
  unfold twv
  rw [if_pos (by omega), if_pos (by rw [List.length_append, List.length_singleton]; omega), nI_l (by omega), show (32 : Int64) = lN 32 from rfl, show (96 : Int64) = lN 96 from rfl, lN_mul, lN_add, lN_sub (by omega)]
  unfold whash
  rw [List.foldl_append]
  show lN (_ + b - 96) = lN (_ + (b - 96))
  exact congrArg lN (by omega)
theorem r_digitsL {T : Nat → Nat} {L i : Nat} (hL : L ≤ 400) (h255 : ∀ i, T i ≤ 255) (h2 : tkd T L i = 2) : ∀ (e q a F : Nat) (M : az_M), q + e = L → e < F → Tr T L M → M.1 40 16 = nI 2 → M.1 40 15 = nI q → M.2.1 40 17 = lN a → a ≤ 1000000 * 10 + 300 → ∃ M', f_X12_next_243 sp_G F M = some M' ∧ M'.1 40 15 = nI (ten T L 2 (L - q) q) ∧ M'.2.1 40 17 = lN (tnv T L 1000000 2 q a) ∧ rF0 M M' ∧ M'.1 40 14 = M.1 40 14 ∧ M'.1 40 16 = nI 2 := by
  intro e
  induction e with
  | zero =>
    intro q a F M hq hF hT h16 h15 h17 ha
    obtain ⟨F, rfl⟩ : ∃ F1, F = F1 + 1 := ⟨F - 1, by omega⟩
    have hk : tkd T L q ≠ 2 := fun e => by have := tkd_lt (T := T) (L := L) (p := q) (by omega); omega
    rw [f_X12_next_243, h16, if_pos (show nI 2 = 2 from rfl), hT.1, h15, if_pos (by rw [n_le (by omega) (by omega)]; omega), ten_stop hk, tnv_stop hk]
    exact ⟨M, rfl, h15, h17, rF0.refl M, rfl, h16⟩
  | succ e ih =>
    intro q a F M hq hF hT h16 h15 h17 ha
    obtain ⟨F, rfl⟩ : ∃ F1, F = F1 + 1 := ⟨F - 1, by omega⟩
    have hb := h255 q
    rw [f_X12_next_243, h16, if_pos (show nI 2 = 2 from rfl), hT.1, h15, if_neg (by rw [n_le (by omega) (by omega)]; omega), if_neg (nI_in (by omega) (by decide)), n_cl (by omega), hT.2 q (by omega), p_isDigit hb, Option.bind_some]
    have hkq := tkd_at (T := T) (L := L) (q := q) (by omega)
    by_cases hd : 48 ≤ T q ∧ T q ≤ 57
    · have hk : tkd T L q = 2 := by rw [hkq, if_neg (show ¬ (97 ≤ T q ∧ T q ≤ 122) by omega), if_pos hd]
      rw [if_pos hd, if_neg (by decide), h17]
      unfold f_X12_next_319
      have hst := tnv_step (b := 1000000) (a := a) hk (by decide)
      have go : ∀ a', a' ≤ 1000000 * 10 + 300 → tnv T L 1000000 2 q a = tnv T L 1000000 2 (q + 1) a' → ∃ M', f_X12_next_243 sp_G F (az_i (az_l M 40 17 (lN a')) 40 15 ((az_l M 40 17 (lN a')).1 40 15 + 1)) = some M' ∧ M'.1 40 15 = nI (ten T L 2 (L - q) q) ∧ M'.2.1 40 17 = lN (tnv T L 1000000 2 q a) ∧ rF0 M M' ∧ M'.1 40 14 = M.1 40 14 ∧ M'.1 40 16 = nI 2 := by
        intro a' ha' hs
        have e15 : (az_l M 40 17 (lN a')).1 40 15 + 1 = nI (q + 1) := by show M.1 40 15 + 1 = _; rw [h15]; exact (nI_succ q).symm
        rw [e15]
        have fX : rF0 M (az_i (az_l M 40 17 (lN a')) 40 15 (nI (q + 1))) := rF0_l.trans (rF0_i (Or.inr (Or.inl rfl)))
        obtain ⟨M', a1, a2, a3, a4, a5, a6⟩ := ih (q + 1) a' F _ (by omega) (by omega) (hT.rF fX) (by rw [gi, if_pos rfl, if_neg (by decide)]; exact h16) (by rw [gi, if_pos rfl, if_pos rfl]) (by show (az_l M 40 17 (lN a')).2.1 40 17 = _; rw [gl_j, if_pos rfl]) ha'
        refine ⟨M', a1, by rw [a2, ten_step hk (by decide)], by rw [a3, hs], fX.trans a4, ?_, ?_⟩
        · rw [a5, gi, if_pos rfl, if_neg (by decide)]; rfl
        · exact a6
      have hle : (lN a ≤ (1000000 : Int64)) ↔ a ≤ 1000000 := lN_le (b := 1000000) (by omega) (by decide)
      by_cases h6 : a ≤ 1000000
      · rw [if_pos (hle.mpr h6), if_neg (nIn (by omega) (by omega)), show lN a * 10 + (nI (T q)).toInt64 - 48 = lN (a * 10 + (T q - 48)) by
          rw [nI_l (by omega), show (10 : Int64) = lN 10 from rfl, show (48 : Int64) = lN 48 from rfl, lN_mul, lN_add, lN_sub (by omega)]; exact congrArg lN (by omega)]
        exact go _ (by omega) (by rw [hst, if_pos ⟨rfl, h6⟩])
      · rw [if_neg (fun e => h6 (hle.mp e))]
        exact go a ha (by rw [hst, if_neg (fun e => h6 e.2)])
    · have hk : tkd T L q ≠ 2 := by
        rw [hkq, if_neg hd]
        split
        · decide
        · decide
      rw [if_neg hd, if_pos rfl, ten_stop hk, tnv_stop hk]
      exact ⟨M, rfl, h15, h17, rF0.refl M, rfl, h16⟩
theorem twb_step {T : Nat → Nat} {L q : Nat} (hk : tkd T L q = 1) : twb T L (L - q) q = T q :: twb T L (L - (q + 1)) (q + 1) := by
  have := tkd_lt (T := T) (L := L) (p := q) (by omega)
  rw [show L - q = (L - (q + 1)) + 1 by omega, twb, if_pos hk]
theorem twb_stop {T : Nat → Nat} {L q : Nat} (hk : tkd T L q ≠ 1) : twb T L (L - q) q = [] := by
  cases L - q with
  | zero => rfl
  | succ d => rw [twb, if_neg hk]
theorem r_lettersL {T : Nat → Nat} {L i : Nat} (hL : L ≤ 400) (h255 : ∀ i, T i ≤ 255) : ∀ (e q F : Nat) (u : List Nat) (M : az_M), q + e = L → e < F → u.length + i = q → Tr T L M → M.1 40 16 = nI 1 → M.1 40 14 = nI i → M.1 40 15 = nI q → M.2.1 40 17 = twv u → ∃ M', f_X12_next_149 sp_G F M = some M' ∧ M'.1 40 15 = nI (ten T L 1 (L - q) q) ∧ M'.2.1 40 17 = twv (u ++ twb T L (L - q) q) ∧ rF0 M M' ∧ M'.1 40 14 = nI i ∧ M'.1 40 16 = nI 1 := by
  have off : ∀ (M : az_M), M.1 40 16 = nI 1 → f_X12_next_243 sp_G sp_G M = some M := by
    intro M h
    show f_X12_next_243 sp_G (999999 + 1) M = some M
    rw [f_X12_next_243, h, if_neg (by decide)]; rfl
  intro e
  induction e with
  | zero =>
    intro q F u M hq hF hu hT h16 h14 h15 h17
    obtain ⟨F, rfl⟩ : ∃ F1, F = F1 + 1 := ⟨F - 1, by omega⟩
    have hk : tkd T L q ≠ 1 := fun e => by have := tkd_lt (T := T) (L := L) (p := q) (by omega); omega
    rw [f_X12_next_149, h16, if_pos (show nI 1 = 1 from rfl), hT.1, h15, if_pos (by rw [n_le (by omega) (by omega)]; omega), off M h16, ten_stop hk, twb_stop hk, List.append_nil]
    exact ⟨M, rfl, h15, h17, rF0.refl M, h14, h16⟩
  | succ e ih =>
    intro q F u M hq hF hu hT h16 h14 h15 h17
    obtain ⟨F, rfl⟩ : ∃ F1, F = F1 + 1 := ⟨F - 1, by omega⟩
    have hb := h255 q
    rw [f_X12_next_149, h16, if_pos (show nI 1 = 1 from rfl), hT.1, h15, if_neg (by rw [n_le (by omega) (by omega)]; omega), if_neg (nI_in (by omega) (by decide)), n_cl (by omega), hT.2 q (by omega), p_isSmall hb, Option.bind_some, off M h16]
    have hkq := tkd_at (T := T) (L := L) (q := q) (by omega)
    by_cases hd : 97 ≤ T q ∧ T q ≤ 122
    · have hk : tkd T L q = 1 := by rw [hkq, if_pos hd]
      rw [if_pos hd, if_neg (by decide), h17, h14]
      unfold f_X12_next_227
      have go : ∀ v, v = twv (u ++ [T q]) → ∃ M', f_X12_next_149 sp_G F (az_i (az_l M 40 17 v) 40 15 ((az_l M 40 17 v).1 40 15 + 1)) = some M' ∧ M'.1 40 15 = nI (ten T L 1 (L - q) q) ∧ M'.2.1 40 17 = twv (u ++ twb T L (L - q) q) ∧ rF0 M M' ∧ M'.1 40 14 = nI i ∧ M'.1 40 16 = nI 1 := by
        intro v hv
        have e15 : (az_l M 40 17 v).1 40 15 + 1 = nI (q + 1) := by show M.1 40 15 + 1 = _; rw [h15]; exact (nI_succ q).symm
        rw [e15]
        have fX : rF0 M (az_i (az_l M 40 17 v) 40 15 (nI (q + 1))) := rF0_l.trans (rF0_i (Or.inr (Or.inl rfl)))
        obtain ⟨M', a1, a2, a3, a4, a5, a6⟩ := ih (q + 1) F (u ++ [T q]) _ (by omega) (by omega) (by rw [List.length_append, List.length_singleton]; omega) (hT.rF fX) (by rw [gi, if_pos rfl, if_neg (by decide)]; exact h16) (by rw [gi, if_pos rfl, if_neg (by decide)]; exact h14) (by rw [gi, if_pos rfl, if_pos rfl]) (by show (az_l M 40 17 v).2.1 40 17 = _; rw [gl_j, if_pos rfl, hv])
        refine ⟨M', a1, by rw [a2, ten_step hk (by decide)], by rw [a3, twb_step hk, List.append_assoc, List.singleton_append], fX.trans a4, ?_, ?_⟩
        · exact a5
        · exact a6
      rw [n_sub (show i ≤ q by omega)]
      by_cases h10 : 10 ≤ q - i
      · rw [if_pos (by rw [show (10 : Int32) = nI 10 from rfl, n_le (by omega) (by omega)]; exact h10)]
        exact go (-1) (by unfold twv; rw [if_neg (by rw [List.length_append, List.length_singleton]; omega)])
      · rw [if_neg (by rw [show (10 : Int32) = nI 10 from rfl, n_le (by omega) (by omega)]; exact h10), if_neg (nIn (by omega) (by omega)), twv_snoc hd (by omega)]
        exact go _ rfl
    · have hk : tkd T L q ≠ 1 := by
        rw [hkq, if_neg hd]
        split <;> decide
      rw [if_neg hd, if_pos rfl, ten_stop hk, twb_stop hk, List.append_nil]
      exact ⟨M, rfl, h15, h17, rF0.refl M, h14, h16⟩
theorem r_token {T : Nat → Nat} {L i : Nat} {M : az_M} (hL : L ≤ 400) (h255 : ∀ i, T i ≤ 255) (hT : Tr T L M) (hi : i ≤ L) (h14 : M.1 40 14 = nI i) : ∃ M', f_X12_next_46 sp_G M = some M' ∧ tokR T L i M' ∧ rF0 M M' := by
  have hb := h255 i
  generalize hX : az_l (az_i M 40 15 (M.1 40 14)) 40 17 0 = X
  have fX : rF0 M X := by rw [← hX]; exact (rF0_i (Or.inr (Or.inl rfl))).trans rF0_l
  have XT := hT.rF fX
  have x14 : X.1 40 14 = nI i := by rw [← hX]; show (az_i M 40 15 (M.1 40 14)).1 40 14 = _; rw [gi, if_pos rfl, if_neg (by decide), h14]
  have x15 : X.1 40 15 = nI i := by rw [← hX]; show (az_i M 40 15 (M.1 40 14)).1 40 15 = _; rw [gi, if_pos rfl, if_pos rfl, h14]
  have x17 : X.2.1 40 17 = 0 := by rw [← hX, gl_j, if_pos rfl]
  unfold f_X12_next_46
  rw [hX, x14, XT.1]
  have go : ∃ M', f_X12_next_114 sp_G (nI (tkd T L i)) X = some M' ∧ tokR T L i M' ∧ rF0 M M' := by
    unfold f_X12_next_114
    generalize hY : az_i X 40 16 (nI (tkd T L i)) = Y
    have fY : rF0 X Y := by rw [← hY]; exact rF0_i (Or.inr (Or.inr rfl))
    have YT := XT.rF fY
    have kl := tkd_le T L i
    have y16 : Y.1 40 16 = nI (tkd T L i) := by rw [← hY, gi, if_pos rfl, if_pos rfl]
    have y14 : Y.1 40 14 = nI i := by rw [← hY, gi, if_pos rfl, if_neg (by decide), x14]
    have y15 : Y.1 40 15 = nI i := by rw [← hY, gi, if_pos rfl, if_neg (by decide), x15]
    have y17 : Y.2.1 40 17 = 0 := by rw [← hY]; exact x17
    rw [y16, y14]
    by_cases h3 : tkd T L i = 3
    · have hlt := tkd_lt (T := T) (L := L) (p := i) (by omega)
      rw [if_pos (by rw [h3]; rfl), if_neg (nI_in (by omega) (by decide)), n_cl (by omega), YT.2 i (by omega)]
      refine ⟨az_i (az_l Y 40 17 (nI (T i)).toInt64) 40 15 ((az_l Y 40 17 (nI (T i)).toInt64).1 40 15 + 1), ?_, ⟨?_, ?_, ?_, ?_⟩, fX.trans (fY.trans (rF0_l.trans (rF0_i (Or.inr (Or.inl rfl)))))⟩
      · show f_X12_next_149 sp_G (999999 + 1) _ = _
        rw [f_X12_next_149, if_neg (by rw [gi, if_pos rfl, if_neg (by decide)]; show ¬ Y.1 40 16 = 1; rw [y16, h3]; decide)]
        show f_X12_next_243 sp_G (999999 + 1) _ = _
        rw [f_X12_next_243, if_neg (by rw [gi, if_pos rfl, if_neg (by decide)]; show ¬ Y.1 40 16 = 2; rw [y16, h3]; decide)]
        rfl
      · rw [gi, if_pos rfl, if_neg (by decide)]; exact y16
      · rw [gi, if_pos rfl, if_neg (by decide)]; exact y14
      · rw [gi, if_pos rfl, if_pos rfl]
        show Y.1 40 15 + 1 = _
        rw [y15]
        unfold tto
        rw [if_neg (by omega), if_pos h3]; exact (nI_succ i).symm
      · show (az_l Y 40 17 (nI (T i)).toInt64).2.1 40 17 = _
        rw [gl_j, if_pos rfl]
        unfold tworth
        rw [if_neg (by omega), if_neg (by omega), if_neg (by omega), nI_l (by omega)]
    · rw [if_neg (by rw [show (3 : Int32) = nI 3 from rfl, n_eq (by omega) (by omega)]; exact h3)]
      by_cases h1 : tkd T L i = 1
      · have hlt := tkd_lt (T := T) (L := L) (p := i) (by omega)
        obtain ⟨M', a1, a2, a3, a4, a5, a6⟩ := r_lettersL (i := i) hL h255 (L - i) i sp_G [] Y (by omega) (by show L - i < 1000000; omega) (by simp) YT (by rw [y16, h1]) y14 y15 (by rw [y17]; rfl)
        refine ⟨M', a1, ⟨by rw [a6, h1], a5, ?_, ?_⟩, fX.trans (fY.trans a4)⟩
        · rw [a2]; unfold tto; rw [if_neg (by omega), if_neg h3, h1]
        · rw [a3]; unfold tworth; rw [if_neg (by omega), if_pos h1]; rfl
      · have e149 : f_X12_next_149 sp_G sp_G Y = f_X12_next_243 sp_G sp_G Y := by
          show f_X12_next_149 sp_G (999999 + 1) Y = _
          rw [f_X12_next_149, y16, if_neg (by rw [show (1 : Int32) = nI 1 from rfl, n_eq (by omega) (by omega)]; exact h1)]
        rw [e149]
        by_cases h2 : tkd T L i = 2
        · have hlt := tkd_lt (T := T) (L := L) (p := i) (by omega)
          obtain ⟨M', a1, a2, a3, a4, a5, a6⟩ := r_digitsL hL h255 h2 (L - i) i 0 sp_G Y (by omega) (by show L - i < 1000000; omega) YT (by rw [y16, h2]) y15 (by rw [y17]; rfl) (by omega)
          refine ⟨M', a1, ⟨by rw [a6, h2], by rw [a5, y14], ?_, ?_⟩, fX.trans (fY.trans a4)⟩
          · rw [a2]; unfold tto; rw [if_neg (by omega), if_neg h3, h2]
          · rw [a3]; unfold tworth tnv; rw [if_pos (show (2 : Nat) = 2 from rfl), if_neg (show ¬ tkd T L i = 0 by omega), if_neg h1, if_pos h2]
        · have h0 : tkd T L i = 0 := by omega
          refine ⟨Y, ?_, ⟨y16, y14, ?_, ?_⟩, fX.trans fY⟩
          · show f_X12_next_243 sp_G (999999 + 1) Y = _
            rw [f_X12_next_243, y16, if_neg (by rw [h0]; decide)]; rfl
          · rw [y15]; unfold tto; rw [if_pos h0]
          · rw [y17]; unfold tworth; rw [if_pos h0]
  by_cases hL0 : i = L
  · rw [if_pos (by rw [hL0])]
    have h0 : tkd T L i = 0 := by unfold tkd; rw [if_pos (by omega)]
    rw [h0] at go; exact go
  · have hkq := tkd_at (T := T) (L := L) (q := i) (by omega)
    rw [if_neg (by rw [n_eq (by omega) (by omega)]; exact hL0), if_neg (nI_in (by omega) (by decide)), n_cl (by omega), XT.2 i (by omega), p_isSmall hb, Option.bind_some, p_isDigit hb, Option.bind_some]
    by_cases h1 : 97 ≤ T i ∧ T i ≤ 122
    · rw [if_pos h1, if_neg (by decide)]
      rw [hkq, if_pos h1] at go; exact go
    · rw [if_neg h1, if_pos rfl, if_neg (nIn (show i < 400 by omega) (by omega))]
      rw [hkq, if_neg h1] at go
      by_cases h2 : 48 ≤ T i ∧ T i ≤ 57
      · rw [if_pos h2, if_neg (by decide)]
        rw [if_pos h2] at go; exact go
      · rw [if_neg h2, if_pos rfl]
        rw [if_neg h2] at go; exact go
theorem r_next {T : Nat → Nat} {L p : Nat} {M : az_M} (hL : L ≤ 400) (h255 : ∀ i, T i ≤ 255) (hT : Tr T L M) (hp : p ≤ L) (h15 : M.1 40 15 = nI p) : ∃ M', f_X12_next sp_G M = some M' ∧ tokR T L (tsk T L (L - p) p) M' ∧ rF0 M M' := by
  unfold f_X12_next
  rw [h15]
  have K : ∀ (e q F : Nat) (X : az_M), q + e = L → e < F → Tr T L X → X.1 40 14 = nI q → ∃ M', f_X12_next_8 sp_G F X = some M' ∧ tokR T L (tsk T L (L - q) q) M' ∧ rF0 X M' := by
    intro e
    induction e with
    | zero =>
      intro q F X hq hF XT x14
      obtain ⟨F, rfl⟩ : ∃ F1, F = F1 + 1 := ⟨F - 1, by omega⟩
      rw [f_X12_next_8, XT.1, x14, if_pos (by rw [n_le (by omega) (by omega)]; omega), show L - q = 0 by omega]
      exact r_token (i := q) hL h255 XT (by omega) x14
    | succ e ih =>
      intro q F X hq hF XT x14
      obtain ⟨F, rfl⟩ : ∃ F1, F = F1 + 1 := ⟨F - 1, by omega⟩
      have hb := h255 q
      rw [f_X12_next_8, XT.1, x14, if_neg (by rw [n_le (by omega) (by omega)]; omega), if_neg (nI_in (by omega) (by decide)), n_cl (by omega), XT.2 q (by omega), show L - q = (L - (q + 1)) + 1 by omega, tsk]
      by_cases h32 : T q = 32
      · rw [if_pos (by rw [h32]; rfl), if_pos ⟨by omega, h32⟩, show nI q + 1 = nI (q + 1) from (nI_succ q).symm]
        have fX : rF0 X (az_i X 40 14 (nI (q + 1))) := rF0_i (Or.inl rfl)
        obtain ⟨M', a1, a2, a3⟩ := ih (q + 1) F _ (by omega) (by omega) (XT.rF fX) (by rw [gi, if_pos rfl, if_pos rfl])
        exact ⟨M', a1, a2, fX.trans a3⟩
      · rw [if_neg (by rw [show (32 : Int32) = nI 32 from rfl, n_eq (by omega) (by omega)]; exact h32), if_neg (fun e => h32 e.2)]
        exact r_token hL h255 XT (by omega) x14
  have fX : rF0 M (az_i M 40 14 (nI p)) := rF0_i (Or.inl rfl)
  obtain ⟨M', a1, a2, a3⟩ := K (L - p) p sp_G _ (by omega) (by show L - p < 1000000; omega) (hT.rF fX) (by rw [gi, if_pos rfl, if_pos rfl])
  exact ⟨M', a1, a2, fX.trans a3⟩
