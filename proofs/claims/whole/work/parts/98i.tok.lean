/-! TOKENS: the tape's bytes T, so many L -/
def tkd (T : Nat → Nat) (L p : Nat) : Nat := if L ≤ p then 0 else if 97 ≤ T p ∧ T p ≤ 122 then 1 else if 48 ≤ T p ∧ T p ≤ 57 then 2 else 3
def tsk (T : Nat → Nat) (L : Nat) : Nat → Nat → Nat
  | 0, p => p
  | e + 1, p => if p < L ∧ T p = 32 then tsk T L e (p + 1) else p
def ten (T : Nat → Nat) (L k : Nat) : Nat → Nat → Nat
  | 0, p => p
  | e + 1, p => if tkd T L p = k then ten T L k e (p + 1) else p
def tto (T : Nat → Nat) (L i : Nat) : Nat := if tkd T L i = 0 then i else if tkd T L i = 3 then i + 1 else ten T L (tkd T L i) (L - i) i
def tnx (T : Nat → Nat) (L i : Nat) : Nat := tsk T L (L - tto T L i) (tto T L i)
/-- a number by its digits: further ones past a bound change nothing -/
def tnum (T : Nat → Nat) (L b : Nat) : Nat → Nat → Nat → Nat
  | 0, _, a => a
  | e + 1, p, a => if tkd T L p = 2 then tnum T L b e (p + 1) (if a ≤ b then a * 10 + (T p - 48) else a) else a
def twb (T : Nat → Nat) (L : Nat) : Nat → Nat → List Nat
  | 0, _ => []
  | e + 1, p => if tkd T L p = 1 then T p :: twb T L e (p + 1) else []
theorem tkd_lt {T : Nat → Nat} {L p : Nat} (h : tkd T L p ≠ 0) : p < L := by
  unfold tkd at h
  by_cases hp : L ≤ p
  · rw [if_pos hp] at h; exact absurd rfl h
  · omega
theorem tkd_le (T : Nat → Nat) (L p : Nat) : tkd T L p ≤ 3 := by
  unfold tkd
  split
  · omega
  · split
    · omega
    · split <;> omega
theorem tsk_le (T : Nat → Nat) (L : Nat) : ∀ e p, p ≤ L → p ≤ tsk T L e p ∧ tsk T L e p ≤ L := by
  intro e
  induction e with
  | zero => intro p h; exact ⟨Nat.le_refl _, h⟩
  | succ e ih =>
    intro p h
    rw [tsk]
    split
    · rename_i hc
      have := ih (p + 1) (by omega)
      omega
    · exact ⟨Nat.le_refl _, h⟩
theorem ten_le (T : Nat → Nat) (L k : Nat) (hk : k ≠ 0) : ∀ e p, p ≤ L → p ≤ ten T L k e p ∧ ten T L k e p ≤ L := by
  intro e
  induction e with
  | zero => intro p h; exact ⟨Nat.le_refl _, h⟩
  | succ e ih =>
    intro p h
    rw [ten]
    split
    · rename_i hc
      have hl := tkd_lt (T := T) (L := L) (p := p) (by rw [hc]; exact hk)
      have := ih (p + 1) (by omega)
      omega
    · exact ⟨Nat.le_refl _, h⟩
theorem tto_le {T : Nat → Nat} {L i : Nat} (h : i ≤ L) : i ≤ tto T L i ∧ tto T L i ≤ L := by
  unfold tto
  by_cases h0 : tkd T L i = 0
  · rw [if_pos h0]; exact ⟨Nat.le_refl _, h⟩
  · have := tkd_lt h0
    rw [if_neg h0]
    split
    · omega
    · exact ten_le T L _ h0 _ _ h
theorem tto_lt {T : Nat → Nat} {L i : Nat} (h : tkd T L i ≠ 0) : i < tto T L i ∧ tto T L i ≤ L := by
  have hl := tkd_lt h
  unfold tto
  rw [if_neg h]
  split
  · omega
  · obtain ⟨e, he⟩ : ∃ e, L - i = e + 1 := ⟨L - i - 1, by omega⟩
    rw [he, ten, if_pos rfl]
    have := ten_le T L _ h e (i + 1) (by omega)
    omega
theorem tnx_le {T : Nat → Nat} {L i : Nat} (h : i ≤ L) : i ≤ tnx T L i ∧ tnx T L i ≤ L := by
  have a := tto_le (T := T) h
  have b := tsk_le T L (L - tto T L i) (tto T L i) a.2
  unfold tnx
  omega
theorem tnx_lt {T : Nat → Nat} {L i : Nat} (h : tkd T L i ≠ 0) : i < tnx T L i ∧ tnx T L i ≤ L := by
  have a := tto_lt h
  have b := tsk_le T L (L - tto T L i) (tto T L i) a.2
  unfold tnx
  omega
/-- the tape, in a memory: the class's, the reference's -/
def Tc (T : Nat → Nat) (L : Nat) (M : az_M) : Prop := M.1 5 1 = nI L ∧ ∀ i, i < 400 → M.1 6 i = nI (T i)
def Tr (T : Nat → Nat) (L : Nat) (M : az_M) : Prop := M.1 40 13 = nI L ∧ ∀ i, i < 400 → M.1 49 i = nI (T i)
theorem p_kindAt {T : Nat → Nat} {L p : Nat} {M : az_M} (hL : L ≤ 400) (h255 : ∀ i, T i ≤ 255) (hT : Tc T L M) (hp : p ≤ 400) : f_X5_kindAt (nI p) M = some (nI (tkd T L p)) := by
  unfold f_X5_kindAt f_X5_kindAt_37 f_X5_kindAt_53 f_X5_kindAt_54 tkd
  rw [hT.1]
  have hb := h255 p
  by_cases h1 : L ≤ p
  · rw [if_neg (by rw [n_lt (by omega) (by omega)]; omega), if_pos h1]; rfl
  · rw [if_pos (by rw [n_lt (by omega) (by omega)]; omega), if_neg (nI_in (by omega) (by decide)), n_cl (by omega), hT.2 p (by omega), if_neg h1]
    simp (disch := omega) only [n_addl, n_addr, n_add, n_mull, n_mulr, n_mul, n_sub, n_subr, n_subl, n_cl, n_lt, n_le, n_eq, n_ltl, n_ltr, n_lel, n_ler, n_eqr, n_eql, n_nm1, n_m1n, n_m1lt, n_ltm1, l_ltr, l_ltl, l_ler, l_lel, l_m1lt, l_nneg]
    by_cases h2 : T p < 97
    · rw [if_pos h2, if_neg (show ¬ (97 ≤ T p ∧ T p ≤ 122) by omega)]
      by_cases h3 : T p < 48
      · rw [if_pos h3, if_neg (show ¬ (48 ≤ T p ∧ T p ≤ 57) by omega)]; rfl
      · rw [if_neg h3]
        by_cases h4 : 57 < T p
        · rw [if_pos h4, if_neg (show ¬ (48 ≤ T p ∧ T p ≤ 57) by omega)]; rfl
        · rw [if_neg h4, if_pos (show 48 ≤ T p ∧ T p ≤ 57 by omega)]; rfl
    · rw [if_neg h2]
      by_cases h3 : 122 < T p
      · rw [if_pos h3, if_neg (show ¬ (97 ≤ T p ∧ T p ≤ 122) by omega), if_neg (show ¬ T p < 48 by omega), if_pos (show 57 < T p by omega), if_neg (show ¬ (48 ≤ T p ∧ T p ≤ 57) by omega)]; rfl
      · rw [if_neg h3, if_pos (show 97 ≤ T p ∧ T p ≤ 122 by omega)]; rfl
/-- where the class stands -/
def tnv (T : Nat → Nat) (L b k q a : Nat) : Nat := if k = 2 then tnum T L b (L - q) q a else a
def tokC (T : Nat → Nat) (L i : Nat) (M : az_M) : Prop := M.1 15 3 = nI (tkd T L i) ∧ M.1 15 4 = nI i ∧ M.1 15 5 = nI (tto T L i) ∧ M.1 15 6 = nI (tnv T L 1000 (tkd T L i) i 0)
def cF0 (M M' : az_M) : Prop := (∀ k, k ≠ 15 → M'.1 k = M.1 k) ∧ (∀ j, j ≠ 3 → j ≠ 4 → j ≠ 5 → j ≠ 6 → M'.1 15 j = M.1 15 j) ∧ M'.2 = M.2
theorem Tc.cF {T : Nat → Nat} {L : Nat} {M M' : az_M} (h : Tc T L M) (f : ∀ k, k = 5 ∨ k = 6 → M'.1 k = M.1 k) : Tc T L M' := by unfold Tc; rw [f 5 (by simp), f 6 (by simp)]; exact h
theorem tnum_le (T : Nat → Nat) (L b : Nat) (h255 : ∀ i, T i ≤ 255) : ∀ e p a, a ≤ b * 10 + 300 → tnum T L b e p a ≤ b * 10 + 300 := by
  intro e
  induction e with
  | zero => intro p a h; exact h
  | succ e ih =>
    intro p a h
    rw [tnum]
    have := h255 p
    split
    · refine ih _ _ ?_
      split <;> omega
    · exact h
theorem ten_step {T : Nat → Nat} {L k q : Nat} (hk : tkd T L q = k) (h0 : k ≠ 0) : ten T L k (L - q) q = ten T L k (L - (q + 1)) (q + 1) := by
  have := tkd_lt (T := T) (L := L) (p := q) (by rw [hk]; exact h0)
  rw [show L - q = (L - (q + 1)) + 1 by omega, ten, if_pos hk]
theorem ten_stop {T : Nat → Nat} {L k q : Nat} (hk : tkd T L q ≠ k) : ten T L k (L - q) q = q := by
  cases L - q with
  | zero => rfl
  | succ d => rw [ten, if_neg hk]
theorem tnv_step {T : Nat → Nat} {L b k q a : Nat} (hk : tkd T L q = k) (h0 : k ≠ 0) : tnv T L b k q a = tnv T L b k (q + 1) (if k = 2 ∧ a ≤ b then a * 10 + (T q - 48) else a) := by
  have hq := tkd_lt (T := T) (L := L) (p := q) (by rw [hk]; exact h0)
  unfold tnv
  by_cases h2 : k = 2
  · rw [if_pos h2, if_pos h2, show L - q = (L - (q + 1)) + 1 by omega, tnum, if_pos (hk.trans h2)]
    by_cases ha : a ≤ b
    · rw [if_pos ha, if_pos ⟨h2, ha⟩]
    · rw [if_neg ha, if_neg (fun e => ha e.2)]
  · rw [if_neg h2, if_neg h2, if_neg (fun e => h2 e.1)]
theorem tnv_stop {T : Nat → Nat} {L b k q a : Nat} (hk : tkd T L q ≠ k) : tnv T L b k q a = a := by
  unfold tnv
  by_cases h2 : k = 2
  · rw [if_pos h2]
    cases L - q with
    | zero => rfl
    | succ d => rw [tnum, if_neg (by rw [← h2]; exact hk)]
  · rw [if_neg h2]
theorem tkd_dig {T : Nat → Nat} {L q : Nat} (h : tkd T L q = 2) : 48 ≤ T q ∧ T q ≤ 57 := by
  unfold tkd at h
  by_cases h1 : L ≤ q
  · rw [if_pos h1] at h; omega
  · rw [if_neg h1] at h
    by_cases h2 : 97 ≤ T q ∧ T q ≤ 122
    · rw [if_pos h2] at h; omega
    · rw [if_neg h2] at h
      by_cases h3 : 48 ≤ T q ∧ T q ≤ 57
      · exact h3
      · rw [if_neg h3] at h; omega
theorem tkd_let {T : Nat → Nat} {L q : Nat} (h : tkd T L q = 1) : 97 ≤ T q ∧ T q ≤ 122 := by
  unfold tkd at h
  by_cases h1 : L ≤ q
  · rw [if_pos h1] at h; omega
  · rw [if_neg h1] at h
    by_cases h2 : 97 ≤ T q ∧ T q ≤ 122
    · exact h2
    · rw [if_neg h2] at h
      by_cases h3 : 48 ≤ T q ∧ T q ≤ 57
      · rw [if_pos h3] at h; omega
      · rw [if_neg h3] at h; omega
theorem c_token {T : Nat → Nat} {L i : Nat} {M : az_M} (hL : L ≤ 400) (h255 : ∀ i, T i ≤ 255) (hT : Tc T L M) (hi : i ≤ L) : ∃ M', f_X5_nextToken_36 sp_G (nI i) M = some M' ∧ tokC T L i M' ∧ cF0 M M' := by
  unfold f_X5_nextToken_36 f_X5_nextToken_67
  rw [p_kindAt hL h255 (hT.cF (fun k hk => gi_k (by omega))) (by omega), Option.bind_some]
  generalize hX : az_i (az_i (az_i M 15 4 (nI i)) 15 3 (nI (tkd T L i))) 15 6 0 = X
  have xk : ∀ k, k ≠ 15 → X.1 k = M.1 k := fun k h => by rw [← hX, gi_k h, gi_k h, gi_k h]
  have x15 : ∀ j, X.1 15 j = if j = 6 then 0 else if j = 3 then nI (tkd T L i) else if j = 4 then nI i else M.1 15 j := fun j => by
    rw [← hX, gi, if_pos rfl, gi, if_pos rfl, gi, if_pos rfl]
  have x2 : X.2 = M.2 := by rw [← hX]; rfl
  have x3 : X.1 15 3 = nI (tkd T L i) := by rw [x15]; rfl
  have kl := tkd_le T L i
  have xT : Tc T L X := hT.cF (fun k hk => xk k (by omega))
  rw [x3]
  have fin : ∀ (M' : az_M) (t v : Nat), M'.1 15 5 = nI t → M'.1 15 6 = nI v → (∀ j, j ≠ 5 → j ≠ 6 → M'.1 15 j = X.1 15 j) → (∀ k, k ≠ 15 → M'.1 k = M.1 k) → M'.2 = M.2 → t = tto T L i → v = tnv T L 1000 (tkd T L i) i 0 → tokC T L i M' ∧ cF0 M M' := by
    intro M' t v a1 a2 a3 a4 a5 a6 a7
    refine ⟨⟨by rw [a3 3 (by decide) (by decide), x3], by rw [a3 4 (by decide) (by decide), x15]; rfl, by rw [a1, a6], by rw [a2, a7]⟩, a4, fun j h3 h4 h5 h6 => ?_, a5⟩
    rw [a3 j h5 h6, x15, if_neg h6, if_neg h3, if_neg h4]
  have lp : ∀ (e q a F : Nat) (Y : az_M), q + e = L → i ≤ q → e + 1 < F → tkd T L q = tkd T L i → tkd T L i ≠ 0 → tkd T L i ≠ 3 → a ≤ 1000 * 10 + 300 → (∀ k, k ≠ 15 → Y.1 k = M.1 k) → (∀ j, j ≠ 6 → Y.1 15 j = X.1 15 j) → Y.1 15 6 = nI a → Y.2 = M.2 → ∃ M', f_X5_nextToken_68 sp_G F (nI q) 1 Y = some M' ∧ M'.1 15 5 = nI (ten T L (tkd T L i) (L - q) q) ∧ M'.1 15 6 = nI (tnv T L 1000 (tkd T L i) q a) ∧ (∀ j, j ≠ 5 → j ≠ 6 → M'.1 15 j = X.1 15 j) ∧ (∀ k, k ≠ 15 → M'.1 k = M.1 k) ∧ M'.2 = M.2 := by
    intro e
    induction e with
    | zero =>
      intro q a F Y hq hiq hF hk h0 h3 ha yk y15 y6 y2
      have := tkd_lt (T := T) (L := L) (p := q) (by rw [hk]; exact h0)
      omega
    | succ e ih =>
      intro q a F Y hq hiq hF hk h0 h3 ha yk y15 y6 y2
      obtain ⟨F, rfl⟩ : ∃ F1, F = F1 + 1 := ⟨F - 1, by omega⟩
      have hb := h255 q
      have y3 : Y.1 15 3 = nI (tkd T L i) := by rw [y15 3 (by decide), x3]
      have yT : Tc T L Y := hT.cF (fun k hk => yk k (by omega))
      have kl1 := tkd_le T L (q + 1)
      rw [f_X5_nextToken_68, yT.1, if_neg (by rw [n_le (by omega) (by omega)]; omega), if_neg (by decide), y3]
      have rest : ∀ (W : az_M) (a' : Nat), a' ≤ 1000 * 10 + 300 → (∀ k, k ≠ 15 → W.1 k = M.1 k) → (∀ j, j ≠ 6 → W.1 15 j = X.1 15 j) → W.1 15 6 = nI a' → W.2 = M.2 → tnv T L 1000 (tkd T L i) q a = tnv T L 1000 (tkd T L i) (q + 1) a' → ∃ M', f_X5_nextToken_125 sp_G (f_X5_nextToken_68 sp_G F) (nI q) W = some M' ∧ M'.1 15 5 = nI (ten T L (tkd T L i) (L - q) q) ∧ M'.1 15 6 = nI (tnv T L 1000 (tkd T L i) q a) ∧ (∀ j, j ≠ 5 → j ≠ 6 → M'.1 15 j = X.1 15 j) ∧ (∀ k, k ≠ 15 → M'.1 k = M.1 k) ∧ M'.2 = M.2 := by
        intro W a' ha' wk w15 w6 w2 hnum
        have w3 : W.1 15 3 = nI (tkd T L i) := by rw [w15 3 (by decide), x3]
        have wT : Tc T L W := hT.cF (fun k hk => wk k (by omega))
        unfold f_X5_nextToken_125 f_X5_nextToken_152 f_X5_nextToken_153
        rw [w3, if_neg (by rw [show (3 : Int32) = nI 3 from rfl, n_eq (by omega) (by omega)]; exact h3), show nI q + 1 = nI (q + 1) from (nI_succ q).symm, p_kindAt hL h255 wT (by omega), Option.bind_some, hnum, ten_step hk h0]
        by_cases hn : tkd T L (q + 1) = tkd T L i
        · rw [if_pos (by rw [hn])]
          exact ih (q + 1) a' F W (by omega) (by omega) (by omega) hn h0 h3 ha' wk w15 w6 w2
        · rw [if_neg (by rw [n_eq (by omega) (by omega)]; exact hn), ten_stop hn, tnv_stop hn]
          obtain ⟨F, rfl⟩ : ∃ F1, F = F1 + 1 := ⟨F - 1, by omega⟩
          refine ⟨az_i W 15 5 (nI (q + 1)), ?_, by rw [gi, if_pos rfl, if_pos rfl], by rw [gi, if_pos rfl, if_neg (by decide), w6], fun j h5 h6 => by rw [gi, if_pos rfl, if_neg h5, w15 j h6], fun k hk => by rw [gi_k hk, wk k hk], w2⟩
          rw [f_X5_nextToken_68]
          unfold f_X5_nextToken_157
          by_cases hend : W.1 5 1 ≤ nI (q + 1)
          · rw [if_pos hend]
          · rw [if_neg hend, if_pos rfl]
      have hst := tnv_step (b := 1000) (a := a) hk h0
      by_cases h2 : tkd T L i = 2
      · rw [if_pos (by rw [h2]; rfl), y6]
        by_cases hb : a ≤ 1000
        · have hd := tkd_dig (hk.trans h2)
          rw [if_neg (by rw [show (1000 : Int32) = nI 1000 from rfl, n_lt (by omega) (by omega)]; omega), if_neg (nI_in (by omega) (by decide)), n_cl (by omega), yT.2 q (by omega), show nI a * 10 + nI (T q) - 48 = nI (a * 10 + (T q - 48)) by
            rw [show (10 : Int32) = nI 10 from rfl, show (48 : Int32) = nI 48 from rfl, n_mul, n_add, n_sub (by omega)]; exact congrArg nI (by omega)]
          exact rest _ (a * 10 + (T q - 48)) (by omega) (fun k hk => by rw [gi_k hk, yk k hk]) (fun j hj => by rw [gi, if_pos rfl, if_neg hj, y15 j hj]) (by rw [gi, if_pos rfl, if_pos rfl]) y2 (by rw [hst, if_pos ⟨h2, hb⟩])
        · rw [if_pos (by rw [show (1000 : Int32) = nI 1000 from rfl, n_lt (by omega) (by omega)]; omega)]
          exact rest Y a ha yk y15 y6 y2 (by rw [hst, if_neg (fun e => hb e.2)])
      · rw [if_neg (by rw [show (2 : Int32) = nI 2 from rfl, n_eq (by omega) (by omega)]; exact h2)]
        exact rest Y a ha yk y15 y6 y2 (by rw [hst, if_neg (fun e => h2 e.1)])
  by_cases h0 : tkd T L i = 0
  · rw [if_pos (by rw [h0]; rfl)]
    refine ⟨az_i X 15 5 (nI i), ?_, fin _ i 0 (by rw [gi, if_pos rfl, if_pos rfl]) (by rw [gi, if_pos rfl, if_neg (by decide), x15]; rfl) (fun j h5 _ => by rw [gi, if_pos rfl, if_neg h5]) (fun k hk => by rw [gi_k hk, xk k hk]) x2 (by unfold tto; rw [if_pos h0]) (by unfold tnv; rw [h0]; rfl)⟩
    show f_X5_nextToken_68 sp_G (999999 + 1) (nI i) 0 X = _
    rw [f_X5_nextToken_68]
    unfold f_X5_nextToken_157
    by_cases hend : X.1 5 1 ≤ nI i
    · rw [if_pos hend]
    · rw [if_neg hend, if_pos rfl]
  · rw [if_neg (by rw [show (0 : Int32) = nI 0 from rfl, n_eq (by omega) (by omega)]; exact h0)]
    have hlt := tkd_lt h0
    by_cases h3 : tkd T L i = 3
    · refine ⟨az_i X 15 5 (nI (i + 1)), ?_, fin _ (i + 1) 0 (by rw [gi, if_pos rfl, if_pos rfl]) (by rw [gi, if_pos rfl, if_neg (by decide), x15]; rfl) (fun j h5 _ => by rw [gi, if_pos rfl, if_neg h5]) (fun k hk => by rw [gi_k hk, xk k hk]) x2 (by unfold tto; rw [if_neg h0, if_pos h3]) (by unfold tnv; rw [h3]; rfl)⟩
      show f_X5_nextToken_68 sp_G (999998 + 1 + 1) (nI i) 1 X = _
      rw [f_X5_nextToken_68, xT.1, if_neg (by rw [n_le (by omega) (by omega)]; omega), if_neg (by decide), x3, h3, if_neg (by decide)]
      unfold f_X5_nextToken_125 f_X5_nextToken_152 f_X5_nextToken_153
      rw [x3, h3, if_pos (show nI 3 = 3 from rfl), show nI i + 1 = nI (i + 1) from (nI_succ i).symm, f_X5_nextToken_68]
      unfold f_X5_nextToken_157
      by_cases hend : X.1 5 1 ≤ nI (i + 1)
      · rw [if_pos hend]
      · rw [if_neg hend, if_pos rfl]
    · obtain ⟨M', a1, a2, a3, a4, a5, a6⟩ := lp (L - i) i 0 sp_G X (by omega) (Nat.le_refl i) (by show L - i + 1 < 1000000; omega) rfl h0 h3 (by omega) xk (fun _ _ => rfl) (by rw [x15]; rfl) x2
      exact ⟨M', a1, fin M' _ _ a2 a3 a4 a5 a6 (by unfold tto; rw [if_neg h0, if_neg h3]) rfl⟩
theorem c_next {T : Nat → Nat} {L p : Nat} {M : az_M} (hL : L ≤ 400) (h255 : ∀ i, T i ≤ 255) (hT : Tc T L M) (hp : p ≤ L) (h5 : M.1 15 5 = nI p) : ∃ M', f_X5_nextToken sp_G M = some M' ∧ tokC T L (tsk T L (L - p) p) M' ∧ cF0 M M' := by
  unfold f_X5_nextToken
  rw [h5]
  have K : ∀ (e q F : Nat), q + e = L → e < F → ∃ M', f_X5_nextToken_5 sp_G F (nI q) M = some M' ∧ tokC T L (tsk T L (L - q) q) M' ∧ cF0 M M' := by
    intro e
    induction e with
    | zero =>
      intro q F hq hF
      obtain ⟨F, rfl⟩ : ∃ F1, F = F1 + 1 := ⟨F - 1, by omega⟩
      rw [f_X5_nextToken_5, hT.1, if_pos (by rw [n_le (by omega) (by omega)]; omega), show L - q = 0 by omega]
      exact c_token hL h255 hT (by omega)
    | succ e ih =>
      intro q F hq hF
      obtain ⟨F, rfl⟩ : ∃ F1, F = F1 + 1 := ⟨F - 1, by omega⟩
      have hb := h255 q
      rw [f_X5_nextToken_5, hT.1, if_neg (by rw [n_le (by omega) (by omega)]; omega), if_neg (nI_in (by omega) (by decide)), n_cl (by omega), hT.2 q (by omega), show L - q = (L - (q + 1)) + 1 by omega, tsk]
      by_cases h32 : T q = 32
      · rw [if_pos (by rw [h32]; rfl), if_pos ⟨by omega, h32⟩, show nI q + 1 = nI (q + 1) from (nI_succ q).symm]
        exact ih (q + 1) F (by omega) (by omega)
      · rw [if_neg (by rw [show (32 : Int32) = nI 32 from rfl, n_eq (by omega) (by omega)]; exact h32), if_neg (fun e => h32 e.2)]
        exact c_token hL h255 hT (by omega)
  exact K (L - p) p sp_G (by omega) (by show L - p < 1000000; omega)
