/-! the game -/
def sp_gc (M M' : az_M) : Prop := (∀ k, k ≠ 14 → k ≠ 20 → k ≠ 28 → M'.1 k = M.1 k) ∧ (∀ j, j ≠ 2 → j ≠ 3 → M'.1 28 j = M.1 28 j) ∧ M'.2 = M.2
theorem sp_gc.refl (M : az_M) : sp_gc M M := ⟨fun _ _ _ _ => rfl, fun _ _ _ => rfl, rfl⟩
theorem sp_gc.trans {M M' M'' : az_M} (h : sp_gc M M') (g : sp_gc M' M'') : sp_gc M M'' := ⟨fun k a b c => (g.1 k a b c).trans (h.1 k a b c), fun j a b => (g.2.1 j a b).trans (h.2.1 j a b), g.2.2.trans h.2.2⟩
theorem sp_cf.gc {M M' : az_M} (h : sp_cf M M') : sp_gc M M' := ⟨fun k a b _ => h.1 k a b, fun j _ _ => by rw [h.1 28 (by decide) (by decide)], h.2⟩
theorem sp_gc_28 (M : az_M) {j : Nat} (hj : j = 2 ∨ j = 3) (v : Int32) : sp_gc M (az_i M 28 j v) := ⟨fun k _ _ h => gi_k h, fun i h2 h3 => by rw [gi, if_pos rfl, if_neg (by omega)], rfl⟩
theorem ClsAt.gc {Z : az_S × Nat} {B : Nat} {inF : Int32} {ls : Nat → sp_L} {N : Nat → Int32} {M M' : az_M} (h : ClsAt Z B 30 inF ls N M) (f : sp_gc M M') : ClsAt Z B 30 inF ls N M' :=
  h.to (f.1 3 (by decide) (by decide) (by decide)) (fun k hk => f.1 k (by omega) (by omega) (by omega)) (by rw [f.2.2]) ((f.1 31 (by decide) (by decide) (by decide)).trans h.row) h.rg h.hB h.ho
theorem n_cnt0 {c : Nat} (h : c ≤ 12) : (nI c ≤ 0) = (c = 0) := by
  rw [show ((0 : Int32)) = nI 0 from rfl, n_le (by omega) (by omega)]
  exact propext ⟨fun h => by omega, fun h => by omega⟩
theorem c_inner {Z : az_S × Nat} {B : Nat} {inF : Int32} {ls : Nat → sp_L} {Np T : Nat → Int32} {W w n : Nat} (rg : sp_rg B Np) (hw : w ≤ 999) (hW : W ≤ 999) (hn : n ≤ 12) (K : Int32 → Int32 → az_M → Option az_M) :
    ∀ (e p : Nat), p + e = n → ∀ (F : Nat), e < F → ∀ (M : az_M), ClsAt Z B 30 inF ls (up Np 0 (nI w)) M → M.1 2 23 = nI n → M.1 33 = T → M.1 28 2 = nI (wcnt (sp_won (sp_law inF ls) Np T w) p) → M.1 28 3 = wfst (sp_won (sp_law inF ls) Np T w) p →
    ∃ M', f_X2_play_66 Z sp_G K F (nI W) (nI w) (nI p) M = K (nI W) (nI (w + 1)) (az_i M' 33 w (wv (sp_won (sp_law inF ls) Np T w) n)) ∧ sp_gc M M' ∧ (w = W → M'.1 28 2 = nI (wcnt (sp_won (sp_law inF ls) Np T w) n) ∧ M'.1 28 3 = wfst (sp_won (sp_law inF ls) Np T w) n) := by
  have e136 : ∀ (M : az_M) (p : Nat), p ≤ n → M.1 28 2 = nI (wcnt (sp_won (sp_law inF ls) Np T w) p) → (wcnt (sp_won (sp_law inF ls) Np T w) p = 0 ↔ wcnt (sp_won (sp_law inF ls) Np T w) n = 0) → f_X2_play_136 Z sp_G K (nI W) (nI w) M = K (nI W) (nI (w + 1)) (az_i M 33 w (wv (sp_won (sp_law inF ls) Np T w) n)) := by
    intro M p hp h1 h2
    have hle := wcnt_le (sp_won (sp_law inF ls) Np T w) p
    unfold f_X2_play_136 f_X2_play_153 wv
    rw [h1]
    simp (disch := omega) only [n_addl, n_addr, n_add, n_mull, n_mulr, n_mul, n_sub, n_subr, n_subl, n_cl, n_lt, n_le, n_eq, n_ltl, n_ltr, n_lel, n_ler, n_eqr, n_eql, n_nm1, n_m1n, n_m1lt, n_ltm1, l_ltr, l_ltl, l_ler, l_lel, l_m1lt, l_nneg, if_true, if_false, or_false, false_or, or_true, true_or, and_true, true_and, and_false, false_and, not_true_eq_false, not_false_eq_true, Option.bind_some, Option.bind_none, reduceIte, ltT, ltF, leT, leF, eqT, eqF, nI_lt0]
    by_cases h0 : wcnt (sp_won (sp_law inF ls) Np T w) p = 0
    · rw [if_pos (by omega), if_pos (h2.mp h0)]
    · rw [if_neg (by omega), if_neg (fun h => h0 (h2.mpr h))]
  intro e
  induction e with
  | zero =>
    intro p hp F hF M C m23 m33 c2 c3
    obtain ⟨F, rfl⟩ : ∃ F1, F = F1 + 1 := ⟨F - 1, by omega⟩
    obtain rfl : p = n := by omega
    refine ⟨M, ?_, sp_gc.refl M, fun _ => ⟨c2, c3⟩⟩
    rw [f_X2_play_66, m23, if_pos (by rw [n_le (by omega) (by omega)]; omega)]
    exact e136 M p (by omega) c2 Iff.rfl
  | succ e ih =>
    intro p hp F hF M C m23 m33 c2 c3
    obtain ⟨F, rfl⟩ : ∃ F1, F = F1 + 1 := ⟨F - 1, by omega⟩
    have hle := wcnt_le (sp_won (sp_law inF ls) Np T w) p
    have go : ∃ M', f_X2_play_92 Z sp_G K (f_X2_play_66 Z sp_G K F) (nI W) (nI w) (nI p) M = K (nI W) (nI (w + 1)) (az_i M' 33 w (wv (sp_won (sp_law inF ls) Np T w) n)) ∧ sp_gc M M' ∧ (w = W → M'.1 28 2 = nI (wcnt (sp_won (sp_law inF ls) Np T w) n) ∧ M'.1 28 3 = wfst (sp_won (sp_law inF ls) Np T w) n) := by
      obtain ⟨M1, f1, g1⟩ := p_wins rg hw C (show p < 12 by omega)
      rw [m33] at f1
      have C1 := C.cf g1
      have a23 : M1.1 2 23 = nI n := by rw [g1.1 2 (by decide) (by decide)]; exact m23
      have a33 : M1.1 33 = T := by rw [g1.1 33 (by decide) (by decide)]; exact m33
      have a2 : M1.1 28 2 = nI (wcnt (sp_won (sp_law inF ls) Np T w) p) := by rw [g1.1 28 (by decide) (by decide)]; exact c2
      have a3 : M1.1 28 3 = wfst (sp_won (sp_law inF ls) Np T w) p := by rw [g1.1 28 (by decide) (by decide)]; exact c3
      unfold f_X2_play_92 f_X2_play_127 f_X2_play_130
      rw [f1, Option.bind_some]
      by_cases hv : sp_won (sp_law inF ls) Np T w p = 0
      · rw [if_pos hv, n_addr]
        obtain ⟨M', b1, b2, b3⟩ := ih (p + 1) (by omega) F (by omega) M1 C1 a23 a33 (by rw [a2]; show _ = nI (wcnt _ p + (if _ = 0 then 0 else 1)); rw [if_pos hv]; rfl) (by rw [a3]; show _ = (if _ = 0 then _ else _); rw [if_pos hv])
        exact ⟨M', b1, g1.gc.trans b2, b3⟩
      · rw [if_neg hv, a2, n_addr, n_addr]
        have r3 : (az_i M1 28 2 (nI (wcnt (sp_won (sp_law inF ls) Np T w) p + 1))).1 28 3 = wfst (sp_won (sp_law inF ls) Np T w) p := by
          rw [gi, if_pos rfl, if_neg (by decide)]; exact a3
        rw [r3]
        have step : ∀ v, v = wfst (sp_won (sp_law inF ls) Np T w) (p + 1) → ∃ M', f_X2_play_66 Z sp_G K F (nI W) (nI w) (nI (p + 1)) (az_i (az_i M1 28 2 (nI (wcnt (sp_won (sp_law inF ls) Np T w) p + 1))) 28 3 v) = K (nI W) (nI (w + 1)) (az_i M' 33 w (wv (sp_won (sp_law inF ls) Np T w) n)) ∧ sp_gc M M' ∧ (w = W → M'.1 28 2 = nI (wcnt (sp_won (sp_law inF ls) Np T w) n) ∧ M'.1 28 3 = wfst (sp_won (sp_law inF ls) Np T w) n) := by
          intro v hv'
          have g2 := (sp_gc_28 M1 (Or.inl rfl) (nI (wcnt (sp_won (sp_law inF ls) Np T w) p + 1))).trans (sp_gc_28 _ (Or.inr rfl) v)
          obtain ⟨M', b1, b2, b3⟩ := ih (p + 1) (by omega) F (by omega) _ (C1.gc g2) (by rw [g2.1 2 (by decide) (by decide) (by decide)]; exact a23) (by rw [g2.1 33 (by decide) (by decide) (by decide)]; exact a33) (by rw [gi, if_pos rfl, if_neg (by decide), gi, if_pos rfl, if_pos rfl]; show _ = nI (wcnt _ p + (if _ = 0 then 0 else 1)); rw [if_neg hv]) (by rw [gi, if_pos rfl, if_pos rfl]; exact hv')
          exact ⟨M', b1, g1.gc.trans (g2.trans b2), b3⟩
        by_cases hm : wfst (sp_won (sp_law inF ls) Np T w) p = -1
        · rw [if_pos hm]; exact step _ (by show _ = (if _ = 0 then _ else _); rw [if_neg hv, if_pos hm])
        · rw [if_neg hm]; exact step _ (by show _ = (if _ = 0 then _ else _); rw [if_neg hv, if_neg hm])
    rw [f_X2_play_66, m23, if_neg (by rw [n_le (by omega) (by omega)]; omega), c2]
    by_cases h0 : wcnt (sp_won (sp_law inF ls) Np T w) p = 0
    · rw [if_pos (by rw [h0]; rfl)]; exact go
    · rw [if_neg (by intro hE; exact h0 ((n_eq (a := wcnt (sp_won (sp_law inF ls) Np T w) p) (b := 0) (by omega) (by omega)).mp hE))]
      by_cases hWw : w = W
      · rw [if_pos (by rw [hWw])]; exact go
      · rw [if_neg (by rw [n_eq (by omega) (by omega)]; exact hWw)]
        refine ⟨M, e136 M p (by omega) c2 ⟨fun h => absurd h h0, fun h => ?_⟩, sp_gc.refl M, fun h => absurd h hWw⟩
        have := wcnt_mono (sp_won (sp_law inF ls) Np T w) (show p ≤ n by omega)
        omega
theorem r_inner {Z : az_S × Nat} {B : Nat} {inF : Int32} {ls : Nat → sp_L} {Np T : Nat → Int32} {W w n : Nat} {x1 : Int32} (hw : w ≤ 999) (hn : n ≤ 12) (K : Int32 → Int32 → Int32 → az_M → Option (Int32 × az_M)) :
    ∀ (e p : Nat), p + e = n → ∀ (F : Nat), e < F → ∀ (M : az_M), RefAt Z B inF ls Np M → M.1 42 0 = nI n → M.1 68 = T →
    ∃ M', f_X12_game_49 sp_G K F x1 (nI W) (nI w) (wv (sp_won (sp_law inF ls) Np T w) p) (nI p) M = K x1 (nI W) (nI (w + 1)) (az_i M' 68 w (wv (sp_won (sp_law inF ls) Np T w) n)) ∧ sp_fr M M' := by
  have e80 : ∀ (M : az_M) (v : Int32), v = 0 ∨ v = 1 → f_X12_game_80 sp_G K x1 (nI W) (nI w) v M = K x1 (nI W) (nI (w + 1)) (az_i M 68 w v) := by
    intro M v hv
    unfold f_X12_game_80
    rw [if_pos hv]
    simp (disch := omega) only [n_addl, n_addr, n_add, n_mull, n_mulr, n_mul, n_sub, n_subr, n_subl, n_cl, n_lt, n_le, n_eq, n_ltl, n_ltr, n_lel, n_ler, n_eqr, n_eql, n_nm1, n_m1n, n_m1lt, n_ltm1, l_ltr, l_ltl, l_ler, l_lel, l_m1lt, l_nneg, if_true, if_false, or_false, false_or, or_true, true_or, and_true, true_and, and_false, false_and, not_true_eq_false, not_false_eq_true, Option.bind_some, Option.bind_none, reduceIte, ltT, ltF, leT, leF, eqT, eqF, nI_lt0]
  have v01 : ∀ p, wv (sp_won (sp_law inF ls) Np T w) p = 0 ∨ wv (sp_won (sp_law inF ls) Np T w) p = 1 := fun p => by unfold wv; split <;> simp
  intro e
  induction e with
  | zero =>
    intro p hp F hF M H m0 m68
    obtain ⟨F, rfl⟩ : ∃ F1, F = F1 + 1 := ⟨F - 1, by omega⟩
    obtain rfl : p = n := by omega
    refine ⟨M, ?_, sp_fr.refl M⟩
    rw [f_X12_game_49, m0, if_pos (by rw [n_le (by omega) (by omega)]; omega), e80 M _ (v01 p)]
  | succ e ih =>
    intro p hp F hF M H m0 m68
    obtain ⟨F, rfl⟩ : ∃ F1, F = F1 + 1 := ⟨F - 1, by omega⟩
    rw [f_X12_game_49, m0, if_neg (by rw [n_le (by omega) (by omega)]; omega)]
    by_cases h0 : wcnt (sp_won (sp_law inF ls) Np T w) p = 0
    · rw [if_pos (by unfold wv; rw [if_pos h0])]
      obtain ⟨M1, f1, g1⟩ := r_won hw H (show p < 12 by omega)
      rw [m68] at f1
      rw [f1, Option.bind_some, n_addr]
      obtain ⟨M', b1, b2⟩ := ih (p + 1) (by omega) F (by omega) M1 (H.fr g1) (by rw [g1.1 42 (by decide)]; exact m0) (by rw [g1.1 68 (by decide)]; exact m68)
      refine ⟨M', ?_, g1.trans b2⟩
      rw [← b1]
      have : wv (sp_won (sp_law inF ls) Np T w) (p + 1) = sp_won (sp_law inF ls) Np T w p := by
        unfold wv
        show (if wcnt _ p + (if sp_won (sp_law inF ls) Np T w p = 0 then 0 else 1) = 0 then 0 else 1) = _
        rw [h0]
        rcases sp_won01 (sp_law inF ls) Np T w p with e | e
        · rw [e]; rfl
        · rw [e]; rfl
      rw [this]
    · rw [if_neg (by unfold wv; rw [if_neg h0]; decide), e80 M _ (v01 p)]
      refine ⟨M, ?_, sp_fr.refl M⟩
      have : wv (sp_won (sp_law inF ls) Np T w) p = wv (sp_won (sp_law inF ls) Np T w) n := by
        unfold wv
        have := wcnt_mono (sp_won (sp_law inF ls) Np T w) (show p ≤ n by omega)
        rw [if_neg h0, if_neg (by omega)]
      rw [this]
/-- from the last place down -/
def dcnt (f : Nat → Int32) (n p : Nat) : Nat := wcnt f n - wcnt f p
def dfst (f : Nat → Int32) : Nat → Nat → Int32
  | 0, _ => -1
  | k + 1, p => if f p = 0 then dfst f k (p + 1) else nI p
theorem dfst_eq (f : Nat → Int32) : ∀ (k p : Nat), p + k < 2000 → (wfst f p = -1 → wfst f (p + k) = dfst f k p) ∧ (wfst f p ≠ -1 → wfst f (p + k) = wfst f p) := by
  intro k
  induction k with
  | zero => intro p _; exact ⟨fun h => h, fun _ => rfl⟩
  | succ k ih =>
    intro p hp
    obtain ⟨h1, h2⟩ := ih (p + 1) (by omega)
    rw [show p + (k + 1) = p + 1 + k by omega]
    constructor
    · intro h
      show _ = (if f p = 0 then dfst f k (p + 1) else nI p)
      by_cases hf : f p = 0
      · rw [if_pos hf]; exact h1 (by show (if f p = 0 then wfst f p else _) = -1; rw [if_pos hf]; exact h)
      · rw [if_neg hf]
        have e : wfst f (p + 1) = nI p := by show (if f p = 0 then wfst f p else _) = nI p; rw [if_neg hf, if_pos h]
        rw [h2 (by rw [e, Ne, n_nm1 (by omega)]; exact not_false), e]
    · intro h
      have e : wfst f (p + 1) = wfst f p := by
        show (if f p = 0 then wfst f p else (if wfst f p = -1 then nI p else wfst f p)) = _
        split
        · rfl
        · first | rfl | rw [if_neg h]
      rw [h2 (by rw [e]; exact h), e]
theorem r_down {Z : az_S × Nat} {B : Nat} {inF : Int32} {ls : Nat → sp_L} {Np T : Nat → Int32} {W n p0 : Nat} (hW : W ≤ 999) (hn : n ≤ 12) :
    ∀ (p : Nat), p ≤ n → ∀ (F : Nat), p < F → ∀ (M : az_M), RefAt Z B inF ls Np M → M.1 68 = T →
    ∃ M', f_X12_game_109 sp_G F (nI p0) (nI W) (nI (dcnt (sp_won (sp_law inF ls) Np T W) n p)) (dfst (sp_won (sp_law inF ls) Np T W) (n - p) p) (nI p - 1) M = f_X12_game_109 sp_G 1 (nI p0) (nI W) (nI (wcnt (sp_won (sp_law inF ls) Np T W) n)) (wfst (sp_won (sp_law inF ls) Np T W) n) (-1) M' ∧ sp_fr M M' := by
  intro p
  induction p with
  | zero =>
    intro _ F hF M H m68
    obtain ⟨F, rfl⟩ : ∃ F1, F = F1 + 1 := ⟨F - 1, by omega⟩
    refine ⟨M, ?_, sp_fr.refl M⟩
    have e1 : dcnt (sp_won (sp_law inF ls) Np T W) n 0 = wcnt (sp_won (sp_law inF ls) Np T W) n := rfl
    have e2 : dfst (sp_won (sp_law inF ls) Np T W) (n - 0) 0 = wfst (sp_won (sp_law inF ls) Np T W) n := by
      have := (dfst_eq (sp_won (sp_law inF ls) Np T W) n 0 (by omega)).1 rfl
      rw [Nat.zero_add] at this
      exact this.symm
    rw [e1, e2, f_X12_game_109, f_X12_game_109]
    rfl
  | succ p ih =>
    intro hp F hF M H m68
    obtain ⟨F, rfl⟩ : ∃ F1, F = F1 + 1 := ⟨F - 1, by omega⟩
    obtain ⟨M1, f1, g1⟩ := r_won hW H (show p < 12 by omega)
    rw [m68] at f1
    obtain ⟨M', b1, b2⟩ := ih (by omega) F (by omega) M1 (H.fr g1) (by rw [g1.1 68 (by decide)]; exact m68)
    refine ⟨M', ?_, g1.trans b2⟩
    rw [← b1, nI_pred1, f_X12_game_109, if_neg (by rw [nI_lt0 (by omega)]; exact not_false), f1, Option.bind_some]
    unfold f_X12_game_131
    have hd : dfst (sp_won (sp_law inF ls) Np T W) (n - p) p = (if sp_won (sp_law inF ls) Np T W p = 0 then dfst (sp_won (sp_law inF ls) Np T W) (n - (p + 1)) (p + 1) else nI p) := by
      rw [show n - p = n - (p + 1) + 1 by omega]; rfl
    have hm := wcnt_mono (sp_won (sp_law inF ls) Np T W) (show p + 1 ≤ n by omega)
    have hs : wcnt (sp_won (sp_law inF ls) Np T W) (p + 1) = wcnt (sp_won (sp_law inF ls) Np T W) p + (if sp_won (sp_law inF ls) Np T W p = 0 then 0 else 1) := rfl
    rw [hd, ← Int32.sub_eq_add_neg]
    unfold dcnt
    by_cases hv : sp_won (sp_law inF ls) Np T W p = 0
    · rw [if_pos hv, if_pos hv]
      rw [if_pos hv] at hs
      rw [show wcnt (sp_won (sp_law inF ls) Np T W) (p + 1) = wcnt (sp_won (sp_law inF ls) Np T W) p from hs]
    · rw [if_neg hv, if_neg hv, n_addr]
      rw [if_neg hv] at hs
      rw [show wcnt (sp_won (sp_law inF ls) Np T W) n - wcnt (sp_won (sp_law inF ls) Np T W) (p + 1) + 1 = wcnt (sp_won (sp_law inF ls) Np T W) n - wcnt (sp_won (sp_law inF ls) Np T W) p by omega]

theorem ClsAt.w31 {Z : az_S × Nat} {B : Nat} {inF : Int32} {ls : Nat → sp_L} {N N' : Nat → Int32} {M M' : az_M} (h : ClsAt Z B 30 inF ls N M) (f : ∀ k, k ≠ 14 → k ≠ 20 → k ≠ 28 → k ≠ 31 → k ≠ 33 → M'.1 k = M.1 k) (f2 : M'.2 = M.2) (hr : M'.1 31 = N') (hg : sp_rg B N') : ClsAt Z B 30 inF ls N' M' :=
  h.to (f 3 (by decide) (by decide) (by decide) (by decide) (by decide)) (fun k hk => f k (by omega) (by omega) (by omega) (by omega) (by omega)) (by rw [f2]) hr hg h.hB h.ho
theorem game_loop {Z : az_S × Nat} {B : Nat} {inF : Int32} {ls : Nat → sp_L} {Np : Nat → Int32} {W n lst : Nat} {x1 : Int32} (rg : sp_rg B Np) (hW : W ≤ 999) (hn : n ≤ 12) (hl : Np 18 = nI lst) (hl2 : lst ≤ 99) :
    ∀ (e w : Nat), w + e = W + 1 → lst ≤ w → ∀ (F F' : Nat), e < F → e < F' → ∀ (M Mr : az_M) (v : Int32), ClsAt Z B 30 inF ls (up Np 0 v) M → RefAt Z B inF ls Np Mr → M.1 2 23 = nI n → Mr.1 42 0 = nI n → (∀ j, lst ≤ j → j < w → M.1 33 j = Mr.1 68 j) →
    ∃ M' Mr' F2, f_X2_play_32 Z sp_G F (nI W) (nI w) M = some M' ∧ f_X12_game_38 sp_G F' x1 (nI W) (nI w) Mr = f_X12_game_38 sp_G (F2 + 1) x1 (nI W) (nI (W + 1)) Mr' ∧ RefAt Z B inF ls Np Mr' ∧ (∀ k, k ≠ 14 → k ≠ 20 → k ≠ 28 → k ≠ 31 → k ≠ 33 → M'.1 k = M.1 k) ∧ (∀ j, j ≠ 2 → j ≠ 3 → M'.1 28 j = M.1 28 j) ∧ M'.2 = M.2 ∧ (∀ k, k ≠ 40 → k ≠ 68 → Mr'.1 k = Mr.1 k) ∧ (∀ j, j ≠ 34 → j ≠ 38 → Mr'.1 40 j = Mr.1 40 j) ∧ (∀ k, k ≠ 40 → k ≠ 58 → k ≠ 60 → Mr'.2.1 k = Mr.2.1 k) ∧ Mr'.2.2 = Mr.2.2 ∧ (w ≤ W → M'.1 28 2 = nI (wcnt (sp_won (sp_law inF ls) Np (Mr'.1 68) W) n) ∧ M'.1 28 3 = wfst (sp_won (sp_law inF ls) Np (Mr'.1 68) W) n) ∧ (∀ j, j < w → Mr'.1 68 j = Mr.1 68 j) := by
  intro e
  induction e with
  | zero =>
    intro w hw hlw F F' hF hF' M Mr v C R m23 m0 hT
    obtain ⟨F, rfl⟩ : ∃ F1, F = F1 + 1 := ⟨F - 1, by omega⟩
    obtain ⟨F', rfl⟩ : ∃ F1, F' = F1 + 1 := ⟨F' - 1, by omega⟩
    obtain rfl : w = W + 1 := by omega
    refine ⟨M, Mr, F', ?_, rfl, R, fun _ _ _ _ _ _ => rfl, fun _ _ _ => rfl, rfl, fun _ _ _ => rfl, fun _ _ _ => rfl, fun _ _ _ _ => rfl, rfl, fun h => absurd h (by omega), fun _ _ => rfl⟩
    rw [f_X2_play_32, if_pos (by rw [n_lt (by omega) (by omega)]; omega)]; rfl
  | succ e ih =>
    intro w hw hlw F F' hF hF' M Mr v C R m23 m0 hT
    obtain ⟨F, rfl⟩ : ∃ F1, F = F1 + 1 := ⟨F - 1, by omega⟩
    obtain ⟨F', rfl⟩ : ∃ F1, F' = F1 + 1 := ⟨F' - 1, by omega⟩
    generalize hM1 : az_i (az_i (az_i M 31 0 (nI w)) 28 2 0) 28 3 (-1) = M1
    have K1 : ∀ k, k ≠ 31 → k ≠ 28 → M1.1 k = M.1 k := fun k a b => by rw [← hM1, gi_k b, gi_k b, gi_k a]
    have r31 : M1.1 31 = up Np 0 (nI w) := by
      rw [← hM1, gi_k (by decide), gi_k (by decide), az_i_ro, ro_eq, show M.1 31 = up Np 0 v from C.row]
      funext j
      by_cases h0 : j = 0
      · subst h0; rw [up_eq, up_eq]
      · rw [up_ne h0, up_ne h0, up_ne h0]
    have C1 := C.w31 (M' := M1) (fun k _ _ h28 h31 _ => K1 k h31 h28) (by rw [← hM1]; rfl) r31 (up_rg0 rg (by omega))
    obtain ⟨M2, f2, g2, z2⟩ := c_inner rg (show w ≤ 999 by omega) hW hn (f_X2_play_32 Z sp_G F) n 0 (by omega) sp_G (Nat.lt_of_le_of_lt hn (by decide)) M1 C1 (by rw [K1 2 (by decide) (by decide)]; exact m23) rfl (by rw [← hM1, gi, if_pos rfl, if_neg (by decide), gi, if_pos rfl, if_pos rfl]; rfl) (by rw [← hM1, gi, if_pos rfl, if_pos rfl]; rfl)
    obtain ⟨M3, f3, g3⟩ := r_inner (T := Mr.1 68) (x1 := x1) (W := W) (show w ≤ 999 by omega) hn (f_X12_game_38 sp_G F') n 0 (by omega) sp_G (Nat.lt_of_le_of_lt hn (by decide)) Mr R m0 rfl
    have t33 : M1.1 33 = M.1 33 := K1 33 (by decide) (by decide)
    have hc := wcnt_cong (f := sp_won (sp_law inF ls) Np (M1.1 33) w) (g := sp_won (sp_law inF ls) Np (Mr.1 68) w) (n := n) (fun p hp => won_cong rg (by omega) (by omega) hl hl2 (by rw [t33]; exact hT))
    have hwv : wv (sp_won (sp_law inF ls) Np (M1.1 33) w) n = wv (sp_won (sp_law inF ls) Np (Mr.1 68) w) n := by unfold wv; rw [hc.1]
    rw [hwv] at f2
    have k2 : ∀ k, k ≠ 14 → k ≠ 20 → k ≠ 28 → k ≠ 31 → k ≠ 33 → (az_i M2 33 w (wv (sp_won (sp_law inF ls) Np (Mr.1 68) w) n)).1 k = M.1 k := fun k a b c d e => by
      rw [gi_k e, g2.1 k a b c, K1 k d c]
    have s2 : (az_i M2 33 w (wv (sp_won (sp_law inF ls) Np (Mr.1 68) w) n)).2 = M.2 := by
      show M2.2 = M.2; rw [g2.2.2, ← hM1]; rfl
    have r3 : ∀ k, k ≠ 40 → k ≠ 68 → (az_i M3 68 w (wv (sp_won (sp_law inF ls) Np (Mr.1 68) w) n)).1 k = Mr.1 k := fun k a b => by rw [gi_k b, g3.1 k a]
    have R3 : RefAt Z B inF ls Np (az_i M3 68 w (wv (sp_won (sp_law inF ls) Np (Mr.1 68) w) n)) := by
      have R' := R.fr g3
      exact ⟨by rw [gi_k (by decide)]; exact R'.bk, by rw [gi_k (by decide)]; exact R'.h20, by rw [gi_k (by decide)]; exact R'.pr, R'.rg, R'.hB⟩
    obtain ⟨M', Mr', F2, a1, a2, a3, a4, a5, a6, a7, a8, a9, a10, a11, a12⟩ := ih (w + 1) (by omega) (by omega) F F' (by omega) (by omega) (az_i M2 33 w (wv (sp_won (sp_law inF ls) Np (Mr.1 68) w) n)) (az_i M3 68 w (wv (sp_won (sp_law inF ls) Np (Mr.1 68) w) n)) (nI w)
      (C.w31 k2 s2 (by rw [gi_k (by decide), g2.1 31 (by decide) (by decide) (by decide)]; exact r31) (up_rg0 rg (by omega))) R3 (by rw [k2 2 (by decide) (by decide) (by decide) (by decide) (by decide)]; exact m23) (by rw [r3 42 (by decide) (by decide)]; exact m0) (fun j h1 h2 => by
        rw [gi, gi, if_pos rfl, if_pos rfl]
        by_cases hj : j = w
        · rw [if_pos hj, if_pos hj]
        · rw [if_neg hj, if_neg hj, g2.1 33 (by decide) (by decide) (by decide), t33, g3.1 68 (by decide)]; exact hT j h1 (by omega))
    refine ⟨M', Mr', F2, ?_, ?_, a3, fun k a b c d e => by rw [a4 k a b c d e, k2 k a b c d e], fun j h2 h3 => ?_, a6.trans s2, fun k a b => by rw [a7 k a b, r3 k a b], fun j a b => by rw [a8 j a b, gi_k (by decide), g3.2.1 j a b], fun k a b c => by rw [a9 k a b c]; exact g3.2.2.1 k a b c, by rw [a10]; exact g3.2.2.2.2, fun hle => ?_, fun j hj => ?_⟩
    · rw [f_X2_play_32, if_neg (by rw [n_lt (by omega) (by omega)]; omega), if_neg (show ¬ (999 : Int32) < nI w from fun hE => absurd ((n_lt (a := 999) (b := w) (by omega) (by omega)).mp hE) (by omega)), hM1]
      exact f2.trans a1
    · rw [f_X12_game_38, if_neg (by rw [n_lt (by omega) (by omega)]; omega)]
      exact f3.trans a2
    · rw [a5 j h2 h3, gi_k (by decide), g2.2.1 j h2 h3, ← hM1, gi, if_pos rfl, if_neg h3, gi, if_pos rfl, if_neg h2, gi_k (by decide)]
    · by_cases hww : w = W
      · obtain ⟨y1, y2⟩ := z2 hww
        -- nothing more was done behind the last weight
        obtain rfl : e = 0 := by omega
        obtain ⟨F, rfl⟩ : ∃ F1, F = F1 + 1 := ⟨F - 1, by omega⟩
        rw [f_X2_play_32, if_pos (by rw [n_lt (by omega) (by omega)]; omega)] at a1
        have eM : az_i M2 33 w (wv (sp_won (sp_law inF ls) Np (Mr.1 68) w) n) = M' := Option.some.inj a1
        obtain ⟨F', rfl⟩ : ∃ F1, F' = F1 + 1 := ⟨F' - 1, by omega⟩
        have T' := wcnt_cong (f := sp_won (sp_law inF ls) Np (M1.1 33) w) (g := sp_won (sp_law inF ls) Np (Mr'.1 68) W) (n := n) (fun p hp => by
          rw [hww]; refine won_cong rg hW (by omega) hl hl2 (fun j h1 h2 => ?_)
          rw [a12 j (by omega), gi, if_pos rfl, if_neg (by omega), g3.1 68 (by decide), t33]; exact hT j h1 (by omega))
        rw [← eM, gi_k (by decide), y1, y2, T'.1, T'.2]
        exact ⟨rfl, rfl⟩
      · exact a11 (by omega)
    · rw [a12 j (by omega), gi, if_pos rfl, if_neg (by omega), g3.1 68 (by decide)]
