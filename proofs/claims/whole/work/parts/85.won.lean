/-! who fires it to keep it from the next -/
def sp_won (l : Option sp_L) (N : Nat → Int32) (T : Nat → Int32) (w p : Nat) : Int32 := if N (27 + p) = 2 then 0 else if sp_ask l (up N 0 (nI w)) 1 (-1) (nI p) ≤ 0 then 0 else if nI w - sp_ask l (up N 0 (nI w)) 1 (-1) (nI p) < N 18 then 0 else if T (nI w - sp_ask l (up N 0 (nI w)) 1 (-1) (nI p)).toNatClampNeg = 0 then 1 else 0
theorem sp_won01 (l : Option sp_L) (N : Nat → Int32) (T : Nat → Int32) (w p : Nat) : sp_won l N T w p = 0 ∨ sp_won l N T w p = 1 := by
  unfold sp_won
  repeat' split
  all_goals simp
theorem up_rg0 {B : Nat} {N : Nat → Int32} (rg : sp_rg B N) {w : Nat} (hw : w ≤ 999) : sp_rg B (up N 0 (nI w)) := rg.upd (a := 0) (by decide) (fun _ => by
  rw [sp_in_nI (by omega)]; show (0 : Int) ≤ _ ∧ _ ≤ (999 : Int); omega)
theorem n_subI {w a : Nat} (hw : w < 1000000) (ha : a < 1000000) : (nI w - nI a).toInt = (w : Int) - a := by
  rw [Int32.toInt_sub, n_int (by omega), n_int (by omega)]
  exact Int.bmod_eq_of_le (by omega) (by omega)
theorem won_ix {w a l : Nat} (hw : w ≤ 999) (ha : a ≤ 99) (h : ¬ nI w - nI a < nI l) (hl : l ≤ 99) : ¬ (nI w - nI a < 0 ∨ 1000 ≤ (nI w - nI a).toNatClampNeg) := by
  rw [Int32.lt_iff_toInt_lt, n_subI (by omega) (by omega), n_int (by omega)] at h
  rintro (hE | hE)
  · rw [Int32.lt_iff_toInt_lt, n_subI (by omega) (by omega)] at hE
    have e0 : (0 : Int32).toInt = 0 := rfl
    omega
  · have : (nI w - nI a).toInt.toNat < 1000 := by rw [n_subI (by omega) (by omega)]; omega
    exact absurd hE (Nat.not_le.mpr this)
theorem won_cong {B : Nat} {l : Option sp_L} {N T T' : Nat → Int32} (rg : sp_rg B N) {w p ls : Nat} (hw : w ≤ 999) (hp : p < 12) (hl : N 18 = nI ls) (hl2 : ls ≤ 99) (hT : ∀ j, ls ≤ j → j < w → T j = T' j) : sp_won l N T w p = sp_won l N T' w p := by
  obtain ⟨a, ha, ea⟩ := ask_in (up_rg0 rg hw) l (h := 1) (Or.inl rfl) hp
  unfold sp_won
  rw [ea, hl]
  by_cases h1 : N (27 + p) = 2
  · rw [if_pos h1, if_pos h1]
  · rw [if_neg h1, if_neg h1]
    by_cases h2 : nI a ≤ 0
    · rw [if_pos h2, if_pos h2]
    · rw [if_neg h2, if_neg h2]
      by_cases h3 : nI w - nI a < nI ls
      · rw [if_pos h3, if_pos h3]
      · rw [if_neg h3, if_neg h3]
        have h2' : 0 < a := by
          rcases Nat.eq_zero_or_pos a with h | h
          · subst h; exact absurd (show nI 0 ≤ 0 by decide) h2
          · exact h
        have h4 : a ≤ w := by
          by_cases h : a ≤ w
          · exact h
          · exfalso; apply h3
            rw [Int32.lt_iff_toInt_lt, n_subI (by omega) (by omega), n_int (by omega)]; omega
        rw [n_sub h4, n_cl (by omega)]
        rw [n_sub h4, n_lt (by omega) (by omega)] at h3
        rw [hT (w - a) (by omega) (by omega)]
theorem p_wins {Z : az_S × Nat} {B : Nat} {inF : Int32} {ls : Nat → sp_L} {N : Nat → Int32} {M : az_M} {w p : Nat} (rg : sp_rg B N) (hw : w ≤ 999) (H : ClsAt Z B 30 inF ls (up N 0 (nI w)) M) (hp : p < 12) : ∃ M', f_X2_winsInto Z sp_G (nI p) M = some (sp_won (sp_law inF ls) N (M.1 33) w p, M') ∧ sp_cf M M' := by
  obtain ⟨a, ha, ea⟩ := ask_in (up_rg0 rg hw) (sp_law inF ls) (h := 1) (Or.inl rfl) hp
  obtain ⟨lst, hl, hl1, hl2⟩ := rg.2.1.2.2.1.nat (by decide) (by decide)
  have hr : M.1 31 = up N 0 (nI w) := H.row
  obtain ⟨M1, f1, g1⟩ := c_ask H (h := 1) (by decide) hp (p := -1) (Or.inl rfl) (fun h => absurd h (by decide))
  have r31 : M1.1 31 = up N 0 (nI w) := (g1.1 31 (by decide) (by decide)).trans hr
  have r33 : M1.1 33 = M.1 33 := g1.1 33 (by decide) (by decide)
  unfold f_X2_winsInto f_X2_winsInto_76 f_X2_winsInto_77 sp_won
  rw [hr, show f_X8_ask Z sp_G 30 1 (-1) (nI p) M = _ from f1, Option.bind_some, r31, r33, up_eq, show up N 0 (nI w) 18 = N 18 from up_ne (by decide)]
  simp (disch := omega) only [n_addl, n_addr, n_add, n_mull, n_mulr, n_mul, n_sub, n_subr, n_subl, n_cl, n_lt, n_le, n_eq, n_ltl, n_ltr, n_lel, n_ler, n_eqr, n_eql, n_nm1, n_m1n, n_m1lt, n_ltm1, l_ltr, l_ltl, l_ler, l_lel, l_m1lt, l_nneg, if_true, if_false, or_false, false_or, or_true, true_or, and_true, true_and, and_false, false_and, not_true_eq_false, not_false_eq_true, Option.bind_some, Option.bind_none, reduceIte, ltT, ltF, leT, leF, eqT, eqF, nI_lt0, up_ne]
  by_cases h1 : N (27 + p) = 2
  · rw [if_pos h1, if_pos h1]; exact ⟨M, rfl, sp_cf.refl M⟩
  · rw [if_neg h1, if_neg h1]
    by_cases h2 : sp_ask (sp_law inF ls) (up N 0 (nI w)) 1 (-1) (nI p) ≤ 0
    · rw [if_pos h2, if_pos h2]; exact ⟨M1, rfl, g1⟩
    · rw [if_neg h2, if_neg h2]
      by_cases h3 : nI w - sp_ask (sp_law inF ls) (up N 0 (nI w)) 1 (-1) (nI p) < N 18
      · rw [if_pos h3, if_pos h3]; exact ⟨M1, rfl, g1⟩
      · rw [if_neg h3, if_neg h3, if_neg (show ¬ (nI w - sp_ask (sp_law inF ls) (up N 0 (nI w)) 1 (-1) (nI p) < 0 ∨ 1000 ≤ (nI w - sp_ask (sp_law inF ls) (up N 0 (nI w)) 1 (-1) (nI p)).toNatClampNeg) by
          rw [hl, ea] at h3
          rw [ea]; exact won_ix hw ha h3 (by omega))]
        by_cases h4 : M.1 33 (nI w - sp_ask (sp_law inF ls) (up N 0 (nI w)) 1 (-1) (nI p)).toNatClampNeg = 0
        · rw [if_pos h4, if_pos h4]; exact ⟨M1, rfl, g1⟩
        · rw [if_neg h4, if_neg h4]; exact ⟨M1, rfl, g1⟩
theorem r_won {Z : az_S × Nat} {B : Nat} {inF : Int32} {ls : Nat → sp_L} {N : Nat → Int32} {M : az_M} {w p : Nat} (hw : w ≤ 999) (H : RefAt Z B inF ls N M) (hp : p < 12) : ∃ M', f_X12_isWon sp_G (nI w) (nI p) M = some (sp_won (sp_law inF ls) N (M.1 68) w p, M') ∧ sp_fr M M' := by
  obtain ⟨a, ha, ea⟩ := ask_in (up_rg0 H.rg hw) (sp_law inF ls) (h := 1) (Or.inl rfl) hp
  obtain ⟨lst, hl, hl1, hl2⟩ := H.rg.2.1.2.2.1.nat (by decide) (by decide)
  obtain ⟨M1, f1, g1⟩ := r_wears H hp (nI w)
  have r68 : M1.1 68 = M.1 68 := g1.1 68 (by decide)
  have t2 : f_X12_term 2 M1 = some (N 18) := (p_term (k := 2) (by decide) M1).trans (congrArg some ((H.fr g1).pr.2.1 2 (by decide)).symm)
  unfold f_X12_isWon f_X12_isWon_49 f_X12_isWon_50 sp_won
  rw [show f_X12_ofPlace (nI p) 0 M = some (N (27 + p)) from (p_ofPlace (w := 0) hp (by decide) M).trans (congrArg some (H.pr.2.2.2.2.1 p hp).1.symm), Option.bind_some, f1, Option.bind_some, t2, Option.bind_some, r68]
  by_cases h1 : N (27 + p) = 2
  · rw [if_pos h1, if_pos h1]; exact ⟨M, rfl, sp_fr.refl M⟩
  · rw [if_neg h1, if_neg h1]
    by_cases h2 : sp_ask (sp_law inF ls) (up N 0 (nI w)) 1 (-1) (nI p) ≤ 0
    · rw [if_pos h2, if_pos h2]; exact ⟨M1, rfl, g1⟩
    · rw [if_neg h2, if_neg h2]
      by_cases h3 : nI w - sp_ask (sp_law inF ls) (up N 0 (nI w)) 1 (-1) (nI p) < N 18
      · rw [if_pos h3, if_pos h3]; exact ⟨M1, rfl, g1⟩
      · rw [if_neg h3, if_neg h3, if_neg (show ¬ (nI w - sp_ask (sp_law inF ls) (up N 0 (nI w)) 1 (-1) (nI p) < 0 ∨ 1000 ≤ (nI w - sp_ask (sp_law inF ls) (up N 0 (nI w)) 1 (-1) (nI p)).toNatClampNeg) by
          rw [hl, ea] at h3
          rw [ea]; exact won_ix hw ha h3 (by omega))]
        by_cases h4 : M.1 68 (nI w - sp_ask (sp_law inF ls) (up N 0 (nI w)) 1 (-1) (nI p)).toNatClampNeg = 0
        · rw [if_pos h4, if_pos h4]; exact ⟨M1, rfl, g1⟩
        · rw [if_neg h4, if_neg h4]; exact ⟨M1, rfl, g1⟩
def wcnt (f : Nat → Int32) : Nat → Nat
  | 0 => 0
  | n + 1 => wcnt f n + (if f n = 0 then 0 else 1)
def wfst (f : Nat → Int32) : Nat → Int32
  | 0 => -1
  | n + 1 => if f n = 0 then wfst f n else (if wfst f n = -1 then nI n else wfst f n)
def wv (f : Nat → Int32) (n : Nat) : Int32 := if wcnt f n = 0 then 0 else 1
theorem wcnt_le (f : Nat → Int32) (n : Nat) : wcnt f n ≤ n := by
  induction n with
  | zero => exact Nat.le_refl 0
  | succ n ih => show wcnt f n + (if f n = 0 then 0 else 1) ≤ n + 1; split <;> omega
theorem wcnt_mono (f : Nat → Int32) {p n : Nat} (h : p ≤ n) : wcnt f p ≤ wcnt f n := by
  induction n with
  | zero => obtain rfl : p = 0 := by omega
            exact Nat.le_refl _
  | succ n ih =>
    by_cases e : p = n + 1
    · subst e; exact Nat.le_refl _
    · have := ih (by omega)
      show wcnt f p ≤ wcnt f n + (if f n = 0 then 0 else 1)
      omega
theorem wcnt_cong {f g : Nat → Int32} {n : Nat} (h : ∀ p, p < n → f p = g p) : wcnt f n = wcnt g n ∧ wfst f n = wfst g n := by
  induction n with
  | zero => exact ⟨rfl, rfl⟩
  | succ n ih =>
    obtain ⟨a, b⟩ := ih (fun p hp => h p (by omega))
    constructor
    · show wcnt f n + _ = wcnt g n + _; rw [a, h n (by omega)]
    · show (if f n = 0 then _ else _) = (if g n = 0 then _ else _); rw [b, h n (by omega)]
