/-! shots on paper, lead and log aside -/
def sp_pj (j : Nat) : Prop := j < 145 ∧ j ≠ 21 ∧ j ≠ 22 ∧ j ≠ 26 ∧ j < 121
def sp_sim (N N' : Nat → Int32) : Prop := ∀ j, sp_pj j → N j = N' j
theorem sp_sim.at {N N' : Nat → Int32} (h : sp_sim N N') {j : Nat} (h1 : j ≠ 21 ∧ j ≠ 22 ∧ j ≠ 26 ∧ j < 121) : N j = N' j := h j ⟨by omega, by omega, by omega, by omega, by omega⟩
theorem sp_sim.refl (N : Nat → Int32) : sp_sim N N := fun _ _ => rfl
theorem env_sim {N N' : Nat → Int32} (h : sp_sim N N') {q : Nat} (hq : q < 12) {p : Int32} (hp : p = -1 ∨ ∃ k, k < 10 ∧ p = nI k) : sp_env N p (nI q) = sp_env N' p (nI q) := by
  have hc : (nI q).toNatClampNeg = q := n_cl (by omega)
  funext j
  by_cases h11 : j < 10
  · rcases (show j = 0 ∨ j = 1 ∨ j = 2 ∨ j = 3 ∨ j = 4 ∨ j = 5 ∨ j = 6 ∨ j = 7 ∨ j = 8 ∨ j = 9 by omega) with rfl | rfl | rfl | rfl | rfl | rfl | rfl | rfl | rfl | rfl
    · rfl
    · show (if p = -1 then -1 else N (63 + p.toNatClampNeg)) = (if p = -1 then -1 else N' (63 + p.toNatClampNeg))
      rcases hp with rfl | ⟨k, hk, rfl⟩
      · rfl
      · rw [n_cl (by omega), h.at (j := 63 + k) (by omega)]
    · rfl
    · show N (27 + (nI q).toNatClampNeg) = N' (27 + (nI q).toNatClampNeg)
      rw [hc]; exact h.at (by omega)
    · show N (39 + (nI q).toNatClampNeg) = N' (39 + (nI q).toNatClampNeg)
      rw [hc]; exact h.at (by omega)
    · show N (4 + (nI q).toNatClampNeg) = N' (4 + (nI q).toNatClampNeg)
      rw [hc]; exact h.at (by omega)
    · exact h.at (j := 0) (by omega)
    · exact h.at (j := 1) (by omega)
    · exact h.at (j := 2) (by omega)
    · exact h.at (j := 16) (by omega)
  · obtain ⟨i, rfl⟩ : ∃ i, j = i + 10 := ⟨j - 10, by omega⟩
    exact h.at (j := 20) (by omega)
theorem ask_sim {N N' : Nat → Int32} (h : sp_sim N N') (l : Option sp_L) {g q : Nat} (hg : g < 5) (hq : q < 12) {p : Int32} (hp : p = -1 ∨ ∃ k, k < 10 ∧ p = nI k) (hp0 : g = 0 → ∃ k, k < 10 ∧ p = nI k) : sp_ask l N g p (nI q) = sp_ask l N' g p (nI q) := by
  rw [sp_ask_end, sp_ask_end, env_sim h hq hp]
  cases l.bind (fun l => sp_tell l (nI g) (sp_env N' p (nI q))) with
  | some v => rfl
  | none =>
    show sp_without N g p (nI q) = sp_without N' g p (nI q)
    have hc : (nI q).toNatClampNeg = q := n_cl (by omega)
    unfold sp_without
    rw [hc]
    rcases (show g = 0 ∨ g = 1 ∨ g = 2 ∨ g = 3 ∨ g = 4 by omega) with rfl | rfl | rfl | rfl | rfl
    · obtain ⟨k, hk, rfl⟩ := hp0 rfl
      show N (63 + (nI k).toNatClampNeg) = N' (63 + (nI k).toNatClampNeg)
      rw [n_cl (by omega)]; exact h.at (by omega)
    · show N (39 + q) / 10 = N' (39 + q) / 10; rw [h.at (j := 39 + q) (by omega)]
    · show N (39 + q) / 20 = N' (39 + q) / 20; rw [h.at (j := 39 + q) (by omega)]
    · show N (4 + q) * 10 = N' (4 + q) * 10; rw [h.at (j := 4 + q) (by omega)]
    · rfl
theorem can_sim {N N' : Nat → Int32} (h : sp_sim N N') : sp_can N = sp_can N' := by
  unfold sp_can; rw [h.at (j := 3) (by omega), h.at (j := 0) (by omega), h.at (j := 18) (by omega)]
theorem up_sim {N N' : Nat → Int32} (h : sp_sim N N') (a : Nat) (v : Int32) : sp_sim (up N a v) (up N' a v) := by
  intro j hj
  by_cases e : j = a
  · subst e; rw [up_eq, up_eq]
  · rw [up_ne e, up_ne e]; exact h j hj
theorem dig_sim {N N' : Nat → Int32} (h : sp_sim N N') {q : Nat} (hq : q < 12) : sp_sim (sp_dig N q) (sp_dig N' q) := by
  unfold sp_dig
  rw [h.at (j := 27 + q) (by omega), h.at (j := 51 + q) (by omega), h.at (j := 19) (by omega)]
  split
  · exact up_sim h _ _
  · intro j hj
    unfold sp_days
    rw [h.at (j := 16) (by omega), h.at (j := 2) (by omega), h j hj]
theorem hit_sim {N N' : Nat → Int32} (h : sp_sim N N') (l : Option sp_L) {q : Nat} (hq : q < 12) : sp_sim (sp_hit l N q) (sp_hit l N' q) := by
  unfold sp_hit sp_worn
  rw [ask_sim h l (g := 1) (by decide) hq (p := -1) (Or.inl rfl) (fun h => absurd h (by decide)), ask_sim h l (g := 2) (by decide) hq (p := -1) (Or.inl rfl) (fun h => absurd h (by decide)), h.at (j := 0) (by omega), h.at (j := 1) (by omega), h.at (j := 4 + q) (by omega)]
  exact up_sim (up_sim (up_sim h _ _) _ _) _ _
theorem shot_sim {N N' : Nat → Int32} (h : sp_sim N N') (l : Option sp_L) {q c : Nat} (hq : q < 12) (hc : c ≤ 1) : sp_sim (sp_shot l N q) (sp_fire l N' c q) := by
  rw [sp_shot_eq l N hq]
  unfold sp_fire
  refine dig_sim (fun j hj => ?_) hq
  obtain ⟨h1, h2, h3, h4, h5⟩ := hj
  rw [note_at _ _ h4 h5, lead_at _ _ _ (by omega)]
  exact hit_sim h l hq j ⟨h1, h2, h3, h4, h5⟩
theorem shot_rg {B : Nat} {N : Nat → Int32} (h : sp_rg B N) (hB : B + 1 ≤ 1000000000) (l : Option sp_L) {q : Nat} (hq : q < 12) : sp_rg (B + 1) (sp_shot l N q) := by
  rw [sp_shot_eq l N hq]; exact dig_rg (hit_rg h hB l hq) hB hq
theorem ask0_in {B : Nat} {N : Nat → Int32} (rg : sp_rg B N) (l : Option sp_L) {k q : Nat} (hk : k < 10) (hq : q < 12) : ∃ a, a ≤ 10 ∧ sp_ask l N 0 (nI k) (nI q) = nI a := by
  rw [sp_ask_end]
  obtain ⟨x, hx, _, hx2⟩ := (rg.2.2.2.2.2.1 k hk).1.nat (by decide) (by decide)
  cases l.bind (fun l => sp_tell l (nI 0) (sp_env N (nI k) (nI q))) with
  | none =>
    refine ⟨x, by omega, ?_⟩
    show N (63 + (nI k).toNatClampNeg) = _
    rw [n_cl (by omega), hx]
  | some v =>
    have hc : sp_in (sp_clamp 10 v) 0 10 := clamp_in (by decide)
    obtain ⟨a, ha, _, ha2⟩ := hc.nat (by decide) (by decide)
    exact ⟨a, by omega, ha⟩
/-- class's paper and the reference's row -/
abbrev PairS (Z : az_S × Nat) (B : Nat) (inF : Int32) (ls : Nat → sp_L) (Nc N : Nat → Int32) (M Mr : az_M) : Prop := (ClsAt Z B 30 inF ls Nc M) ∧ (RefAt Z B inF ls N Mr) ∧ (sp_wl B N) ∧ (sp_sim Nc N)
theorem PairS.cls {Z : az_S × Nat} {B : Nat} {inF : Int32} {ls : Nat → sp_L} {Nc N : Nat → Int32} {M Mr : az_M} (h : PairS Z B inF ls Nc N M Mr) : ClsAt Z B 30 inF ls Nc M := h.1
theorem PairS.ref {Z : az_S × Nat} {B : Nat} {inF : Int32} {ls : Nat → sp_L} {Nc N : Nat → Int32} {M Mr : az_M} (h : PairS Z B inF ls Nc N M Mr) : RefAt Z B inF ls N Mr := h.2.1
theorem PairS.wl {Z : az_S × Nat} {B : Nat} {inF : Int32} {ls : Nat → sp_L} {Nc N : Nat → Int32} {M Mr : az_M} (h : PairS Z B inF ls Nc N M Mr) : sp_wl B N := h.2.2.1
theorem PairS.sim {Z : az_S × Nat} {B : Nat} {inF : Int32} {ls : Nat → sp_L} {Nc N : Nat → Int32} {M Mr : az_M} (h : PairS Z B inF ls Nc N M Mr) : sp_sim Nc N := h.2.2.2
def sp_pc (M M' : az_M) : Prop := (∀ k, k ≠ 14 → k ≠ 20 → k ≠ 31 → k ≠ 32 → M'.1 k = M.1 k) ∧ M'.2 = M.2
theorem sp_pc.refl (M : az_M) : sp_pc M M := ⟨fun _ _ _ _ _ => rfl, rfl⟩
theorem sp_pc.trans {M M' M'' : az_M} (h : sp_pc M M') (g : sp_pc M' M'') : sp_pc M M'' := ⟨fun k a b c d => (g.1 k a b c d).trans (h.1 k a b c d), g.2.trans h.2⟩
theorem sp_cf.pc {M M' : az_M} (h : sp_cf M M') : sp_pc M M' := ⟨fun k a b _ _ => h.1 k a b, h.2⟩
/-- reference's frame with the row of ends -/
def sp_fe (M M' : az_M) : Prop := (∀ k, k ≠ 40 → k ≠ 42 → k ≠ 61 → M'.1 k = M.1 k) ∧ (∀ j, j ≠ 34 → j ≠ 38 → M'.1 40 j = M.1 40 j) ∧ (∀ k, k ≠ 40 → k ≠ 58 → k ≠ 60 → M'.2.1 k = M.2.1 k) ∧ M'.2.2 = M.2.2 ∧ ∀ j, j = 4 ∨ j = 5 ∨ 150 ≤ j → M'.1 42 j = M.1 42 j
theorem sp_fe.refl (M : az_M) : sp_fe M M := ⟨fun _ _ _ _ => rfl, fun _ _ _ => rfl, fun _ _ _ _ => rfl, rfl, fun _ _ => rfl⟩
theorem sp_fe.trans {M M' M'' : az_M} (h : sp_fe M M') (g : sp_fe M' M'') : sp_fe M M'' :=
  ⟨fun k h1 h2 h3 => (g.1 k h1 h2 h3).trans (h.1 k h1 h2 h3), fun j h1 h2 => (g.2.1 j h1 h2).trans (h.2.1 j h1 h2), fun k h1 h2 h3 => (g.2.2.1 k h1 h2 h3).trans (h.2.2.1 k h1 h2 h3), g.2.2.2.1.trans h.2.2.2.1, fun j hj => (g.2.2.2.2 j hj).trans (h.2.2.2.2 j hj)⟩
theorem sp_fq.fe {M M' : az_M} (h : sp_fq M M') : sp_fe M M' := ⟨fun k a b _ => h.1 k a b, h.2.1, h.2.2.1, h.2.2.2.2.1, h.2.2.2.2.2⟩
theorem sp_fe_61 (M : az_M) (j : Nat) (v : Int32) : sp_fe M (az_i M 61 j v) := ⟨fun k _ _ h => gi_k h, fun i _ _ => by rw [gi_k (by decide)], fun _ _ _ _ => rfl, rfl, fun i _ => by rw [gi_k (by decide)]⟩
theorem RefAt.fe {Z : az_S × Nat} {B : Nat} {inF : Int32} {ls : Nat → sp_L} {N : Nat → Int32} {M M' : az_M} (h : RefAt Z B inF ls N M) (f : sp_fe M M') (h42 : M'.1 42 = M.1 42) : RefAt Z B inF ls N M' :=
  ⟨by rw [h42]; exact h.bk, by rw [f.2.1 20 (by decide) (by decide)]; exact h.h20, by rw [h42]; exact h.pr, h.rg, h.hB⟩
/-- the reference goes on with nothing left -/
theorem ends_tail {Z : az_S × Nat} {inF : Int32} {ls : Nat → sp_L} {q n rd a b w : Nat} (hq : q < n) (h7 : n ≤ 7) (ha : a < 10) (hb : b < 10) (hw : w < 12) (hrd : rd ≤ 4) :
    ∀ (e i : Nat), i + e = 2 * rd → ∀ (F : Nat), e < F → ∀ (B : Nat) (N : Nat → Int32) (Mr : az_M), RefAt Z B inF ls N Mr → sp_wl B N → Q5 N q n rd a b w → B + e ≤ 1000000000 →
    ∃ Mr', f_X12_findEnds_37 sp_G F (nI q) (nI w) 0 (nI i) Mr = some Mr' ∧ sp_fe Mr Mr' ∧ Mr'.1 61 0 = 0 ∧ ∀ j, j ≠ 0 → Mr'.1 61 j = Mr.1 61 j := by
  intro e
  induction e with
  | zero =>
    intro i hi F hF B N Mr R wl Q hB
    obtain ⟨F, rfl⟩ : ∃ F1, F = F1 + 1 := ⟨F - 1, by omega⟩
    refine ⟨az_i Mr 61 0 0, ?_, sp_fe_61 Mr 0 0, by rw [gi, if_pos rfl, if_pos rfl], fun j hj => by rw [gi, if_pos rfl, if_neg hj]⟩
    rw [f_X12_findEnds_37, show f_X12_term 1 Mr = some (nI rd) from (p_term (k := 1) (by decide) Mr).trans (congrArg some ((R.pr.2.1 1 (by decide)).symm.trans Q.rd)), Option.bind_some]
    simp (disch := omega) only [n_addl, n_addr, n_add, n_mull, n_mulr, n_mul, n_sub, n_subr, n_subl, n_cl, n_lt, n_le, n_eq, n_ltl, n_ltr, n_lel, n_ler, n_eqr, n_eql, n_nm1, n_m1n, n_m1lt, n_ltm1, l_ltr, l_ltl, l_ler, l_lel, l_m1lt, l_nneg, if_true, if_false, or_false, false_or, or_true, true_or, and_true, true_and, and_false, false_and, not_true_eq_false, not_false_eq_true, Option.bind_some, Option.bind_none, reduceIte, ltT, ltF, leT, leF, eqT, eqF, nI_lt0]
  | succ e ih =>
    intro i hi F hF B N Mr R wl Q hB
    obtain ⟨F, rfl⟩ : ∃ F1, F = F1 + 1 := ⟨F - 1, by omega⟩
    have hq7 : q < (N 25).toNatClampNeg := by rw [Q.n, n_cl (by omega)]; exact hq
    have pq := R.pr.2.2.2.2.2.2.1 q hq7
    obtain ⟨x, hx, o1⟩ : ∃ x, x < 10 ∧ f_X12_ofQuarrel (nI q) (az_rem (nI i) 2) Mr = some (nI x) := by
      rw [n_mod2 (by omega), p_ofQuarrel (by omega) (by omega)]
      rcases (show i % 2 = 0 ∨ i % 2 = 1 by omega) with h | h
      · exact ⟨a, ha, by rw [h, show 95 + 4 * q + 0 = 95 + 4 * q by omega, ← pq.1, Q.a]⟩
      · exact ⟨b, hb, by rw [h, show 95 + 4 * q + 1 = 96 + 4 * q by omega, ← pq.2.1, Q.b]⟩
    rw [f_X12_findEnds_37, show f_X12_term 1 Mr = some (nI rd) from (p_term (k := 1) (by decide) Mr).trans (congrArg some ((R.pr.2.1 1 (by decide)).symm.trans Q.rd)), Option.bind_some, p_canFire' R.pr, Option.bind_some, o1, Option.bind_some]
    unfold f_X12_findEnds_135
    obtain ⟨M1, f1, g1⟩ := r_aims R hw hx
    rw [f1, Option.bind_some, n_mod2 (by omega)]
    simp (disch := omega) only [n_addl, n_addr, n_add, n_mull, n_mulr, n_mul, n_sub, n_subr, n_subl, n_cl, n_lt, n_le, n_eq, n_ltl, n_ltr, n_lel, n_ler, n_eqr, n_eql, n_nm1, n_m1n, n_m1lt, n_ltm1, l_ltr, l_ltl, l_ler, l_lel, l_m1lt, l_nneg, if_true, if_false, or_false, false_or, or_true, true_or, and_true, true_and, and_false, false_and, not_true_eq_false, not_false_eq_true, Option.bind_some, Option.bind_none, reduceIte, ltT, ltF, leT, leF, eqT, eqF, nI_lt0]
    have same : ∀ (M : az_M) (j : Nat), az_i M 61 j (M.1 61 j) = M := fun M j => by rw [az_i_ro, up_self, ro_self]
    simp only [show (0 : Int32) / 10 = 0 from rfl, Int32.zero_mul, Int32.add_zero, same]
    by_cases hcan : sp_can N = 0
    · rw [if_pos hcan]
      exact ih (i + 1) (by omega) F (by omega) B N Mr R wl Q (by omega)
    · rw [if_neg hcan]
      have R1 := R.fr g1
      obtain ⟨c, hc, hc1⟩ := p_court R.rg hx
      rw [show f_X12_ofPerson (nI x) 1 M1 = some (M1.1 42 (65 + 3 * x + 1)) from p_ofPerson (w := 1) hx (by decide) M1, Option.bind_some, show M1.1 42 (65 + 3 * x + 1) = nI c by rw [show 65 + 3 * x + 1 = 66 + 3 * x by omega, ← (R1.pr.2.2.2.2.2.1 x hx).2.1]; exact hc]
      obtain ⟨M2, f2, p2, q2⟩ := r_shoot R1 hw hc1
      obtain ⟨rg, wl'⟩ := fire_rg R.rg wl (by omega) (sp_law inF ls) hw hc1
      rw [f2, Option.bind_some]
      obtain ⟨M3, a1, a2, a3, a4⟩ := ih (i + 1) (by omega) F (by omega) (B + 1) _ M2 (R1.fq q2 p2 rg (by omega)) wl' (Q.cong (by omega) (fun j hj => fire_at _ _ hc1 hw (by omega))) (by omega)
      refine ⟨M3, a1, g1.fq.fe.trans (q2.fe.trans a2), a3, fun j hj => ?_⟩
      rw [a4 j hj, q2.1 61 (by decide) (by decide), g1.1 61 (by decide)]
