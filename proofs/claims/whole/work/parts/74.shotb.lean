/-! a shot: both -/
def sp_fq (M M' : az_M) : Prop := (∀ k, k ≠ 40 → k ≠ 42 → M'.1 k = M.1 k) ∧ (∀ j, j ≠ 34 → j ≠ 38 → M'.1 40 j = M.1 40 j) ∧ (∀ k, k ≠ 40 → k ≠ 58 → k ≠ 60 → M'.2.1 k = M.2.1 k) ∧ (∀ j, j ≠ 39 → j ≠ 40 → M'.2.1 40 j = M.2.1 40 j) ∧ M'.2.2 = M.2.2 ∧ ∀ j, j = 4 ∨ j = 5 ∨ 150 ≤ j → M'.1 42 j = M.1 42 j
theorem sp_fq.refl (M : az_M) : sp_fq M M := ⟨fun _ _ _ => rfl, fun _ _ _ => rfl, fun _ _ _ _ => rfl, fun _ _ _ => rfl, rfl, fun _ _ => rfl⟩
theorem sp_fq.trans {M M' M'' : az_M} (h : sp_fq M M') (g : sp_fq M' M'') : sp_fq M M'' :=
  ⟨fun k h1 h2 => (g.1 k h1 h2).trans (h.1 k h1 h2), fun j h1 h2 => (g.2.1 j h1 h2).trans (h.2.1 j h1 h2), fun k h1 h2 h3 => (g.2.2.1 k h1 h2 h3).trans (h.2.2.1 k h1 h2 h3), fun j h1 h2 => (g.2.2.2.1 j h1 h2).trans (h.2.2.2.1 j h1 h2), g.2.2.2.2.1.trans h.2.2.2.2.1, fun j hj => (g.2.2.2.2.2 j hj).trans (h.2.2.2.2.2 j hj)⟩
theorem sp_fr.fq {M M' : az_M} (h : sp_fr M M') : sp_fq M M' := ⟨fun k h1 _ => h.1 k h1, h.2.1, h.2.2.1, h.2.2.2.1, h.2.2.2.2, fun j _ => by rw [h.1 42 (by decide)]⟩
theorem sp_fq.row {M M' : az_M} (h : sp_fq M M') {f : Nat → Int32} (hf : ∀ j, j = 4 ∨ j = 5 ∨ 150 ≤ j → f j = M.1 42 j) : sp_fq M (ro M' 42 f) :=
  ⟨fun k h1 h2 => (ro_ne h2).trans (h.1 k h1 h2), fun j h1 h2 => by rw [ro_ne (by decide)]; exact h.2.1 j h1 h2, h.2.2.1, h.2.2.2.1, h.2.2.2.2.1, fun j hj => by rw [ro_eq]; exact hf j hj⟩
theorem RefAt.fq {Z : az_S × Nat} {B B' : Nat} {inF : Int32} {ls : Nat → sp_L} {N N' : Nat → Int32} {M M' : az_M} (h : RefAt Z B inF ls N M) (f : sp_fq M M') (hp : sp_pr N' (M'.1 42)) (hg : sp_rg B' N') (hB : B' ≤ 1000000000) : RefAt Z B' inF ls N' M' := by
  obtain ⟨⟨A, ref, cnt, bk⟩, h20, _, _, _⟩ := h
  exact ⟨⟨A, ref, cnt, bk.congR (fun j hj => f.2.2.2.2.2 j (by omega))⟩, by rw [f.2.1 20 (by decide) (by decide)]; exact h20, hp, hg, hB⟩
theorem note_at (N : Nat → Int32) (v : Int32) {j : Nat} (h1 : j ≠ 26) (h2 : j < 121) : sp_note N v j = N j := by
  unfold sp_note
  split
  · rw [up_ne h1, up_ne (by omega)]
  · rw [up_ne h1, up_ne (by omega), up_ne h1, cpy_out (by omega)]
theorem hit_at (l : Option sp_L) (N : Nat → Int32) {q j : Nat} (h0 : j ≠ 0) (h1 : j ≠ 1) (h4 : j ≠ 4 + q) : sp_hit l N q j = N j := by
  unfold sp_hit; rw [up_ne h4, up_ne h1, up_ne h0]
theorem lead_at (N : Nat → Int32) (c : Nat) (v : Int32) {j : Nat} (h : j ≠ 21 + c) : sp_lead N c v j = N j := up_ne h
theorem rNote_at (R : Nat → Int32) (n : Nat) (v : Int32) {j : Nat} (h : j = 4 ∨ j = 5 ∨ 150 ≤ j) (hn : n ≤ 24) : rNote R n v j = R j := by
  unfold rNote
  split
  · rw [up_ne (by omega), up_ne (by omega)]
  · rw [up_ne (by omega), up_ne (by omega), up_ne (by omega), cpy_out (by omega)]
theorem rDig_at (R : Nat → Int32) (q day r k : Nat) {j : Nat} (h : j = 4 ∨ j = 5 ∨ 150 ≤ j) : rDig R q day r k j = R j := by
  unfold rDig
  split
  · rw [up_ne (by omega)]
  · unfold dR; rw [up_ne (by omega), up_ne (by omega)]
theorem r_shoot {Z : az_S × Nat} {B : Nat} {inF : Int32} {ls : Nat → sp_L} {N : Nat → Int32} {M : az_M} (H : RefAt Z B inF ls N M) {q c : Nat} (hq : q < 12) (hc : c ≤ 1) : ∃ M', f_X12_shoot sp_G (nI c) (nI q) M = some M' ∧ sp_pr (sp_fire (sp_law inF ls) N c q) (M'.1 42) ∧ sp_fq M M' := by
  obtain ⟨w, f, d, a1, a2, s, dp, day, r, n, S⟩ := shotN H.rg H.hB (sp_law inF ls) hq
  obtain ⟨L, hL, hL2⟩ := lead_nat H.rg H.hB hc
  have hB := H.hB
  have hq7 := H.rg.q7
  have bu : ∀ M, f_X12_bulletOf 0 M = some (M.1 42 11) := fun M => p_bulletOf (k := 0) (by decide) M
  have w11 : M.1 42 11 = nI w := H.pr.1.1.symm.trans S.w.1
  obtain ⟨M1, f1, g1⟩ := r_wears H hq (nI w)
  rw [show up N 0 (nI w) = N by rw [← S.w.1]; exact up_self N 0] at f1
  obtain ⟨M2, f2, g2⟩ := r_flattens (H.fr g1) hq
  have H2 := (H.fr g1).fr g2
  have g := g1.trans g2
  have pr := H2.pr
  have e42 : M2.1 42 = M.1 42 := g.1 42 (by decide)
  have R0 : M2.1 42 11 = nI w := pr.1.1.symm.trans S.w.1
  have R1 : M2.1 42 12 = nI f := pr.1.2.1.symm.trans S.f.1
  have R3 : M2.1 42 3 = nI n := pr.2.2.2.1.2.2.2.symm.trans S.n.1
  have RL : M2.1 42 (15 + c) = nI L := by
    rcases (show c = 0 ∨ c = 1 by omega) with rfl | rfl
    · exact pr.2.2.1.1.symm.trans hL
    · exact pr.2.2.1.2.symm.trans hL
  have Rd : M2.1 42 (17 + 4 * q + 3) = nI d := by
    rw [show 17 + 4 * q + 3 = 20 + 4 * q by omega]; exact (pr.2.2.2.2.1 q hq).2.2.2.symm.trans S.d.1
  have hw := S.w.2
  have hf := S.f.2
  have hd := S.d.2
  have ha1 := S.a1.2
  have ha2 := S.a2.2
  have hn := S.n.2
  have P4 : sp_pr (sp_lead (sp_hit (sp_law inF ls) N q) c (sp_worn (sp_law inF ls) N q)) (up (up (up (up (M2.1 42) 11 (nI (w - min a1 w))) (15 + c) (nI (L + min a1 w))) 12 (nI (min (f + a2) 99))) (17 + 4 * q + 3) (nI (d + 1))) := by
    have e : sp_lead (sp_hit (sp_law inF ls) N q) c (sp_worn (sp_law inF ls) N q) = up (up (up (up N 0 (nI (w - min a1 w))) (21 + c) (nI (L + min a1 w))) 1 (nI (min (f + a2) 99))) (4 + q) (nI (d + 1)) := by
      unfold sp_lead
      rw [hit_at _ _ (by omega) (by omega) (by omega), hL, S.worn, n_add, S.hit, up_comm _ (show 4 + q ≠ 21 + c by omega), up_comm _ (show 1 ≠ 21 + c by omega)]
    rw [e]
    have t : 15 + c = sp_tr (21 + c) := by
      rcases (show c = 0 ∨ c = 1 by omega) with rfl | rfl <;> rfl
    exact (((pr.upd hq7 (a := 0) (b := 11) (by omega) rfl (by omega) _).upd (by rw [up_ne (by omega)]; exact hq7) (a := 21 + c) (b := 15 + c) (by omega) t (by omega) _).upd (by rw [up_ne (by omega), up_ne (by omega)]; exact hq7) (a := 1) (b := 12) (by omega) rfl (by omega) _).upd (by rw [up_ne (by omega), up_ne (by omega), up_ne (by omega)]; exact hq7) (a := 4 + q) (b := 17 + 4 * q + 3) (by omega) (by rw [tr_4 hq]; omega) (by omega) _
  have k4 : ∀ j, j ≠ 0 → j ≠ 1 → j ≠ 4 + q → j ≠ 21 + c → sp_lead (sp_hit (sp_law inF ls) N q) c (sp_worn (sp_law inF ls) N q) j = N j := fun j h1 h2 h3 h4 => by rw [lead_at _ _ _ h4, hit_at _ _ h1 h2 h3]
  have P5 := note_pr P4 (by rw [k4 25 (by omega) (by omega) (by omega) (by omega)]; exact hq7) (n := n) (by rw [k4 26 (by omega) (by omega) (by omega) (by omega)]; exact S.n.1) hn (nI q)
  have k5 : ∀ j, j ≠ 0 → j ≠ 1 → j ≠ 4 + q → j ≠ 21 + c → j ≠ 26 → j < 121 → sp_note (sp_lead (sp_hit (sp_law inF ls) N q) c (sp_worn (sp_law inF ls) N q)) (nI q) j = N j := fun j h1 h2 h3 h4 h5 h6 => by rw [note_at _ _ h5 h6, k4 j h1 h2 h3 h4]
  have s5 : sp_note (sp_lead (sp_hit (sp_law inF ls) N q) c (sp_worn (sp_law inF ls) N q)) (nI q) 19 = nI s := (k5 19 (by omega) (by omega) (by omega) (by omega) (by omega) (by omega)).trans S.s.1
  have dp5 : sp_note (sp_lead (sp_hit (sp_law inF ls) N q) c (sp_worn (sp_law inF ls) N q)) (nI q) (51 + q) = nI dp := (k5 (51 + q) (by omega) (by omega) (by omega) (by omega) (by omega) (by omega)).trans S.dp.1
  have d5 : sp_note (sp_lead (sp_hit (sp_law inF ls) N q) c (sp_worn (sp_law inF ls) N q)) (nI q) 16 = nI day := (k5 16 (by omega) (by omega) (by omega) (by omega) (by omega) (by omega)).trans S.day.1
  have r5 : sp_note (sp_lead (sp_hit (sp_law inF ls) N q) c (sp_worn (sp_law inF ls) N q)) (nI q) 2 = nI r := (k5 2 (by omega) (by omega) (by omega) (by omega) (by omega) (by omega)).trans S.r.1
  have P6 := dig_pr P5 (by rw [k5 25 (by omega) (by omega) (by omega) (by omega) (by omega) (by omega)]; exact hq7) hq ⟨s5, S.s.2⟩ ⟨dp5, S.dp.2⟩ ⟨d5, S.day.2⟩ ⟨r5, S.r.2⟩
  obtain ⟨qe, qb⟩ := n_quot S.dp.2 S.s.2.1 S.s.2.2
  have s9 := P5.2.1 3 (by decide)
  have d6 := P5.2.1 0 (by decide)
  have r13 := P5.1.2.2.1
  have dp19 := (P5.2.2.2.2.1 q hq).2.2.1
  rw [s5] at s9
  rw [d5] at d6
  rw [r5] at r13
  rw [dp5] at dp19
  generalize hR4 : up (up (up (up (M2.1 42) 11 (nI (w - min a1 w))) (15 + c) (nI (L + min a1 w))) 12 (nI (min (f + a2) 99))) (17 + 4 * q + 3) (nI (d + 1)) = R4 at *
  have run : f_X12_shoot_36 sp_G (nI c) (nI q) (nI a2) (nI (min a1 w)) M2 = some (ro M2 42 (rDig (rNote R4 n (nI q)) q day r ((dp + s - 1) / s))) := by
    unfold f_X12_shoot_36 f_X12_shoot_153
    simp (disch := omega) only [n_addl, n_addr, n_add, n_mull, n_mulr, n_mul, n_sub, n_subr, n_subl, n_cl, n_lt, n_le, n_eq, n_ltl, n_ltr, n_lel, n_ler, n_eqr, n_eql, n_nm1, n_m1n, n_m1lt, n_ltm1, l_ltr, l_ltl, l_ler, l_lel, l_m1lt, l_nneg, if_true, if_false, or_false, false_or, or_true, true_or, and_true, true_and, and_false, false_and, not_true_eq_false, not_false_eq_true, Option.bind_some, Option.bind_none, reduceIte, ltT, ltF, leT, leF, eqT, eqF, nI_lt0, az_i_ro, ro_eq, ro_ro, R0, up_ne, RL]
    rw [show ∀ M, f_X12_bulletOf 1 M = some (M.1 42 12) from fun M => p_bulletOf (k := 1) (by decide) M, Option.bind_some, ro_eq, up_ne (by omega), up_ne (by omega), R1, n_add, p_within, show (if (0 : Int32) ≤ nI (f + a2) then (if nI (f + a2) ≤ 99 then nI (f + a2) else 99) else 0) = nI (min (f + a2) 99) from n_wi (lo := 0) (hi := 99) (by omega) (by omega) (by omega), Option.bind_some]
    simp (disch := omega) only [n_addl, n_addr, n_add, n_mull, n_mulr, n_mul, n_sub, n_subr, n_subl, n_cl, n_lt, n_le, n_eq, n_ltl, n_ltr, n_lel, n_ler, n_eqr, n_eql, n_nm1, n_m1n, n_m1lt, n_ltm1, l_ltr, l_ltl, l_ler, l_lel, l_m1lt, l_nneg, if_true, if_false, or_false, false_or, or_true, true_or, and_true, true_and, and_false, false_and, not_true_eq_false, not_false_eq_true, Option.bind_some, Option.bind_none, reduceIte, ltT, ltF, leT, leF, eqT, eqF, nI_lt0, az_i_ro, ro_eq, ro_ro, up_ne, Rd]
    rw [hR4, p_note (n := n) (by rw [ro_eq, ← hR4, up_ne (by omega), up_ne (by omega), up_ne (by omega), up_ne (by omega)]; exact R3) hn, Option.bind_some, ro_eq, ro_ro]
    rw [show ∀ M, f_X12_ofPlace (nI q) 0 M = some (M.1 42 (17 + 4 * q)) from fun M => p_ofPlace (w := 0) hq (by decide) M, Option.bind_some, ro_eq]
    unfold rDig
    by_cases h2 : rNote R4 n (nI q) (17 + 4 * q) = 2
    · rw [if_pos h2, if_pos h2, ro_ro]
    · rw [if_neg h2, if_neg h2, show ∀ M, f_X12_ofPlace (nI q) 2 M = some (M.1 42 (17 + 4 * q + 2)) from fun M => p_ofPlace (w := 2) hq (by decide) M, Option.bind_some, show ∀ M, f_X12_term 3 M = some (M.1 42 9) from fun M => p_term (k := 3) (by decide) M, Option.bind_some, Option.bind_some, ro_eq, show 17 + 4 * q + 2 = 19 + 4 * q by omega, ← dp19, ← s9, if_neg (by intro hE; have := (n_eq (a := s) (b := 0) (by have := S.s.2; omega) (by omega)).mp hE; have := S.s.2; omega), qe, p_goDays (d := day) (r := r) (by rw [ro_eq]; exact d6.symm) (by rw [ro_eq]; exact r13.symm) S.day.2 S.r.2 (by omega), Option.bind_some, ro_eq, ro_ro]
  refine ⟨ro M2 42 (rDig (rNote R4 n (nI q)) q day r ((dp + s - 1) / s)), ?_, ?_, sp_fq.row (M' := M2) g.fq ?_⟩
  rotate_left
  · exact P6
  · intro j hj
    rw [rDig_at _ _ _ _ _ hj, rNote_at _ _ _ hj hn, ← hR4, up_ne (by omega), up_ne (by omega), up_ne (by omega), up_ne (by omega), e42]
  · unfold f_X12_shoot
    rw [bu, Option.bind_some, w11, f1, Option.bind_some, f2, Option.bind_some, bu, Option.bind_some, R0, S.a1.1, S.a2.1]
    by_cases h : w ≤ a1
    · rw [if_pos (by rw [n_le (by omega) (by omega)]; exact h), Option.bind_some, ← run, Nat.min_eq_right h]
    · rw [if_neg (by rw [n_le (by omega) (by omega)]; exact h), ← run, Nat.min_eq_left (by omega)]
