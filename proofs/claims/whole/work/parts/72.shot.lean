/-! a shot -/
def sp_worn (l : Option sp_L) (N : Nat → Int32) (q : Nat) : Int32 := if sp_ask l N 1 (-1) (nI q) < N 0 then sp_ask l N 1 (-1) (nI q) else N 0
def sp_hit (l : Option sp_L) (N : Nat → Int32) (q : Nat) : Nat → Int32 := up (up (up N 0 (N 0 - sp_worn l N q)) 1 (if N 1 + sp_ask l N 2 (-1) (nI q) < 99 then N 1 + sp_ask l N 2 (-1) (nI q) else 99)) (4 + q) (N (4 + q) + 1)
def sp_dig (N : Nat → Int32) (q : Nat) : Nat → Int32 := if N (27 + q) = 2 then up N 3 1 else sp_days N ((N (51 + q) + N 19 - 1) / N 19)
def sp_lead (N : Nat → Int32) (c : Nat) (v : Int32) : Nat → Int32 := up N (21 + c) (N (21 + c) + v)
def sp_note (N : Nat → Int32) (v : Int32) : Nat → Int32 := if N 26 < 24 then up (up N (121 + (N 26).toNatClampNeg) v) 26 (N 26 + 1) else up (up (up (cpy N N 122 121 23) 26 23) (121 + 23) v) 26 24
def sp_fire (l : Option sp_L) (N : Nat → Int32) (c q : Nat) : Nat → Int32 := sp_dig (sp_note (sp_lead (sp_hit l N q) c (sp_worn l N q)) (nI q)) q
theorem sp_shot_eq (l : Option sp_L) (N : Nat → Int32) {q : Nat} (hq : q < 12) : sp_shot l N q = sp_dig (sp_hit l N q) q := by
  have e : sp_hit l N q = (fun j => if j = 0 then N 0 - sp_worn l N q else if j = 1 then (if N 1 + sp_ask l N 2 (-1) (nI q) < 99 then N 1 + sp_ask l N 2 (-1) (nI q) else 99) else if j = 4 + q then N (4 + q) + 1 else N j) := by
    funext j
    unfold sp_hit
    by_cases h0 : j = 0
    · subst h0; rw [up_ne (by omega), up_ne (by omega), up_eq, if_pos rfl]
    · rw [if_neg h0]
      by_cases h1 : j = 1
      · subst h1; rw [up_ne (by omega), up_eq, if_pos rfl]
      · rw [if_neg h1]
        by_cases h4 : j = 4 + q
        · subst h4; rw [up_eq, if_pos rfl]
        · rw [up_ne h4, up_ne h1, up_ne h0, if_neg h4]
  have x1 : sp_hit l N q (27 + q) = N (27 + q) := by unfold sp_hit; rw [up_ne (by omega), up_ne (by omega), up_ne (by omega)]
  have x2 : sp_hit l N q (51 + q) = N (51 + q) := by unfold sp_hit; rw [up_ne (by omega), up_ne (by omega), up_ne (by omega)]
  have x3 : sp_hit l N q 19 = N 19 := by unfold sp_hit; rw [up_ne (by omega), up_ne (by omega), up_ne (by omega)]
  unfold sp_dig sp_shot
  rw [x1, x2, x3]
  by_cases h2 : N (27 + q) = 2
  · rw [if_pos h2, if_pos h2, e]; rfl
  · rw [if_neg h2, if_neg h2, e]; rfl
theorem p_noteShot {o n : Nat} {M : az_M} (hn : M.1 (o + 1) 26 = nI n) (h : n ≤ 24) (v : Int32) : f_X4_noteShot o v M = some (ro M (o + 1) (sp_note (M.1 (o + 1)) v)) := by
  unfold f_X4_noteShot f_X4_noteShot_38 sp_note
  by_cases h24 : n < 24
  · simp (disch := omega) only [n_addl, n_addr, n_add, n_mull, n_mulr, n_mul, n_sub, n_subr, n_subl, n_cl, n_lt, n_le, n_eq, n_ltl, n_ltr, n_lel, n_ler, n_eqr, n_eql, n_nm1, n_m1n, n_m1lt, n_ltm1, l_ltr, l_ltl, l_ler, l_lel, l_m1lt, l_nneg, if_true, if_false, or_false, false_or, or_true, true_or, and_true, true_and, and_false, false_and, not_true_eq_false, not_false_eq_true, Option.bind_some, Option.bind_none, reduceIte, ltT, ltF, leT, leF, eqT, eqF, nI_lt0, hn, az_i_ro, ro_eq, ro_ro, up_ne]
  · obtain rfl : n = 24 := by omega
    rw [hn, if_neg (show ¬ nI 24 < 24 by decide), if_neg (show ¬ nI 24 < 24 by decide), az_cp_ro, az_i_ro, ro_eq, ro_ro, ro_eq, up_eq, if_neg (by decide), az_i_ro, az_i_ro, ro_eq, ro_ro, ro_eq, ro_ro]
    rfl
theorem n_max1 {s : Nat} (h1 : 1 ≤ s) (h2 : s ≤ 9) : (if 1 < nI s then nI s else 1) = nI s := by
  by_cases h : s = 1
  · subst h; rfl
  · rw [if_pos (by simp (disch := omega) only [n_addl, n_addr, n_add, n_mull, n_mulr, n_mul, n_sub, n_subr, n_subl, n_cl, n_lt, n_le, n_eq, n_ltl, n_ltr, n_lel, n_ler, n_eqr, n_eql, n_nm1, n_m1n, n_m1lt, n_ltm1, l_ltr, l_ltl, l_ler, l_lel, l_m1lt, l_nneg]; omega)]
theorem p_dig {Z : az_S × Nat} {G o q s : Nat} {M : az_M} (hq : q < 12) (hs : M.1 (o + 1) 19 = nI s) (h1 : 1 ≤ s) (h2 : s ≤ 9) : f_X8_shoot_104 Z G o (nI q) M = some (ro M (o + 1) (sp_dig (M.1 (o + 1)) q)) := by
  unfold f_X8_shoot_104 f_X8_shoot_161 sp_dig
  rw [hs, n_max1 h1 h2]
  simp (disch := omega) only [n_addl, n_addr, n_add, n_mull, n_mulr, n_mul, n_sub, n_subr, n_subl, n_cl, n_lt, n_le, n_eq, n_ltl, n_ltr, n_lel, n_ler, n_eqr, n_eql, n_nm1, n_m1n, n_m1lt, n_ltm1, l_ltr, l_ltl, l_ler, l_lel, l_m1lt, l_nneg, if_true, if_false, or_false, false_or, or_true, true_or, and_true, true_and, and_false, false_and, not_true_eq_false, not_false_eq_true, Option.bind_some, Option.bind_none, reduceIte, ltT, ltF, leT, leF, eqT, eqF, nI_lt0]
  by_cases h : M.1 (o + 1) (27 + q) = 2
  · rw [if_pos h, if_pos h, az_i_ro]
  · rw [if_neg h, if_neg h, p_passDays, Option.bind_some]
theorem clamp_in {hi v : Int32} (h : 0 < hi) : sp_in (sp_clamp hi v) 0 hi.toInt := by
  unfold sp_clamp sp_in
  have e0 : (0 : Int32).toInt = 0 := rfl
  rw [Int32.lt_iff_toInt_lt, e0] at h
  by_cases h1 : v < hi
  · rw [if_pos h1]
    rw [Int32.lt_iff_toInt_lt] at h1
    by_cases h2 : 0 < v
    · rw [if_pos h2]; rw [Int32.lt_iff_toInt_lt, e0] at h2; omega
    · rw [if_neg h2, e0]; omega
  · rw [if_neg h1, if_pos (by rw [Int32.lt_iff_toInt_lt, e0]; exact h)]; omega
theorem ask_in {B : Nat} {N : Nat → Int32} (rg : sp_rg B N) (l : Option sp_L) {h q : Nat} (hh : h = 1 ∨ h = 2) (hq : q < 12) : ∃ a, a ≤ 99 ∧ sp_ask l N h (-1) (nI q) = nI a := by
  rw [sp_ask_end]
  obtain ⟨x, hx, _, hx2⟩ := (rg.2.2.2.2.1 q hq).2.1.nat (by decide) (by decide)
  cases l.bind (fun l => sp_tell l (nI h) (sp_env N (-1) (nI q))) with
  | none =>
    rcases hh with rfl | rfl
    · refine ⟨x / 10, by omega, ?_⟩
      show N (39 + (nI q).toNatClampNeg) / 10 = _
      rw [n_cl (by omega), hx, n_divr (by omega) (by decide)]
    · refine ⟨x / 20, by omega, ?_⟩
      show N (39 + (nI q).toNatClampNeg) / 20 = _
      rw [n_cl (by omega), hx, n_divr (by omega) (by decide)]
  | some v =>
    have hc : sp_in (sp_clamp 99 v) 0 99 := clamp_in (by decide)
    obtain ⟨a, ha, _, ha2⟩ := hc.nat (by decide) (by decide)
    rcases hh with rfl | rfl
    · exact ⟨a, by omega, ha⟩
    · exact ⟨a, by omega, ha⟩
/-- the numbers of a shot -/
abbrev ShotN (B : Nat) (l : Option sp_L) (N : Nat → Int32) (q : Nat) (w f d a1 a2 s dp day r n : Nat) : Prop := (N 0 = nI w ∧ w ≤ 999) ∧ (N 1 = nI f ∧ f ≤ 99) ∧ (N (4 + q) = nI d ∧ d ≤ B) ∧ (sp_ask l N 1 (-1) (nI q) = nI a1 ∧ a1 ≤ 99) ∧ (sp_ask l N 2 (-1) (nI q) = nI a2 ∧ a2 ≤ 99) ∧ (N 19 = nI s ∧ 1 ≤ s ∧ s ≤ 9) ∧ (N (51 + q) = nI dp ∧ dp ≤ 20) ∧ (N 16 = nI day ∧ day ≤ 999) ∧ (N 2 = nI r ∧ r ≤ 99) ∧ (N 26 = nI n ∧ n ≤ 24)
theorem ShotN.w {B : Nat} {l : Option sp_L} {N : Nat → Int32} {q : Nat} {w f d a1 a2 s dp day r n : Nat} (h : ShotN B l N q w f d a1 a2 s dp day r n) : N 0 = nI w ∧ w ≤ 999 := h.1
theorem ShotN.f {B : Nat} {l : Option sp_L} {N : Nat → Int32} {q : Nat} {w f d a1 a2 s dp day r n : Nat} (h : ShotN B l N q w f d a1 a2 s dp day r n) : N 1 = nI f ∧ f ≤ 99 := h.2.1
theorem ShotN.d {B : Nat} {l : Option sp_L} {N : Nat → Int32} {q : Nat} {w f d a1 a2 s dp day r n : Nat} (h : ShotN B l N q w f d a1 a2 s dp day r n) : N (4 + q) = nI d ∧ d ≤ B := h.2.2.1
theorem ShotN.a1 {B : Nat} {l : Option sp_L} {N : Nat → Int32} {q : Nat} {w f d a1 a2 s dp day r n : Nat} (h : ShotN B l N q w f d a1 a2 s dp day r n) : sp_ask l N 1 (-1) (nI q) = nI a1 ∧ a1 ≤ 99 := h.2.2.2.1
theorem ShotN.a2 {B : Nat} {l : Option sp_L} {N : Nat → Int32} {q : Nat} {w f d a1 a2 s dp day r n : Nat} (h : ShotN B l N q w f d a1 a2 s dp day r n) : sp_ask l N 2 (-1) (nI q) = nI a2 ∧ a2 ≤ 99 := h.2.2.2.2.1
theorem ShotN.s {B : Nat} {l : Option sp_L} {N : Nat → Int32} {q : Nat} {w f d a1 a2 s dp day r n : Nat} (h : ShotN B l N q w f d a1 a2 s dp day r n) : N 19 = nI s ∧ 1 ≤ s ∧ s ≤ 9 := h.2.2.2.2.2.1
theorem ShotN.dp {B : Nat} {l : Option sp_L} {N : Nat → Int32} {q : Nat} {w f d a1 a2 s dp day r n : Nat} (h : ShotN B l N q w f d a1 a2 s dp day r n) : N (51 + q) = nI dp ∧ dp ≤ 20 := h.2.2.2.2.2.2.1
theorem ShotN.day {B : Nat} {l : Option sp_L} {N : Nat → Int32} {q : Nat} {w f d a1 a2 s dp day r n : Nat} (h : ShotN B l N q w f d a1 a2 s dp day r n) : N 16 = nI day ∧ day ≤ 999 := h.2.2.2.2.2.2.2.1
theorem ShotN.r {B : Nat} {l : Option sp_L} {N : Nat → Int32} {q : Nat} {w f d a1 a2 s dp day r n : Nat} (h : ShotN B l N q w f d a1 a2 s dp day r n) : N 2 = nI r ∧ r ≤ 99 := h.2.2.2.2.2.2.2.2.1
theorem ShotN.n {B : Nat} {l : Option sp_L} {N : Nat → Int32} {q : Nat} {w f d a1 a2 s dp day r n : Nat} (h : ShotN B l N q w f d a1 a2 s dp day r n) : N 26 = nI n ∧ n ≤ 24 := h.2.2.2.2.2.2.2.2.2
theorem shotN {B : Nat} {N : Nat → Int32} (rg : sp_rg B N) (hB : B ≤ 1000000000) (l : Option sp_L) {q : Nat} (hq : q < 12) : ∃ w f d a1 a2 s dp day r n, ShotN B l N q w f d a1 a2 s dp day r n := by
  obtain ⟨a1, h1, e1⟩ := ask_in rg l (h := 1) (Or.inl rfl) hq
  obtain ⟨a2, h2, e2⟩ := ask_in rg l (h := 2) (Or.inr rfl) hq
  obtain ⟨⟨b0, b1, b2, b3⟩, ⟨c0, c1, c2, c3, c4⟩, _, ⟨_, _, _, d3⟩, e, _⟩ := rg
  obtain ⟨w, hw, _, hw2⟩ := b0.nat (by decide) (by decide)
  obtain ⟨f, hf, _, hf2⟩ := b1.nat (by decide) (by decide)
  obtain ⟨r, hr, _, hr2⟩ := b2.nat (by decide) (by decide)
  obtain ⟨day, hday, _, hday2⟩ := c0.nat (by decide) (by decide)
  obtain ⟨s, hs, hs1, hs2⟩ := c3.nat (by decide) (by decide)
  obtain ⟨n, hn, _, hn2⟩ := d3.nat (by decide) (by decide)
  obtain ⟨dp, hdp, _, hdp2⟩ := (e q hq).2.2.1.nat (by decide) (by decide)
  obtain ⟨d, hd, _, hd2⟩ := (e q hq).2.2.2.nat (by decide) (by omega)
  exact ⟨w, f, d, a1, a2, s, dp, day, r, n, ⟨hw, by omega⟩, ⟨hf, by omega⟩, ⟨hd, by omega⟩, ⟨e1, h1⟩, ⟨e2, h2⟩, ⟨hs, by omega, by omega⟩, ⟨hdp, by omega⟩, ⟨hday, by omega⟩, ⟨hr, by omega⟩, ⟨hn, by omega⟩⟩
theorem ShotN.worn {B : Nat} {l : Option sp_L} {N : Nat → Int32} {q w f d a1 a2 s dp day r n : Nat} (h : ShotN B l N q w f d a1 a2 s dp day r n) : sp_worn l N q = nI (min a1 w) := by
  have := h.w.2
  have := h.a1.2
  unfold sp_worn
  rw [h.w.1, h.a1.1]
  exact n_min (by omega) (by omega)
theorem ShotN.hit {B : Nat} {l : Option sp_L} {N : Nat → Int32} {q w f d a1 a2 s dp day r n : Nat} (h : ShotN B l N q w f d a1 a2 s dp day r n) : sp_hit l N q = up (up (up N 0 (nI (w - min a1 w))) 1 (nI (min (f + a2) 99))) (4 + q) (nI (d + 1)) := by
  have := h.f.2
  have := h.a2.2
  unfold sp_hit
  rw [h.worn, h.w.1, h.f.1, h.a2.1, h.d.1, n_add, n_addr, n_sub (Nat.min_le_right _ _), show (if nI (f + a2) < 99 then nI (f + a2) else 99) = nI (min (f + a2) 99) from n_min (b := 99) (by omega) (by omega)]
theorem p_shoot0 {Z : az_S × Nat} {B o : Nat} {inF : Int32} {ls : Nat → sp_L} {N : Nat → Int32} {M : az_M} (H : ClsAt Z B o inF ls N M) {q : Nat} (hq : q < 12) : ∃ M', f_X8_shoot Z sp_G o (-1) (nI q) M = some M' ∧ M'.1 (o + 1) = sp_shot (sp_law inF ls) N q ∧ (∀ k, k ≠ 14 → k ≠ 20 → k ≠ o + 1 → M'.1 k = M.1 k) ∧ M'.2 = M.2 := by
  obtain ⟨w, f, d, a1, a2, s, dp, day, r, n, S⟩ := shotN H.rg H.hB (sp_law inF ls) hq
  obtain ⟨M1, f1, g1⟩ := c_ask H (h := 1) (by decide) hq (p := -1) (Or.inl rfl) (fun h => absurd h (by decide))
  have H1 := H.cf g1
  obtain ⟨M2, f2, g2⟩ := c_ask H1 (h := 2) (by decide) hq (p := -1) (Or.inl rfl) (fun h => absurd h (by decide))
  have hrow := H.row
  have hrow2 := (H1.cf g2).row
  refine ⟨ro M2 (o + 1) (sp_dig (sp_hit (sp_law inF ls) N q) q), ?_, ?_, fun k h1 h2 h3 => ?_, ?_⟩
  · unfold f_X8_shoot
    rw [show f_X8_ask Z sp_G o 1 (-1) (nI q) M = _ from f1, Option.bind_some, show f_X8_ask Z sp_G o 2 (-1) (nI q) M1 = _ from f2, Option.bind_some]
    simp only [az_i_ro, ro_eq, ro_ro, hrow, hrow2]
    simp (disch := omega) only [n_addl, n_addr, n_add, n_mull, n_mulr, n_mul, n_sub, n_subr, n_subl, n_cl, n_lt, n_le, n_eq, n_ltl, n_ltr, n_lel, n_ler, n_eqr, n_eql, n_nm1, n_m1n, n_m1lt, n_ltm1, l_ltr, l_ltl, l_ler, l_lel, l_m1lt, l_nneg, if_true, if_false, or_false, false_or, or_true, true_or, and_true, true_and, and_false, false_and, not_true_eq_false, not_false_eq_true, Option.bind_some, Option.bind_none, reduceIte, ltT, ltF, leT, leF, eqT, eqF, nI_lt0, up_ne]
    rw [p_dig (s := s) hq (by rw [ro_eq, up_ne (by omega), up_ne (by omega), up_ne (by omega)]; exact S.s.1) S.s.2.1 S.s.2.2, ro_eq, ro_ro]
    rfl
  · rw [ro_eq, sp_shot_eq _ _ hq]
  · rw [ro_ne h3, (g1.trans g2).1 k h1 h2]
  · rw [ro_2]; exact (g1.trans g2).2
theorem p_shoot1 {Z : az_S × Nat} {B o : Nat} {inF : Int32} {ls : Nat → sp_L} {N : Nat → Int32} {M : az_M} (H : ClsAt Z B o inF ls N M) {q k c : Nat} (hq : q < 12) (hk : k < 10) (hc : N (73 + k) = nI c) (hc1 : c ≤ 1) : ∃ M', f_X8_shoot Z sp_G o (nI k) (nI q) M = some M' ∧ M'.1 (o + 1) = sp_fire (sp_law inF ls) N c q ∧ (∀ k, k ≠ 14 → k ≠ 20 → k ≠ o + 1 → M'.1 k = M.1 k) ∧ M'.2 = M.2 := by
  obtain ⟨w, f, d, a1, a2, s, dp, day, r, n, S⟩ := shotN H.rg H.hB (sp_law inF ls) hq
  obtain ⟨M1, f1, g1⟩ := c_ask H (h := 1) (by decide) hq (p := -1) (Or.inl rfl) (fun h => absurd h (by decide))
  have H1 := H.cf g1
  obtain ⟨M2, f2, g2⟩ := c_ask H1 (h := 2) (by decide) hq (p := -1) (Or.inl rfl) (fun h => absurd h (by decide))
  have hrow := H.row
  have hrow2 := (H1.cf g2).row
  have n19 : ∀ v, sp_note (sp_lead (sp_hit (sp_law inF ls) N q) c v) (nI q) 19 = nI s := by
    intro v
    unfold sp_note
    split
    · rename_i h
      have : (sp_lead (sp_hit (sp_law inF ls) N q) c v) 26 = nI n := by
        unfold sp_lead sp_hit; rw [up_ne (by omega), up_ne (by omega), up_ne (by omega), up_ne (by omega)]; exact S.n.1
      rw [this, n_cl (by have := S.n.2; omega), up_ne (by omega), up_ne (by omega)]
      unfold sp_lead sp_hit; rw [up_ne (by omega), up_ne (by omega), up_ne (by omega), up_ne (by omega)]; exact S.s.1
    · rw [up_ne (by omega), up_ne (by omega), up_ne (by omega), cpy_out (by omega)]
      unfold sp_lead sp_hit; rw [up_ne (by omega), up_ne (by omega), up_ne (by omega), up_ne (by omega)]; exact S.s.1
  refine ⟨ro M2 (o + 1) (sp_fire (sp_law inF ls) N c q), ?_, by rw [ro_eq], fun k h1 h2 h3 => ?_, ?_⟩
  · unfold f_X8_shoot
    rw [show f_X8_ask Z sp_G o 1 (-1) (nI q) M = _ from f1, Option.bind_some, show f_X8_ask Z sp_G o 2 (-1) (nI q) M1 = _ from f2, Option.bind_some]
    simp only [az_i_ro, ro_eq, ro_ro, hrow, hrow2]
    simp (disch := omega) only [n_addl, n_addr, n_add, n_mull, n_mulr, n_mul, n_sub, n_subr, n_subl, n_cl, n_lt, n_le, n_eq, n_ltl, n_ltr, n_lel, n_ler, n_eqr, n_eql, n_nm1, n_m1n, n_m1lt, n_ltm1, l_ltr, l_ltl, l_ler, l_lel, l_m1lt, l_nneg, if_true, if_false, or_false, false_or, or_true, true_or, and_true, true_and, and_false, false_and, not_true_eq_false, not_false_eq_true, Option.bind_some, Option.bind_none, reduceIte, ltT, ltF, leT, leF, eqT, eqF, nI_lt0, up_ne, hc]
    rw [p_noteShot (n := n) (by rw [ro_eq, up_ne (by omega), up_ne (by omega), up_ne (by omega), up_ne (by omega)]; exact S.n.1) S.n.2, Option.bind_some, ro_eq, ro_ro]
    have e : up (up (up (up N 0 (N 0 - sp_worn (sp_law inF ls) N q)) 1 (if N 1 + sp_ask (sp_law inF ls) N 2 (-1) (nI q) < 99 then N 1 + sp_ask (sp_law inF ls) N 2 (-1) (nI q) else 99)) (4 + q) (N (4 + q) + 1)) (21 + c) (N (21 + c) + sp_worn (sp_law inF ls) N q) = sp_lead (sp_hit (sp_law inF ls) N q) c (sp_worn (sp_law inF ls) N q) := by
      unfold sp_lead
      rw [show sp_hit (sp_law inF ls) N q (21 + c) = N (21 + c) by unfold sp_hit; rw [up_ne (by omega), up_ne (by omega), up_ne (by omega)]]
      rfl
    unfold sp_worn at e
    rw [e, p_dig (s := s) hq (by rw [ro_eq]; exact n19 _) S.s.2.1 S.s.2.2, ro_eq, ro_ro]
    rfl
  · rw [ro_ne h3, (g1.trans g2).1 k h1 h2]
  · rw [ro_2]; exact (g1.trans g2).2
