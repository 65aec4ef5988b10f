/-- alike in some slots -/
def sp_eqv (L : Nat → Prop) (N R : Nat → Int32) : Prop := ∀ j, j < 145 → L j → N j = R (sp_tr j)
theorem sp_eqv.upd {L : Nat → Prop} {N R : Nat → Int32} (h : sp_eqv L N R) {a b : Nat} (ha : a < 145) (hb : b = sp_tr a) (v : Int32) : sp_eqv (fun j => L j ∨ j = a) (up N a v) (up R b v) := by
  subst hb
  intro j hj hl
  by_cases e : j = a
  · subst e; rw [up_eq, up_eq]
  · rw [up_ne e, up_ne (sp_tr_inj j hj a ha e)]; exact h j hj (hl.resolve_right e)
theorem sp_eqv.mono {L L' : Nat → Prop} {N R : Nat → Int32} (h : sp_eqv L N R) (hl : ∀ j, L' j → L j) : sp_eqv L' N R := fun j hj hL => h j hj (hl j hL)
theorem sp_pr.eqv {N R : Nat → Int32} (h : sp_pr N R) (hq : (N 25).toNatClampNeg ≤ 7) : sp_eqv (sp_live (N 25).toNatClampNeg) N R := fun j hj hl => h.at hq hj hl
theorem sp_eqv.pr {N R : Nat → Int32} {n : Nat} (h : sp_eqv (sp_live n) N R) (hN : N 25 = nI n) (hq : n ≤ 7) : sp_pr N R := by
  have e : (N 25).toNatClampNeg = n := by rw [hN, n_cl (by omega)]
  exact sp_pr.mk (by omega) (by rw [e]; exact h)
/-- a new quarrel: class, reference -/
def sp_qrl (N : Nat → Int32) (n : Nat) (a b c d : Int32) : Nat → Int32 := up (up (up (up (up N (93 + n) a) (100 + n) b) (107 + n) c) (114 + n) d) 25 (nI (n + 1))
def r_qrl (R : Nat → Int32) (n : Nat) (a b c d : Int32) : Nat → Int32 := up (up (up (up (up R (95 + 4 * n) a) (95 + 4 * n + 1) b) (95 + 4 * n + 2) c) (95 + 4 * n + 3) d) 2 (nI (n + 1))
theorem p_addQuarrel {o n : Nat} {M : az_M} (hN : M.1 (o + 1) 25 = nI n) (hn : n < 7) (a b c d : Int32) : f_X4_addQuarrel o a b c d M = some (nI n, ro M (o + 1) (sp_qrl (M.1 (o + 1)) n a b c d)) := by
  unfold f_X4_addQuarrel sp_qrl
  rw [hN]
  simp (disch := omega) only [n_addl, n_addr, n_add, n_mull, n_mulr, n_mul, n_sub, n_subr, n_subl, n_cl, n_lt, n_le, n_eq, n_ltl, n_ltr, n_lel, n_ler, n_eqr, n_eql, n_nm1, n_m1n, n_m1lt, n_ltm1, l_ltr, l_ltl, l_ler, l_lel, l_m1lt, l_nneg, if_true, if_false, or_false, false_or, or_true, true_or, and_true, true_and, and_false, false_and, not_true_eq_false, not_false_eq_true, Option.bind_some, Option.bind_none, reduceIte, ltT, ltF, leT, leF, eqT, eqF, nI_lt0, az_i_ro, ro_eq, ro_ro]
theorem sp_qrl_pr {N R : Nat → Int32} (h : sp_pr N R) {n : Nat} (hN : N 25 = nI n) (hn : n < 7) (a b c d : Int32) : sp_pr (sp_qrl N n a b c d) (r_qrl R n a b c d) := by
  have e : (N 25).toNatClampNeg = n := by rw [hN, n_cl (by omega)]
  have h0 := h.eqv (by omega)
  rw [e] at h0
  have h1 := (((((h0.upd (a := 93 + n) (b := 95 + 4 * n) (by omega) (by rw [tr_93 hn]) a).upd (a := 100 + n) (b := 95 + 4 * n + 1) (by omega) (by rw [tr_100 hn]; omega) b).upd (a := 107 + n) (b := 95 + 4 * n + 2) (by omega) (by rw [tr_107 hn]; omega) c).upd (a := 114 + n) (b := 95 + 4 * n + 3) (by omega) (by rw [tr_114 hn]; omega) d).upd (a := 25) (b := 2) (by omega) rfl (nI (n + 1)))
  refine sp_eqv.pr (n := n + 1) (h1.mono (fun j hj => ?_)) (up_eq _ _ _) (by omega)
  show ((((sp_live n j ∨ j = 93 + n) ∨ j = 100 + n) ∨ j = 107 + n) ∨ j = 114 + n) ∨ j = 25
  unfold sp_live at hj ⊢
  omega
theorem sp_qrl_rg {B : Nat} {N : Nat → Int32} (h : sp_rg B N) {n p q : Nat} (hN : N 25 = nI n) (hn : n < 7) (hP : N 24 = nI p) (hQ : N 23 = nI q) (hp : p ≤ 10) (hq : q ≤ 12) {a b c d : Nat} (ha : a < p) (hb : b < p) (hab : a ≠ b) (hc : c < q) (hd : d ≤ 999) : sp_rg B (sp_qrl N n (nI a) (nI b) (nI c) (nI d)) := by
  obtain ⟨⟨a0, a1, a2, a3⟩, ⟨b0, b1, b2, b3, b4⟩, ⟨c1, c2⟩, ⟨d0, d1, d2, d3⟩, e, f, g⟩ := h
  have K : ∀ j, j ≠ 25 → j ≠ 93 + n → j ≠ 100 + n → j ≠ 107 + n → j ≠ 114 + n → sp_qrl N n (nI a) (nI b) (nI c) (nI d) j = N j := fun j h1 h2 h3 h4 h5 => by
    unfold sp_qrl; rw [up_ne h1, up_ne h5, up_ne h4, up_ne h3, up_ne h2]
  have k25 : sp_qrl N n (nI a) (nI b) (nI c) (nI d) 25 = nI (n + 1) := rfl
  have lo : ∀ j, j < 93 → j ≠ 25 → sp_qrl N n (nI a) (nI b) (nI c) (nI d) j = N j := fun j h1 h2 => K j h2 (by omega) (by omega) (by omega) (by omega)
  refine ⟨?_, ?_, ?_, ⟨?_, ?_, ?_, ?_⟩, fun p hp => ?_, fun p hp => ?_, fun k hk => ?_⟩
  · rw [lo 0 (by omega) (by omega), lo 1 (by omega) (by omega), lo 2 (by omega) (by omega), lo 3 (by omega) (by omega)]; exact ⟨a0, a1, a2, a3⟩
  · rw [lo 16 (by omega) (by omega), lo 17 (by omega) (by omega), lo 18 (by omega) (by omega), lo 19 (by omega) (by omega), lo 20 (by omega) (by omega)]; exact ⟨b0, b1, b2, b3, b4⟩
  · rw [lo 21 (by omega) (by omega), lo 22 (by omega) (by omega)]; exact ⟨c1, c2⟩
  · rw [lo 23 (by omega) (by omega)]; exact d0
  · rw [lo 24 (by omega) (by omega)]; exact d1
  · rw [k25, sp_in_nI (by omega)]; omega
  · rw [lo 26 (by omega) (by omega)]; exact d3
  · rw [lo (27 + p) (by omega) (by omega), lo (39 + p) (by omega) (by omega), lo (51 + p) (by omega) (by omega), lo (4 + p) (by omega) (by omega)]; exact e p hp
  · rw [lo (63 + p) (by omega) (by omega), lo (73 + p) (by omega) (by omega), lo (83 + p) (by omega) (by omega)]; exact f p hp
  · rw [k25, n_cl (by omega)] at hk
    rw [lo 23 (by omega) (by omega), lo 24 (by omega) (by omega)]
    by_cases e : k = n
    · subst e
      have x1 : sp_qrl N k (nI a) (nI b) (nI c) (nI d) (93 + k) = nI a := by unfold sp_qrl; rw [up_ne (by omega), up_ne (by omega), up_ne (by omega), up_ne (by omega), up_eq]
      have x2 : sp_qrl N k (nI a) (nI b) (nI c) (nI d) (100 + k) = nI b := by unfold sp_qrl; rw [up_ne (by omega), up_ne (by omega), up_ne (by omega), up_eq]
      have x3 : sp_qrl N k (nI a) (nI b) (nI c) (nI d) (107 + k) = nI c := by unfold sp_qrl; rw [up_ne (by omega), up_ne (by omega), up_eq]
      have x4 : sp_qrl N k (nI a) (nI b) (nI c) (nI d) (114 + k) = nI d := by unfold sp_qrl; rw [up_ne (by omega), up_eq]
      rw [x1, x2, x3, x4, hP, hQ, n_int (by omega), n_int (by omega), sp_in_nI (by omega), sp_in_nI (by omega), sp_in_nI (by omega), sp_in_nI (by omega)]
      refine ⟨by omega, by omega, ?_, by omega, by omega⟩
      rw [Ne, n_eq (by omega) (by omega)]; exact hab
    · rw [K (93 + k) (by omega) (by omega) (by omega) (by omega) (by omega), K (100 + k) (by omega) (by omega) (by omega) (by omega) (by omega), K (107 + k) (by omega) (by omega) (by omega) (by omega) (by omega), K (114 + k) (by omega) (by omega) (by omega) (by omega) (by omega)]
      exact g k (by rw [hN, n_cl (by omega)]; omega)
theorem ob_quarrel : Ob_quarrel az_Inv sp_G := by
  intro m Z M a1 a2 a3 a4 _ h
  obtain ⟨hp, hg⟩ := h.2.2.1
  obtain ⟨n, hn, _, hn2⟩ := hg.2.2.2.1.2.2.1.nat (by decide) (by decide)
  obtain ⟨p, hpp, _, hp2⟩ := hg.2.2.2.1.2.1.nat (by decide) (by decide)
  obtain ⟨q, hqq, _, hq2⟩ := hg.2.2.2.1.1.nat (by decide) (by decide)
  have h42 : M.1 42 2 = nI n := hp.2.2.2.1.2.2.1.symm.trans hn
  have hP : M.1 42 1 = nI p := hp.2.2.2.1.2.1.symm.trans hpp
  have hQ : M.1 42 0 = nI q := hp.2.2.2.1.1.symm.trans hqq
  have bad1 : (a1 = a2 ∨ a4 < 0 ∨ 999 < a4) → (∀ M, f_X12_quarrel a1 a2 a3 a4 M = some (-1, p_rf (az_i M 40 0 0) (-1) 1)) → ∃ (r : Int32) (M1 M2 : az_M), f_X11_quarrel a1 a2 a3 a4 M = some (r, M1) ∧ f_X12_quarrel a1 a2 a3 a4 M1 = some (r, M2) ∧ az_Inv (m + 1) Z M2 := by
    intro hb h2
    refine t_refuse h (j := 0) (j' := 1) (v := -1) (by simp) ?_ h2
    unfold f_X11_quarrel
    by_cases h1 : a1 = a2
    · rw [if_pos h1]; rfl
    · rw [if_neg h1, i_bad (hb.resolve_left h1)]; rfl
  by_cases he : a1 = a2
  · exact bad1 (Or.inl he) (fun M => by unfold f_X12_quarrel; rw [if_pos he]; rfl)
  rcases r_cases a4 0 999 (by decide) (by decide) with ⟨d, _, hd, rfl⟩ | ⟨hb, hi⟩
  · have start1 : f_X11_quarrel a1 a2 a3 (nI d) M = ((f_X4_hasPerson 1 a1 M).bind fun q4 => (if q4 = 0 then f_X11_quarrel_57 M else ((f_X4_hasPerson 1 a2 M).bind fun q7 => (if q7 = 0 then f_X11_quarrel_57 M else ((f_X4_hasPlace 1 a3 M).bind fun q10 => (if q10 = 0 then f_X11_quarrel_57 M else (if (M.1 2 25) < 7 then ((f_X4_addQuarrel 1 a1 a2 a3 (nI d) M).bind fun q14 => ((f_X11_settleAnew q14.1 q14.2).bind fun q16 => some (q16.1, q16.2))) else ((f_X11_refuse (-5) M).bind fun q18 => some (q18.1, q18.2))))))))) := by
      unfold f_X11_quarrel
      rw [if_neg he]
      exact i_good (lo := 0) (hi := 999) (Nat.zero_le _) hd (by decide)
    have bad2 : f_X11_quarrel a1 a2 a3 (nI d) M = f_X11_quarrel_57 M → f_X12_quarrel a1 a2 a3 (nI d) (p_rc M (-2) 1) = f_X12_quarrel_53 (az_i (p_rc M (-2) 1) 40 0 0) → ∃ (r : Int32) (M1 M2 : az_M), f_X11_quarrel a1 a2 a3 (nI d) M = some (r, M1) ∧ f_X12_quarrel a1 a2 a3 (nI d) M1 = some (r, M2) ∧ az_Inv (m + 1) Z M2 :=
      fun h1 h2 => ⟨-2, p_rc M (-2) 1, _, h1.trans rfl, h2.trans rfl, h.refuse (v := -2) (j := 1) (j' := 2) (by simp)⟩
    rcases v_cases a1 (n := p) (by omega) with ⟨x, hx, rfl⟩ | ⟨hb, hr⟩
    · rcases v_cases a2 (n := p) (by omega) with ⟨y, hy, rfl⟩ | ⟨hb, hr⟩
      · rcases v_cases a3 (n := q) (by omega) with ⟨z, hz, rfl⟩ | ⟨hb, hr⟩
        · by_cases hf : n < 7
          · refine ⟨nI n, az_i (az_i (az_i (ro M 2 (sp_qrl (M.1 2) n (nI x) (nI y) (nI z) (nI d))) 7 3 0) 0 12 0) 34 13 0, az_i (az_i (ro (az_i (az_i (az_i (az_i (ro M 2 (sp_qrl (M.1 2) n (nI x) (nI y) (nI z) (nI d))) 7 3 0) 0 12 0) 34 13 0) 40 0 0) 42 (r_qrl (M.1 42) n (nI x) (nI y) (nI z) (nI d))) 40 8 0) 40 1 0, ?_, ?_, ?_⟩
            · rw [start1, p_hasPerson1 (o := 1) hpp (by omega) hx, p_hasPerson1 (o := 1) hpp (by omega) hy, p_hasPlace1 (o := 1) hqq (by omega) hz, p_addQuarrel (o := 1) hn hf]
              show (if M.1 2 25 < 7 then _ else _) = _
              rw [hn, if_pos (show nI n < 7 from nI_lt hf (by decide))]; rfl
            · generalize hM : az_i (az_i (az_i (az_i (ro M 2 (sp_qrl (M.1 2) n (nI x) (nI y) (nI z) (nI d))) 7 3 0) 0 12 0) 34 13 0) 40 0 0 = K
              have k2 : K.1 42 2 = nI n := by rw [← hM]; exact h42
              have kR : K.1 42 = M.1 42 := by rw [← hM]; rfl
              unfold f_X12_quarrel
              rw [if_neg he, hM, g_in (lo := 0) (hi := 999) (Nat.zero_le _) hd (by decide), p_isPerson1 (kR ▸ hP) (by omega) hx, p_isPerson1 (kR ▸ hP) (by omega) hy, p_isPlace1 (kR ▸ hQ) (by omega) hz, k2]
              simp (disch := omega) only [n_addl, n_addr, n_add, n_mull, n_mulr, n_mul, n_sub, n_subr, n_subl, n_cl, n_lt, n_le, n_eq, n_ltl, n_ltr, n_lel, n_ler, n_eqr, n_eql, n_nm1, n_m1n, n_m1lt, n_ltm1, l_ltr, l_ltl, l_ler, l_lel, l_m1lt, l_nneg, if_true, if_false, or_false, false_or, or_true, true_or, and_true, true_and, and_false, false_and, not_true_eq_false, not_false_eq_true, Option.bind_some, Option.bind_none, reduceIte, ltT, ltF, leT, leF, eqT, eqF, nI_lt0, show ¬ (1 : Int32) = 0 by decide, p_settled0]
              rw [show ∀ a b c d M v, ((az_i (az_i (az_i (az_i M 42 (95 + 4 * n) a) 42 (95 + 4 * n + 1) b) 42 (95 + 4 * n + 2) c) 42 (95 + 4 * n + 3) d).1 42 2 + v : Int32) = M.1 42 2 + v from fun a b c d M v => by rw [gi, gi, gi, gi]; simp (disch := omega) only [if_true, if_false, or_false, false_or, or_true, true_or, and_true, true_and, and_false, false_and, not_true_eq_false, not_false_eq_true, Option.bind_some, Option.bind_none, reduceIte, ltT, ltF, leT, leF, eqT, eqF]]
              rw [k2, n_addr, ← kR]
              unfold r_qrl
              simp only [az_i_ro, ro_eq, ro_ro]
            · refine h.anew ?_ ?_ ?_ ⟨rfl, rfl, rfl, rfl, rfl, rfl, rfl, rfl⟩ ⟨rfl, rfl, rfl, rfl⟩ ⟨rfl, rfl⟩ rfl (fun q hq => ?_) rfl
              · exact sp_qrl_pr hp hn hf _ _ _ _
              · exact sp_qrl_rg (hg.mono (sp_B_mono m)) hn hf hpp hqq (by omega) (by omega) hx hy (fun e => he (by rw [e])) hz hd
              · intro j hj
                show r_qrl (M.1 42) n (nI x) (nI y) (nI z) (nI d) j = _
                unfold r_qrl
                rw [up_ne (by omega), up_ne (by omega), up_ne (by omega), up_ne (by omega), up_ne (by omega)]
              · rw [gi_k (by omega), gi_k (by omega), ro_ne (by omega), gi_k (by omega), gi_k (by omega), gi_k (by omega), gi_k (by omega), ro_ne (by omega)]
          · have h12 : n = 7 := by omega
            subst h12
            refine ⟨-5, p_rc M (-5) 3, _, ?_, ?_, h.refuse (v := -5) (j := 3) (j' := 5) (by simp)⟩
            · rw [start1, p_hasPerson1 (o := 1) hpp (by omega) hx, p_hasPerson1 (o := 1) hpp (by omega) hy, p_hasPlace1 (o := 1) hqq (by omega) hz]
              show (if M.1 2 25 < 7 then _ else _) = _
              rw [hn]; rfl
            · unfold f_X12_quarrel
              rw [if_neg he, g_in (lo := 0) (hi := 999) (Nat.zero_le _) hd (by decide), p_isPerson1 (M := az_i (p_rc M (-5) 3) 40 0 0) hP (by omega) hx, p_isPerson1 (M := az_i (p_rc M (-5) 3) 40 0 0) hP (by omega) hy, p_isPlace1 (M := az_i (p_rc M (-5) 3) 40 0 0) hQ (by omega) hz, show (az_i (p_rc M (-5) 3) 40 0 0).1 42 2 = nI 7 from h42]; rfl
        · refine bad2 ?_ ?_
          · rw [start1, p_hasPerson1 (o := 1) hpp (by omega) hx, p_hasPerson1 (o := 1) hpp (by omega) hy, p_hasPlace0 (o := 1) (hqq ▸ hb)]; rfl
          · unfold f_X12_quarrel
            rw [if_neg he, g_in (lo := 0) (hi := 999) (Nat.zero_le _) hd (by decide), p_isPerson1 (M := az_i (p_rc M (-2) 1) 40 0 0) hP (by omega) hx, p_isPerson1 (M := az_i (p_rc M (-2) 1) 40 0 0) hP (by omega) hy, p_isPlace0 (M := az_i (p_rc M (-2) 1) 40 0 0) (by rw [show (az_i (p_rc M (-2) 1) 40 0 0).1 42 0 = nI q from hQ]; exact hr)]; rfl
      · refine bad2 ?_ ?_
        · rw [start1, p_hasPerson1 (o := 1) hpp (by omega) hx, p_hasPerson0 (o := 1) (hpp ▸ hb)]; rfl
        · unfold f_X12_quarrel
          rw [if_neg he, g_in (lo := 0) (hi := 999) (Nat.zero_le _) hd (by decide), p_isPerson1 (M := az_i (p_rc M (-2) 1) 40 0 0) hP (by omega) hx, p_isPerson0 (M := az_i (p_rc M (-2) 1) 40 0 0) (by rw [show (az_i (p_rc M (-2) 1) 40 0 0).1 42 1 = nI p from hP]; exact hr)]; rfl
    · refine bad2 ?_ ?_
      · rw [start1, p_hasPerson0 (o := 1) (hpp ▸ hb)]; rfl
      · unfold f_X12_quarrel
        rw [if_neg he, g_in (lo := 0) (hi := 999) (Nat.zero_le _) hd (by decide), p_isPerson0 (M := az_i (p_rc M (-2) 1) 40 0 0) (by rw [show (az_i (p_rc M (-2) 1) 40 0 0).1 42 1 = nI p from hP]; exact hr)]; rfl
  · exact bad1 (Or.inr hb) (fun M => by unfold f_X12_quarrel; rw [if_neg he]; exact (congrArg (fun x => Option.bind x _) (hi _)).trans rfl)
