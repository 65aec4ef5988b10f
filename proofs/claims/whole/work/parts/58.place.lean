/-- a new place: class, reference -/
def sp_plc (N : Nat → Int32) (n : Nat) (a b c : Int32) : Nat → Int32 := up (up (up (up (up N (27 + n) a) (39 + n) b) (51 + n) c) (4 + n) 0) 23 (nI (n + 1))
def r_plc (R : Nat → Int32) (n : Nat) (a b c : Int32) : Nat → Int32 := up (up (up (up (up R (17 + 4 * n) a) (17 + 4 * n + 1) b) (17 + 4 * n + 2) c) (17 + 4 * n + 3) 0) 0 (nI (n + 1))
theorem p_addPlace {o n : Nat} {M : az_M} (hN : M.1 (o + 1) 23 = nI n) (hn : n < 12) (a b c : Int32) : f_X4_addPlace o a b c M = some (nI n, ro M (o + 1) (sp_plc (M.1 (o + 1)) n a b c)) := by
  unfold f_X4_addPlace sp_plc
  rw [hN]
  simp (disch := omega) only [n_addl, n_addr, n_add, n_mull, n_mulr, n_mul, n_sub, n_subr, n_subl, n_cl, n_lt, n_le, n_eq, n_ltl, n_ltr, n_lel, n_ler, n_eqr, n_eql, n_nm1, n_m1n, n_m1lt, n_ltm1, l_ltr, l_ltl, l_ler, l_lel, l_m1lt, l_nneg, if_true, if_false, or_false, false_or, or_true, true_or, and_true, true_and, and_false, false_and, not_true_eq_false, not_false_eq_true, Option.bind_some, Option.bind_none, reduceIte, ltT, ltF, leT, leF, eqT, eqF, nI_lt0, az_i_ro, ro_eq, ro_ro]
theorem p_place1 {n : Nat} {M : az_M} (hN : M.1 42 0 = nI n) (hn : n < 12) {a b c : Nat} (ha : a ≤ 3) (hb : b ≤ 99) (hc : c ≤ 20) : f_X12_place1 (nI a) (nI b) (nI c) M = some (nI n, ro M 42 (r_plc (M.1 42) n (nI a) (nI b) (nI c))) := by
  unfold f_X12_place1 r_plc
  rw [g_in (lo := 0) (hi := 3) (Nat.zero_le _) ha (by decide), g_in (lo := 0) (hi := 99) (Nat.zero_le _) hb (by decide), g_in (lo := 0) (hi := 20) (Nat.zero_le _) hc (by decide), hN]
  simp (disch := omega) only [n_addl, n_addr, n_add, n_mull, n_mulr, n_mul, n_sub, n_subr, n_subl, n_cl, n_lt, n_le, n_eq, n_ltl, n_ltr, n_lel, n_ler, n_eqr, n_eql, n_nm1, n_m1n, n_m1lt, n_ltm1, l_ltr, l_ltl, l_ler, l_lel, l_m1lt, l_nneg, if_true, if_false, or_false, false_or, or_true, true_or, and_true, true_and, and_false, false_and, not_true_eq_false, not_false_eq_true, Option.bind_some, Option.bind_none, reduceIte, ltT, ltF, leT, leF, eqT, eqF, nI_lt0, az_i_ro, ro_eq, ro_ro, show ¬ (1 : Int32) = 0 by decide, up_ne, hN, ne_eq, not_false_eq_true]
theorem p_place1_bad {M : az_M} {a b c : Int32} (h : (a < 0 ∨ 3 < a) ∨ (b < 0 ∨ 99 < b) ∨ (c < 0 ∨ 20 < c)) : f_X12_place1 a b c M = some (-1, M) := by
  unfold f_X12_place1 f_X12_place1_36
  rcases r_cases a 0 3 (by decide) (by decide) with ⟨a, _, ha, rfl⟩ | ⟨_, hi⟩
  · rw [g_in (lo := 0) (hi := 3) (Nat.zero_le _) ha (by decide)]
    rcases r_cases b 0 99 (by decide) (by decide) with ⟨b, _, hb, rfl⟩ | ⟨_, hi⟩
    · rw [g_in (lo := 0) (hi := 99) (Nat.zero_le _) hb (by decide)]
      rcases r_cases c 0 20 (by decide) (by decide) with ⟨c, _, hc, rfl⟩ | ⟨_, hi⟩
      · exfalso
        rcases h with (h | h) | (h | h) | (h | h)
        · exact nI_pos (by omega) h
        · exact nI_nlt ha (by decide) h
        · exact nI_pos (by omega) h
        · exact nI_nlt hb (by decide) h
        · exact nI_pos (by omega) h
        · exact nI_nlt hc (by decide) h
      · rw [hi]; rfl
    · rw [hi]; rfl
  · rw [hi]; rfl
theorem p_place1_full {M : az_M} (hN : M.1 42 0 = 12) {a b c : Nat} (ha : a ≤ 3) (hb : b ≤ 99) (hc : c ≤ 20) : f_X12_place1 (nI a) (nI b) (nI c) M = some (-5, M) := by
  unfold f_X12_place1
  rw [g_in (lo := 0) (hi := 3) (Nat.zero_le _) ha (by decide), g_in (lo := 0) (hi := 99) (Nat.zero_le _) hb (by decide), g_in (lo := 0) (hi := 20) (Nat.zero_le _) hc (by decide), hN]
  rfl
theorem c_isPlace_bad {M : az_M} {a b c : Int32} (h : (a < 0 ∨ 3 < a) ∨ (b < 0 ∨ 99 < b) ∨ (c < 0 ∨ 20 < c)) : f_X11_isPlace a b c M = some 0 := by
  unfold f_X11_isPlace f_X11_isPlace_33 f_X11_isPlace_34
  by_cases h1 : a < 0
  · rw [if_pos h1]; rfl
  by_cases h2 : 3 < a
  · rw [if_neg h1, if_pos h2]; rfl
  by_cases h3 : b < 0
  · rw [if_neg h1, if_neg h2, if_pos h3]; rfl
  by_cases h4 : 99 < b
  · rw [if_neg h1, if_neg h2, if_neg h3, if_pos h4]; rfl
  by_cases h5 : c < 0
  · rw [if_neg h1, if_neg h2, if_neg h3, if_neg h4, if_pos h5]; rfl
  by_cases h6 : 20 < c
  · rw [if_neg h1, if_neg h2, if_neg h3, if_neg h4, if_neg h5, if_pos h6]; rfl
  · exact absurd h (by simp only [h1, h2, h3, h4, h5, h6, or_self, not_false_iff])
theorem c_isPlace {M : az_M} {a b c : Nat} (ha : a ≤ 3) (hb : b ≤ 99) (hc : c ≤ 20) : f_X11_isPlace (nI a) (nI b) (nI c) M = some 1 := by
  unfold f_X11_isPlace
  simp (disch := omega) only [n_addl, n_addr, n_add, n_mull, n_mulr, n_mul, n_sub, n_subr, n_subl, n_cl, n_lt, n_le, n_eq, n_ltl, n_ltr, n_lel, n_ler, n_eqr, n_eql, n_nm1, n_m1n, n_m1lt, n_ltm1, l_ltr, l_ltl, l_ler, l_lel, l_m1lt, l_nneg, if_true, if_false, or_false, false_or, or_true, true_or, and_true, true_and, and_false, false_and, not_true_eq_false, not_false_eq_true, Option.bind_some, Option.bind_none, reduceIte, ltT, ltF, leT, leF, eqT, eqF, nI_lt0]; rfl
/-- numbers of a new place are good, or not -/
theorem plc_cases (a b c : Int32) : (∃ x y z : Nat, x ≤ 3 ∧ y ≤ 99 ∧ z ≤ 20 ∧ a = nI x ∧ b = nI y ∧ c = nI z) ∨ ((a < 0 ∨ 3 < a) ∨ (b < 0 ∨ 99 < b) ∨ (c < 0 ∨ 20 < c)) := by
  rcases r_cases a 0 3 (by decide) (by decide) with ⟨a, _, ha, rfl⟩ | ⟨h, _⟩
  · rcases r_cases b 0 99 (by decide) (by decide) with ⟨b, _, hb, rfl⟩ | ⟨h, _⟩
    · rcases r_cases c 0 20 (by decide) (by decide) with ⟨c, _, hc, rfl⟩ | ⟨h, _⟩
      · exact Or.inl ⟨a, b, c, ha, hb, hc, rfl, rfl, rfl⟩
      · exact Or.inr (Or.inr (Or.inr h))
    · exact Or.inr (Or.inr (Or.inl h))
  · exact Or.inr (Or.inl h)
theorem sp_rg.cnt23 {B : Nat} {N : Nat → Int32} (h : sp_rg B N) {n : Nat} (hN : N 23 = nI n) (hn : n < 12) : sp_rg B (up N 23 (nI (n + 1))) := by
  obtain ⟨⟨a0, a1, a2, a3⟩, ⟨b0, b1, b2, b3, b4⟩, ⟨c1, c2⟩, ⟨d0, d1, d2, d3⟩, e, f, g⟩ := h
  refine ⟨⟨a0, a1, a2, a3⟩, ⟨b0, b1, b2, b3, b4⟩, ⟨c1, c2⟩, ⟨?_, d1, d2, d3⟩, fun p hp => ?_, fun p hp => ?_, fun q hq => ?_⟩
  · show sp_in (nI (n + 1)) 0 12
    rw [sp_in_nI (by omega)]; omega
  · rw [up_ne (by omega), up_ne (by omega), up_ne (by omega), up_ne (by omega)]; exact e p hp
  · rw [up_ne (by omega), up_ne (by omega), up_ne (by omega)]; exact f p hp
  · obtain ⟨g1, g2, g3, g4, g5⟩ := g q hq
    rw [up_ne (show 93 + q ≠ 23 by omega), up_ne (show 100 + q ≠ 23 by omega), up_ne (show 107 + q ≠ 23 by omega), up_ne (show 114 + q ≠ 23 by omega)]
    refine ⟨g1, g2, g3, g4.mono ?_, g5⟩
    show (N 23).toInt - 1 ≤ (nI (n + 1)).toInt - 1
    rw [hN, n_int (by omega), n_int (by omega)]; omega
theorem sp_rg.cnt24 {B : Nat} {N : Nat → Int32} (h : sp_rg B N) {n : Nat} (hN : N 24 = nI n) (hn : n < 10) : sp_rg B (up N 24 (nI (n + 1))) := by
  obtain ⟨⟨a0, a1, a2, a3⟩, ⟨b0, b1, b2, b3, b4⟩, ⟨c1, c2⟩, ⟨d0, d1, d2, d3⟩, e, f, g⟩ := h
  refine ⟨⟨a0, a1, a2, a3⟩, ⟨b0, b1, b2, b3, b4⟩, ⟨c1, c2⟩, ⟨d0, ?_, d2, d3⟩, fun p hp => ?_, fun p hp => ?_, fun q hq => ?_⟩
  · show sp_in (nI (n + 1)) 0 10
    rw [sp_in_nI (by omega)]; omega
  · rw [up_ne (by omega), up_ne (by omega), up_ne (by omega), up_ne (by omega)]; exact e p hp
  · rw [up_ne (by omega), up_ne (by omega), up_ne (by omega)]; exact f p hp
  · obtain ⟨g1, g2, g3, g4, g5⟩ := g q hq
    have hh : (N 24).toInt - 1 ≤ (up N 24 (nI (n + 1)) 24).toInt - 1 := by
      rw [up_eq, hN, n_int (by omega), n_int (by omega)]; omega
    rw [up_ne (show 93 + q ≠ 24 by omega), up_ne (show 100 + q ≠ 24 by omega), up_ne (show 107 + q ≠ 24 by omega), up_ne (show 114 + q ≠ 24 by omega)]
    exact ⟨g1.mono hh, g2.mono hh, g3, g4, g5⟩
theorem sp_plc_pr {N R : Nat → Int32} (h : sp_pr N R) (hq : (N 25).toNatClampNeg ≤ 7) {n : Nat} (hn : n < 12) (a b c : Int32) : sp_pr (sp_plc N n a b c) (r_plc R n a b c) := by
  unfold sp_plc r_plc
  have e : ∀ k v (f : Nat → Int32), k ≠ 25 → up f k v 25 = f 25 := fun k v f hk => up_ne (Ne.symm hk)
  refine sp_pr.upd (sp_pr.upd (sp_pr.upd (sp_pr.upd (sp_pr.upd h hq (by omega) ?_ (by omega) _) ?_ (by omega) ?_ (by omega) _) ?_ (by omega) ?_ (by omega) _) ?_ (by omega) ?_ (by omega) _) ?_ (by omega) rfl (by omega) _
  · rw [tr_27 hn]
  · rw [e _ _ _ (by omega)]; exact hq
  · rw [tr_39 hn]; omega
  · rw [e _ _ _ (by omega), e _ _ _ (by omega)]; exact hq
  · rw [tr_51 hn]; omega
  · rw [e _ _ _ (by omega), e _ _ _ (by omega), e _ _ _ (by omega)]; exact hq
  · rw [tr_4 hn]; omega
  · rw [e _ _ _ (by omega), e _ _ _ (by omega), e _ _ _ (by omega), e _ _ _ (by omega)]; exact hq
theorem hi_eq {B j : Nat} {x : Int} (h : sp_hi B j = x) : sp_hi B j = x := h
theorem sp_plc_rg {B : Nat} {N : Nat → Int32} (h : sp_rg B N) {n : Nat} (hN : N 23 = nI n) (hn : n < 12) {a b c : Nat} (ha : a ≤ 3) (hb : b ≤ 99) (hc : c ≤ 20) : sp_rg B (sp_plc N n (nI a) (nI b) (nI c)) := by
  unfold sp_plc
  have lo : ∀ j, j ≠ 17 ∧ j ≠ 18 ∧ j ≠ 19 → sp_lo j = 0 := fun j hj => by unfold sp_lo; rw [if_neg (by omega)]
  refine sp_rg.cnt23 (sp_rg.upd (sp_rg.upd (sp_rg.upd (sp_rg.upd h (by omega) (fun _ => ?_)) (by omega) (fun _ => ?_)) (by omega) (fun _ => ?_)) (by omega) (fun _ => ?_)) ?_ hn
  · rw [sp_in_nI (by omega), lo _ (by omega), show sp_hi B (27 + n) = 3 by unfold sp_hi; simp (disch := omega) only [if_true, if_false, or_false, false_or, or_true, true_or, and_true, true_and, and_false, false_and, not_true_eq_false, not_false_eq_true, Option.bind_some, Option.bind_none, reduceIte, ltT, ltF, leT, leF, eqT, eqF]]; omega
  · rw [sp_in_nI (by omega), lo _ (by omega), show sp_hi B (39 + n) = 99 by unfold sp_hi; simp (disch := omega) only [if_true, if_false, or_false, false_or, or_true, true_or, and_true, true_and, and_false, false_and, not_true_eq_false, not_false_eq_true, Option.bind_some, Option.bind_none, reduceIte, ltT, ltF, leT, leF, eqT, eqF]]; omega
  · rw [sp_in_nI (by omega), lo _ (by omega), show sp_hi B (51 + n) = 20 by unfold sp_hi; simp (disch := omega) only [if_true, if_false, or_false, false_or, or_true, true_or, and_true, true_and, and_false, false_and, not_true_eq_false, not_false_eq_true, Option.bind_some, Option.bind_none, reduceIte, ltT, ltF, leT, leF, eqT, eqF]]; omega
  · show sp_in (nI 0) _ _
    rw [sp_in_nI (by omega), lo _ (by omega), show sp_hi B (4 + n) = B by unfold sp_hi; simp (disch := omega) only [if_true, if_false, or_false, false_or, or_true, true_or, and_true, true_and, and_false, false_and, not_true_eq_false, not_false_eq_true, Option.bind_some, Option.bind_none, reduceIte, ltT, ltF, leT, leF, eqT, eqF]]; omega
  · rw [up_ne (by omega), up_ne (by omega), up_ne (by omega), up_ne (by omega)]; exact hN
theorem r_plc_law {R : Nat → Int32} {n : Nat} (hn : n < 12) (a b c : Int32) {j : Nat} (hj : j = 4 ∨ j = 5 ∨ (150 ≤ j ∧ j < 5550)) : r_plc R n a b c j = R j := by
  unfold r_plc
  rw [up_ne (by omega), up_ne (by omega), up_ne (by omega), up_ne (by omega), up_ne (by omega)]
theorem az_i_self (M : az_M) (k j : Nat) : az_i M k j (M.1 k j) = M := by
  rw [az_i_ro]
  have e : up (M.1 k) j (M.1 k j) = M.1 k := by
    funext i
    rw [up_at]
    split
    · rename_i h; rw [h]
    · rfl
  rw [e, ro_self]
theorem p_settled5 (M : az_M) : f_X12_settled (-5) M = some (-5, p_rf M (-5) 5) := by
  show ((f_X12_tell (-5) (az_i M 40 8 (M.1 40 8))).bind _) = _
  rw [az_i_self]; rfl
theorem p_settled1 (M : az_M) : f_X12_settled (-1) M = some (-1, p_rf M (-1) 1) := by
  show ((f_X12_tell (-1) (az_i M 40 8 (M.1 40 8))).bind _) = _
  rw [az_i_self]; rfl
theorem ob_place : Ob_place az_Inv sp_G := by
  intro m Z M a1 a2 a3 _ h
  obtain ⟨hp, hg⟩ := h.2.2.1
  obtain ⟨n, hn, _, hn2⟩ := hg.2.2.2.1.1.nat (by decide) (by decide)
  have h42 : M.1 42 0 = nI n := hp.2.2.2.1.1.symm.trans hn
  rcases plc_cases a1 a2 a3 with ⟨x, y, z, hx, hy, hz, rfl, rfl, rfl⟩ | hb
  · by_cases hf : n < 12
    · refine ⟨nI n, az_i (az_i (az_i (ro M 2 (sp_plc (M.1 2) n (nI x) (nI y) (nI z))) 7 3 0) 0 12 0) 34 13 0, az_i (az_i (ro (az_i (az_i (az_i (az_i (ro M 2 (sp_plc (M.1 2) n (nI x) (nI y) (nI z))) 7 3 0) 0 12 0) 34 13 0) 40 0 0) 42 (r_plc (M.1 42) n (nI x) (nI y) (nI z))) 40 8 0) 40 1 0, ?_, ?_, ?_⟩
      · unfold f_X11_place
        rw [c_isPlace hx hy hz, p_addPlace (o := 1) hn hf]
        show (if (M.1 2 23) < 12 then _ else _) = _
        rw [hn, if_pos (show nI n < 12 from nI_lt hf (by decide))]; rfl
      · unfold f_X12_place
        rw [p_place1 (n := n) ?_ hf hx hy hz]
        · show ((f_X12_settled (nI n) _).bind _) = _
          unfold f_X12_settled f_X12_settled_13
          rw [if_pos (nI_pos' (by omega)), p_tell (nI_pos' (by omega))]; rfl
        · exact h42
      · refine h.anew ?_ ?_ ?_ ⟨rfl, rfl, rfl, rfl, rfl, rfl, rfl, rfl⟩ ⟨rfl, rfl, rfl, rfl⟩ ⟨rfl, rfl⟩ rfl (fun q hq => ?_) rfl
        · exact sp_plc_pr hp hg.q7 hf _ _ _
        · exact sp_plc_rg (hg.mono (sp_B_mono m)) hn hf hx hy hz
        · exact fun j hj => r_plc_law hf _ _ _ hj
        · rw [gi_k (by omega), gi_k (by omega), ro_ne (by omega), gi_k (by omega), gi_k (by omega), gi_k (by omega), gi_k (by omega), ro_ne (by omega)]
    · have h12 : n = 12 := by omega
      subst h12
      refine ⟨-5, p_rc M (-5) 3, _, ?_, ?_, h.refuse (v := -5) (j := 3) (j' := 5) (by simp)⟩
      · unfold f_X11_place
        rw [c_isPlace hx hy hz]
        show (if (M.1 2 23) < 12 then _ else _) = _
        rw [hn]; rfl
      · unfold f_X12_place
        rw [p_place1_full (M := az_i (p_rc M (-5) 3) 40 0 0) h42 hx hy hz, Option.bind_some, p_settled5]; rfl
  · refine ⟨-1, p_rc M (-1) 0, _, ?_, ?_, h.refuse (v := -1) (j := 0) (j' := 1) (by simp)⟩
    · unfold f_X11_place
      rw [c_isPlace_bad hb]; rfl
    · unfold f_X12_place
      rw [p_place1_bad hb, Option.bind_some, p_settled1]; rfl
