/-! a shot: the reference -/
def rNote (R : Nat → Int32) (n : Nat) (v : Int32) : Nat → Int32 := if n < 24 then up (up R (123 + n) v) 3 (nI (n + 1)) else up (up (up (cpy R R 124 123 23) 3 (nI 23)) (123 + 23) v) 3 (nI 24)
theorem p_note55 {n : Nat} {M : az_M} (hn : M.1 42 3 = nI n) (h : n < 24) (v : Int32) : f_X12_note_55 sp_G v M = some (ro M 42 (up (up (M.1 42) (123 + n) v) 3 (nI (n + 1)))) := by
  unfold f_X12_note_55
  simp (disch := omega) only [n_addl, n_addr, n_add, n_mull, n_mulr, n_mul, n_sub, n_subr, n_subl, n_cl, n_lt, n_le, n_eq, n_ltl, n_ltr, n_lel, n_ler, n_eqr, n_eql, n_nm1, n_m1n, n_m1lt, n_ltm1, l_ltr, l_ltl, l_ler, l_lel, l_m1lt, l_nneg, if_true, if_false, or_false, false_or, or_true, true_or, and_true, true_and, and_false, false_and, not_true_eq_false, not_false_eq_true, Option.bind_some, Option.bind_none, reduceIte, ltT, ltF, leT, leF, eqT, eqF, nI_lt0, hn, az_i_ro, ro_eq, ro_ro, up_ne]
theorem p_note {n : Nat} {M : az_M} (hn : M.1 42 3 = nI n) (h : n ≤ 24) (v : Int32) : f_X12_note sp_G v M = some (ro M 42 (rNote (M.1 42) n v)) := by
  unfold f_X12_note rNote
  by_cases h24 : n < 24
  · rw [if_pos h24, hn, if_neg (by intro hE; have := (n_eq (a := n) (b := 24) (by omega) (by omega)).mp hE; omega)]
    exact p_note55 hn h24 v
  · obtain rfl : n = 24 := by omega
    rw [if_neg h24, hn, if_pos (show nI 24 = 24 from rfl)]
    have e : f_X12_note_13 sp_G sp_G v (nI 0) M = f_X12_note_55 sp_G v (ro M 42 (up (cpy (M.1 42) (M.1 42) 124 123 23) 3 (nI 23))) := by
      refine (lp_fill (f := fun F i M => f_X12_note_13 sp_G F v i M) (fin := fun M => f_X12_note_55 sp_G v (az_i M 42 3 (M.1 42 3 - 1))) (M := M) (k := 42) (d := 123) (n := 23) (g := fun i => M.1 42 (124 + i)) (F := sp_G) ?_ ?_ (by decide)).trans ?_
      · intro F i h hi hh
        show f_X12_note_13 sp_G (F + 1) v (nI i) _ = f_X12_note_13 sp_G F v (nI (i + 1)) _
        rw [f_X12_note_13]
        simp (disch := omega) only [n_addl, n_addr, n_add, n_mull, n_mulr, n_mul, n_sub, n_subr, n_subl, n_cl, n_lt, n_le, n_eq, n_ltl, n_ltr, n_lel, n_ler, n_eqr, n_eql, n_nm1, n_m1n, n_m1lt, n_ltm1, l_ltr, l_ltl, l_ler, l_lel, l_m1lt, l_nneg, if_true, if_false, or_false, false_or, or_true, true_or, and_true, true_and, and_false, false_and, not_true_eq_false, not_false_eq_true, Option.bind_some, Option.bind_none, reduceIte, ltT, ltF, leT, leF, eqT, eqF, nI_lt0, az_i_ro, ro_eq, ro_ro]
        rw [hh _ (by omega), show 123 + i + 1 = 124 + i by omega]
      · intro F h
        show f_X12_note_13 sp_G (F + 1) v (nI 23) _ = _
        rw [f_X12_note_13]
        simp (disch := omega) only [n_addl, n_addr, n_add, n_mull, n_mulr, n_mul, n_sub, n_subr, n_subl, n_cl, n_lt, n_le, n_eq, n_ltl, n_ltr, n_lel, n_ler, n_eqr, n_eql, n_nm1, n_m1n, n_m1lt, n_ltm1, l_ltr, l_ltl, l_ler, l_lel, l_m1lt, l_nneg, if_true, if_false, or_false, false_or, or_true, true_or, and_true, true_and, and_false, false_and, not_true_eq_false, not_false_eq_true, Option.bind_some, Option.bind_none, reduceIte, ltT, ltF, leT, leF, eqT, eqF, nI_lt0]
      · refine congrArg (f_X12_note_55 sp_G v) ?_
        rw [az_i_ro, ro_eq, ro_ro]
        show ro M 42 (up (cpy (M.1 42) (M.1 42) 124 123 23) 3 (cpy (M.1 42) (M.1 42) 124 123 23 3 - 1)) = _
        rw [cpy_out (by omega), hn]; rfl
    have h0 : nI 0 = 0 := rfl
    rw [h0] at e
    rw [e, p_note55 (n := 23) (by rw [ro_eq, up_eq]) (by decide), ro_eq, ro_ro]
theorem note_pr {N R : Nat → Int32} (h : sp_pr N R) (hq : (N 25).toNatClampNeg ≤ 7) {n : Nat} (hn : N 26 = nI n) (h24 : n ≤ 24) (v : Int32) : sp_pr (sp_note N v) (rNote R n v) := by
  unfold sp_note rNote
  rw [hn]
  by_cases hh : n < 24
  · rw [if_pos hh, if_pos (by rw [show ((24 : Int32)) = nI 24 from rfl, n_lt (by omega) (by omega)]; exact hh), n_cl (by omega), n_addr]
    have h1 := h.upd hq (a := 121 + n) (b := 123 + n) (by omega) (by rw [tr_121 hh]) (by omega) v
    refine h1.upd ?_ (a := 26) (b := 3) (by omega) rfl (by omega) _
    rw [up_ne (by omega)]; exact hq
  · obtain rfl : n = 24 := by omega
    rw [if_neg hh, if_neg (by decide)]
    have e25 : cpy N N 122 121 23 25 = N 25 := cpy_out (by omega)
    have h0 : sp_pr (cpy N N 122 121 23) (cpy R R 124 123 23) := by
      refine sp_pr.mk (by rw [e25]; exact hq) (fun j hj hl => ?_)
      rw [e25] at hl
      by_cases h1 : 121 ≤ j
      · obtain ⟨i, rfl⟩ : ∃ i, j = 121 + i := ⟨j - 121, by omega⟩
        rw [tr_121 (by omega)]
        by_cases h2 : i < 23
        · rw [cpy_in (by omega), cpy_in (by omega), show 122 + (121 + i - 121) = 121 + (i + 1) by omega, show 124 + (123 + i - 123) = 123 + (i + 1) by omega]
          exact h.2.2.2.2.2.2.2 (i + 1) (by omega)
        · rw [cpy_out (by omega), cpy_out (by omega)]; exact h.2.2.2.2.2.2.2 i (by omega)
      · have hne : ∀ i, i < 24 → sp_tr j ≠ 123 + i := fun i hi => by
          rw [← tr_121 hi]; exact sp_tr_inj j hj (121 + i) (by omega) (by omega)
        rw [cpy_out (by omega), cpy_out (by
          by_cases h3 : sp_tr j < 123
          · exact Or.inl h3
          · by_cases h4 : sp_tr j < 146
            · exact absurd (show sp_tr j = 123 + (sp_tr j - 123) by omega) (hne _ (by omega))
            · exact Or.inr (by omega))]
        exact h.at hq hj hl
    have e26 : ∀ v, (up (cpy N N 122 121 23) 26 v) 25 = N 25 := fun v => by rw [up_ne (by omega)]; exact e25
    have h1 := h0.upd (by rw [e25]; exact hq) (a := 26) (b := 3) (by omega) rfl (by omega) 23
    have h2 := h1.upd (by rw [e26]; exact hq) (a := 121 + 23) (b := 123 + 23) (by omega) rfl (by omega) v
    exact h2.upd (by rw [up_ne (by omega), e26]; exact hq) (a := 26) (b := 3) (by omega) rfl (by omega) 24
theorem n_quot {dp s : Nat} (h1 : dp ≤ 20) (h2 : 1 ≤ s) (h3 : s ≤ 9) : (nI dp + nI s - 1) / nI s = nI ((dp + s - 1) / s) ∧ (dp + s - 1) / s < 1000 := by
  have : (dp + s - 1) / s ≤ dp + s - 1 := Nat.div_le_self _ _
  refine ⟨?_, by omega⟩
  rw [n_add, n_subr (by omega), n_div (by omega) (by omega)]
theorem dig_nat {N : Nat → Int32} {q s dp day r : Nat} (hs : N 19 = nI s ∧ 1 ≤ s ∧ s ≤ 9) (hdp : N (51 + q) = nI dp ∧ dp ≤ 20) (hd : N 16 = nI day ∧ day ≤ 999) (hr : N 2 = nI r ∧ r ≤ 99) : sp_dig N q = if N (27 + q) = 2 then up N 3 1 else dN N day r ((dp + s - 1) / s) := by
  obtain ⟨e, e2⟩ := n_quot hdp.2 hs.2.1 hs.2.2
  unfold sp_dig
  rw [hdp.1, hs.1, e, sp_days_nat hd.1 hr.1 hd.2 hr.2 (by omega)]
/-- the reference digs -/
def rDig (R : Nat → Int32) (q day r k : Nat) : Nat → Int32 := if R (17 + 4 * q) = 2 then up R 14 1 else dR R day r k
theorem dig_pr {N R : Nat → Int32} (h : sp_pr N R) (hq7 : (N 25).toNatClampNeg ≤ 7) {q s dp day r : Nat} (hq : q < 12) (hs : N 19 = nI s ∧ 1 ≤ s ∧ s ≤ 9) (hdp : N (51 + q) = nI dp ∧ dp ≤ 20) (hd : N 16 = nI day ∧ day ≤ 999) (hr : N 2 = nI r ∧ r ≤ 99) : sp_pr (sp_dig N q) (rDig R q day r ((dp + s - 1) / s)) := by
  rw [dig_nat hs hdp hd hr]
  unfold rDig
  rw [← (h.2.2.2.2.1 q hq).1]
  by_cases e : N (27 + q) = 2
  · rw [if_pos e, if_pos e]; exact h.upd hq7 (a := 3) (b := 14) (by omega) rfl (by omega) 1
  · rw [if_neg e, if_neg e]; exact dN_pr h hq7 _ _ _
theorem dig_rg {B : Nat} {N : Nat → Int32} (h : sp_rg B N) (hB : B ≤ 1000000000) {q : Nat} (hq : q < 12) : sp_rg B (sp_dig N q) := by
  obtain ⟨w, f, d, a1, a2, s, dp, day, r, n, S⟩ := shotN h hB none hq
  rw [dig_nat S.s S.dp S.day S.r]
  split
  · exact h.upd (a := 3) (by decide) (fun _ => by show (0 : Int) ≤ 1 ∧ (1 : Int) ≤ 1; omega)
  · exact dN_rg h S.day.2 S.r.2 _
theorem note_rg {B : Nat} {N : Nat → Int32} (h : sp_rg B N) (v : Int32) : sp_rg B (sp_note N v) := by
  obtain ⟨n, hn, _, hn2⟩ := h.2.2.2.1.2.2.2.nat (by decide) (by decide)
  unfold sp_note
  rw [hn]
  by_cases hh : n < 24
  · rw [if_pos (by rw [show ((24 : Int32)) = nI 24 from rfl, n_lt (by omega) (by omega)]; exact hh), n_cl (by omega), n_addr]
    refine (h.upd (a := 121 + n) (by omega) (fun h => absurd h (by omega))).upd (a := 26) (by decide) (fun _ => ?_)
    rw [sp_in_nI (by omega)]
    show (0 : Int) ≤ _ ∧ _ ≤ (24 : Int)
    omega
  · obtain rfl : n = 24 := by omega
    rw [if_neg (by decide)]
    have h0 : sp_rg B (cpy N N 122 121 23) := by
      have K : ∀ j, j < 121 → cpy N N 122 121 23 j = N j := fun j hj => cpy_out (by omega)
      have hq := h.q7
      obtain ⟨⟨a0, a1, a2, a3⟩, ⟨b0, b1, b2, b3, b4⟩, ⟨c1, c2⟩, ⟨d0, d1, d2, d3⟩, e, f, g⟩ := h
      unfold sp_rg
      rw [K 0 (by decide), K 1 (by decide), K 2 (by decide), K 3 (by decide), K 16 (by decide), K 17 (by decide), K 18 (by decide), K 19 (by decide), K 20 (by decide), K 21 (by decide), K 22 (by decide), K 23 (by decide), K 24 (by decide), K 25 (by decide), K 26 (by decide)]
      refine ⟨⟨a0, a1, a2, a3⟩, ⟨b0, b1, b2, b3, b4⟩, ⟨c1, c2⟩, ⟨d0, d1, d2, d3⟩, fun p hp => ?_, fun p hp => ?_, fun q hq => ?_⟩
      · rw [K _ (by omega), K _ (by omega), K _ (by omega), K _ (by omega)]; exact e p hp
      · rw [K _ (by omega), K _ (by omega), K _ (by omega)]; exact f p hp
      · rw [K _ (by omega), K _ (by omega), K _ (by omega), K _ (by omega)]; exact g q hq
    exact ((h0.upd (a := 26) (by decide) (fun _ => by show (0 : Int) ≤ 23 ∧ (23 : Int) ≤ 24; omega)).upd (a := 121 + 23) (by decide) (fun h => absurd h (by omega))).upd (a := 26) (by decide) (fun _ => by show (0 : Int) ≤ 24 ∧ (24 : Int) ≤ 24; omega)
/-- lead and weight together -/
def sp_wl (B : Nat) (N : Nat → Int32) : Prop := (N 21).toInt + (N 0).toInt ≤ B ∧ (N 22).toInt + (N 0).toInt ≤ B
theorem hit_rg {B : Nat} {N : Nat → Int32} (h : sp_rg B N) (hB : B + 1 ≤ 1000000000) (l : Option sp_L) {q : Nat} (hq : q < 12) : sp_rg (B + 1) (sp_hit l N q) := by
  obtain ⟨w, f, d, a1, a2, s, dp, day, r, n, S⟩ := shotN h (by omega) l hq
  rw [S.hit]
  have hw := S.w.2
  have hd := S.d.2
  refine (((h.mono (Nat.le_succ B)).upd (a := 0) (by decide) (fun _ => ?_)).upd (a := 1) (by decide) (fun _ => ?_)).upd (a := 4 + q) (by omega) (fun _ => ?_)
  · rw [sp_in_nI (by omega)]; show (0 : Int) ≤ _ ∧ _ ≤ (999 : Int); omega
  · rw [sp_in_nI (by omega)]; show (0 : Int) ≤ _ ∧ _ ≤ (99 : Int); omega
  · rw [sp_in_nI (by omega)]
    have e1 : sp_lo (4 + q) = 0 := by unfold sp_lo; rw [if_neg (by omega)]
    have e2 : sp_hi (B + 1) (4 + q) = (B + 1 : Nat) := by
      unfold sp_hi; rw [if_neg (by omega), if_neg (by omega), if_neg (by omega), if_pos (by omega)]
    rw [e1, e2]; omega
theorem lead_nat {B : Nat} {N : Nat → Int32} (h : sp_rg B N) (hB : B ≤ 1000000000) {c : Nat} (hc : c ≤ 1) : ∃ L, N (21 + c) = nI L ∧ L ≤ B := by
  rcases (show c = 0 ∨ c = 1 by omega) with rfl | rfl
  · obtain ⟨L, h1, _, h2⟩ := h.2.2.1.1.nat (by decide) (by omega)
    exact ⟨L, h1, by omega⟩
  · obtain ⟨L, h1, _, h2⟩ := h.2.2.1.2.nat (by decide) (by omega)
    exact ⟨L, h1, by omega⟩
theorem sp_rg.wl {B : Nat} {N : Nat → Int32} (h : sp_rg B N) : sp_wl (B + 999) N := by
  have h1 := h.1.1.2
  have h2 := h.2.2.1.1.2
  have h3 := h.2.2.1.2.2
  constructor <;> omega
theorem sp_wl.mono {B B' : Nat} {N : Nat → Int32} (h : sp_wl B N) (hB : B ≤ B') : sp_wl B' N := ⟨by have := h.1; omega, by have := h.2; omega⟩
theorem fire_rg {B : Nat} {N : Nat → Int32} (h : sp_rg B N) (hw : sp_wl B N) (hB : B + 1 ≤ 1000000000) (l : Option sp_L) {q c : Nat} (hq : q < 12) (hc : c ≤ 1) : sp_rg (B + 1) (sp_fire l N c q) ∧ sp_wl (B + 1) (sp_fire l N c q) := by
  obtain ⟨w, f, d, a1, a2, s, dp, day, r, n, S⟩ := shotN h (by omega) l hq
  obtain ⟨L, hL, hL2⟩ := lead_nat h (by omega) hc
  have hw2 := S.w.2
  have hh := hit_rg h hB l hq
  have hL3 : L + w ≤ B := by
    rcases (show c = 0 ∨ c = 1 by omega) with rfl | rfl
    · have := hw.1
      rw [show N 21 = nI L from hL, S.w.1, n_int (by omega), n_int (by omega)] at this; omega
    · have := hw.2
      rw [show N 22 = nI L from hL, S.w.1, n_int (by omega), n_int (by omega)] at this; omega
  have eh : sp_hit l N q (21 + c) = nI L := by unfold sp_hit; rw [up_ne (by omega), up_ne (by omega), up_ne (by omega)]; exact hL
  have el : sp_lead (sp_hit l N q) c (sp_worn l N q) = up (sp_hit l N q) (21 + c) (nI (L + min a1 w)) := by
    unfold sp_lead; rw [eh, S.worn, n_add]
  have hl : sp_rg (B + 1) (sp_lead (sp_hit l N q) c (sp_worn l N q)) := by
    rw [el]
    refine hh.upd (a := 21 + c) (by omega) (fun _ => ?_)
    rw [sp_in_nI (by omega)]
    have e1 : sp_lo (21 + c) = 0 := by unfold sp_lo; rw [if_neg (by omega)]
    have e2 : sp_hi (B + 1) (21 + c) = (B + 1 : Nat) := by
      unfold sp_hi
      simp (disch := omega) only [if_true, if_false, or_false, false_or, or_true, true_or, and_true, true_and, and_false, false_and, not_true_eq_false, not_false_eq_true, Option.bind_some, Option.bind_none, reduceIte, ltT, ltF, leT, leF, eqT, eqF]
    rw [e1, e2]; omega
  refine ⟨dig_rg (note_rg hl _) (by omega) hq, ?_⟩
  have kd : ∀ N : Nat → Int32, ∀ j, j = 0 ∨ j = 21 ∨ j = 22 → sp_dig N q j = N j := by
    intro N j hj
    unfold sp_dig
    split
    · rw [up_ne (by omega)]
    · unfold sp_days; rw [if_neg (by omega), if_neg (by omega)]
  have kn : ∀ N : Nat → Int32, ∀ v j, j = 0 ∨ j = 21 ∨ j = 22 → sp_note N v j = N j := by
    intro N v j hj
    unfold sp_note
    split
    · rw [up_ne (by omega), up_ne (by omega)]
    · rw [up_ne (by omega), up_ne (by omega), up_ne (by omega), cpy_out (by omega)]
  unfold sp_wl sp_fire
  rw [kd _ 0 (by simp), kd _ 21 (by simp), kd _ 22 (by simp), kn _ _ 0 (by simp), kn _ _ 21 (by simp), kn _ _ 22 (by simp), el]
  have e0 : up (sp_hit l N q) (21 + c) (nI (L + min a1 w)) 0 = nI (w - min a1 w) := by
    rw [up_ne (by omega), S.hit, up_ne (by omega), up_ne (by omega), up_eq]
  have eo : ∀ j, j = 21 ∨ j = 22 → j ≠ 21 + c → up (sp_hit l N q) (21 + c) (nI (L + min a1 w)) j = N j := by
    intro j hj hne
    rw [up_ne hne]; unfold sp_hit; rw [up_ne (by omega), up_ne (by omega), up_ne (by omega)]
  rw [e0, n_int (by omega)]
  obtain ⟨w1, w2⟩ := hw
  rw [S.w.1, n_int (by omega)] at w1 w2
  rcases (show c = 0 ∨ c = 1 by omega) with rfl | rfl
  · rw [show up (sp_hit l N q) (21 + 0) (nI (L + min a1 w)) 21 = nI (L + min a1 w) from up_eq _ _ _, eo 22 (by simp) (by omega), n_int (by omega)]
    omega
  · rw [show up (sp_hit l N q) (21 + 1) (nI (L + min a1 w)) 22 = nI (L + min a1 w) from up_eq _ _ _, eo 21 (by simp) (by omega), n_int (by omega)]
    omega
