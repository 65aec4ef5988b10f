/-! questions to the law -/
def sp_cf (M M' : az_M) : Prop := (∀ k, k ≠ 14 → k ≠ 20 → M'.1 k = M.1 k) ∧ M'.2 = M.2
theorem sp_cf.refl (M : az_M) : sp_cf M M := ⟨fun _ _ _ => rfl, rfl⟩
theorem sp_cf.trans {M M' M'' : az_M} (h : sp_cf M M') (g : sp_cf M' M'') : sp_cf M M'' := ⟨fun k h1 h2 => (g.1 k h1 h2).trans (h.1 k h1 h2), g.2.trans h.2⟩
abbrev ClsAt (Z : az_S × Nat) (B o : Nat) (inF : Int32) (ls : Nat → sp_L) (N : Nat → Int32) (M : az_M) : Prop := (∃ R, sp_bk Z M.1 (M.2.2 4) (M.1 3 1) (M.1 3 2) R ls) ∧ (M.1 3 2 = inF) ∧ (M.1 (o + 1) = N) ∧ (sp_rg B N) ∧ (B ≤ 1000000000) ∧ (o + 1 ≠ 20 ∧ o + 1 ≠ 14)
theorem ClsAt.bk {Z : az_S × Nat} {B o : Nat} {inF : Int32} {ls : Nat → sp_L} {N : Nat → Int32} {M : az_M} (h : ClsAt Z B o inF ls N M) : ∃ R, sp_bk Z M.1 (M.2.2 4) (M.1 3 1) (M.1 3 2) R ls := h.1
theorem ClsAt.inF {Z : az_S × Nat} {B o : Nat} {inF : Int32} {ls : Nat → sp_L} {N : Nat → Int32} {M : az_M} (h : ClsAt Z B o inF ls N M) : M.1 3 2 = inF := h.2.1
theorem ClsAt.row {Z : az_S × Nat} {B o : Nat} {inF : Int32} {ls : Nat → sp_L} {N : Nat → Int32} {M : az_M} (h : ClsAt Z B o inF ls N M) : M.1 (o + 1) = N := h.2.2.1
theorem ClsAt.rg {Z : az_S × Nat} {B o : Nat} {inF : Int32} {ls : Nat → sp_L} {N : Nat → Int32} {M : az_M} (h : ClsAt Z B o inF ls N M) : sp_rg B N := h.2.2.2.1
theorem ClsAt.hB {Z : az_S × Nat} {B o : Nat} {inF : Int32} {ls : Nat → sp_L} {N : Nat → Int32} {M : az_M} (h : ClsAt Z B o inF ls N M) : B ≤ 1000000000 := h.2.2.2.2.1
theorem ClsAt.ho {Z : az_S × Nat} {B o : Nat} {inF : Int32} {ls : Nat → sp_L} {N : Nat → Int32} {M : az_M} (h : ClsAt Z B o inF ls N M) : o + 1 ≠ 20 ∧ o + 1 ≠ 14 := h.2.2.2.2.2
theorem ClsAt.cf {Z : az_S × Nat} {B o : Nat} {inF : Int32} {ls : Nat → sp_L} {N : Nat → Int32} {M M' : az_M} (h : ClsAt Z B o inF ls N M) (f : sp_cf M M') : ClsAt Z B o inF ls N M' := by
  obtain ⟨⟨R, bk⟩, h1, h2, h3, h4, h5⟩ := h
  refine ⟨⟨R, ?_⟩, ?_, ?_, h3, h4, h5⟩
  · rw [f.2, f.1 3 (by decide) (by decide)]; exact bk.cong (fun k hk => f.1 k (by omega) (by omega))
  · rw [f.1 3 (by decide) (by decide)]; exact h1
  · rw [f.1 (o + 1) h5.2 h5.1]; exact h2
theorem c_ask {Z : az_S × Nat} {B o : Nat} {inF : Int32} {ls : Nat → sp_L} {N : Nat → Int32} {M : az_M} (H : ClsAt Z B o inF ls N M) {h q : Nat} (hh : h < 5) (hq : q < 12) {p : Int32} (hp : p = -1 ∨ ∃ k, k < 10 ∧ p = nI k) (hp0 : h = 0 → ∃ k, k < 10 ∧ p = nI k) : ∃ M', f_X8_ask Z sp_G o (nI h) p (nI q) M = some (sp_ask (sp_law inF ls) N h p (nI q), M') ∧ sp_cf M M' := by
  obtain ⟨⟨R, bk⟩, h1, h2, h3, h4, h5⟩ := H
  obtain ⟨M', a, b, c⟩ := p_ask h5.1 h5.2 hh hq hp hp0 bk (by rw [h2]; exact h3) h4
  rw [h1, h2] at a
  exact ⟨M', a, b, c⟩
theorem quar {B : Nat} {N : Nat → Int32} (h : sp_rg B N) {q : Nat} (hq : q < (N 25).toNatClampNeg) : ∃ a b w d, N (93 + q) = nI a ∧ a < 10 ∧ N (100 + q) = nI b ∧ b < 10 ∧ a ≠ b ∧ N (107 + q) = nI w ∧ w < 12 ∧ N (114 + q) = nI d ∧ d ≤ 999 := by
  obtain ⟨_, _, _, ⟨d0, d1, d2, d3⟩, e, f, g⟩ := h
  obtain ⟨g1, g2, g3, g4, g5⟩ := g q hq
  have x1 := d1.2
  have x0 := d0.2
  obtain ⟨a, ha, _, ha2⟩ := g1.nat (by omega) (by omega)
  obtain ⟨b, hb, _, hb2⟩ := g2.nat (by omega) (by omega)
  obtain ⟨w, hw, _, hw2⟩ := g4.nat (by omega) (by omega)
  obtain ⟨d, hd, _, hd2⟩ := g5.nat (by omega) (by omega)
  refine ⟨a, b, w, d, ha, by omega, hb, by omega, ?_, hw, by omega, hd, by omega⟩
  rintro rfl
  exact g3 (ha.trans hb.symm)
def sp_had (l : Option sp_L) (N : Nat → Int32) (q : Nat) : Int32 := if sp_can N = 0 then 0 else if sp_hurt N (N (93 + q)).toNatClampNeg = 0 then (if sp_hurt N (N (100 + q)).toNatClampNeg = 0 then (if sp_ask l N 4 (N (93 + q)) (N (107 + q)) = 0 then (if sp_ask l N 4 (N (100 + q)) (N (107 + q)) = 0 then 1 else 0) else 0) else 0) else 0
theorem sp_had01 (l : Option sp_L) (N : Nat → Int32) (q : Nat) : sp_had l N q = 0 ∨ sp_had l N q = 1 := by
  unfold sp_had
  repeat' split
  all_goals simp
theorem p_canBeHad {Z : az_S × Nat} {B o : Nat} {inF : Int32} {ls : Nat → sp_L} {N : Nat → Int32} {M : az_M} (H : ClsAt Z B o inF ls N M) {q : Nat} (hq : q < (N 25).toNatClampNeg) : ∃ M', f_X8_canBeHad Z sp_G o (nI q) M = some (sp_had (sp_law inF ls) N q, M') ∧ sp_cf M M' := by
  have h7 := H.rg.q7
  obtain ⟨a, b, w, d, e1, ha, e2, hb, hab, e3, hw, e4, hd⟩ := quar H.rg hq
  have hrow := H.row
  unfold f_X8_canBeHad f_X8_canBeHad_85 f_X8_canBeHad_86
  rw [p_canBeFired, hrow]
  simp (disch := omega) only [n_addl, n_addr, n_add, n_mull, n_mulr, n_mul, n_sub, n_subr, n_subl, n_cl, n_lt, n_le, n_eq, n_ltl, n_ltr, n_lel, n_ler, n_eqr, n_eql, n_nm1, n_m1n, n_m1lt, n_ltm1, l_ltr, l_ltl, l_ler, l_lel, l_m1lt, l_nneg, if_true, if_false, or_false, false_or, or_true, true_or, and_true, true_and, and_false, false_and, not_true_eq_false, not_false_eq_true, Option.bind_some, Option.bind_none, reduceIte, ltT, ltF, leT, leF, eqT, eqF, nI_lt0]
  rw [e1, e2, e3, p_isHurt ha, p_isHurt hb, hrow]
  simp only [Option.bind_some]
  unfold sp_had
  rw [e1, e2, e3, n_cl (k := a) (by omega), n_cl (k := b) (by omega)]
  by_cases c1 : sp_can N = 0
  · rw [if_pos c1, if_pos c1]; exact ⟨M, rfl, sp_cf.refl M⟩
  · rw [if_neg c1, if_neg c1]
    by_cases c2 : sp_hurt N a = 0
    · rw [if_pos c2, if_pos c2]
      by_cases c3 : sp_hurt N b = 0
      · rw [if_pos c3, if_pos c3]
        obtain ⟨M1, f1, g1⟩ := c_ask H (h := 4) (by decide) hw (p := nI a) (Or.inr ⟨a, ha, rfl⟩) (fun h => absurd h (by decide))
        rw [show f_X8_ask Z sp_G o 4 (nI a) (nI w) M = _ from f1, Option.bind_some]
        by_cases c4 : sp_ask (sp_law inF ls) N 4 (nI a) (nI w) = 0
        · rw [if_pos c4, if_pos c4]
          obtain ⟨M2, f2, g2⟩ := c_ask (H.cf g1) (h := 4) (by decide) hw (p := nI b) (Or.inr ⟨b, hb, rfl⟩) (fun h => absurd h (by decide))
          rw [show f_X8_ask Z sp_G o 4 (nI b) (nI w) _ = _ from f2, Option.bind_some]
          by_cases c5 : sp_ask (sp_law inF ls) N 4 (nI b) (nI w) = 0
          · rw [if_pos c5, if_pos c5]; exact ⟨M2, rfl, g1.trans g2⟩
          · rw [if_neg c5, if_neg c5]; exact ⟨M2, rfl, g1.trans g2⟩
        · rw [if_neg c4, if_neg c4]; exact ⟨M1, rfl, g1⟩
      · rw [if_neg c3, if_neg c3]; exact ⟨M, rfl, sp_cf.refl M⟩
    · rw [if_neg c2, if_neg c2]; exact ⟨M, rfl, sp_cf.refl M⟩
theorem r_canHave {Z : az_S × Nat} {B : Nat} {inF : Int32} {ls : Nat → sp_L} {N : Nat → Int32} {M : az_M} (H : RefAt Z B inF ls N M) {q : Nat} (hq : q < (N 25).toNatClampNeg) : ∃ M', f_X12_canHave sp_G (nI q) M = some (sp_had (sp_law inF ls) N q, M') ∧ sp_fr M M' := by
  have h7 := H.rg.q7
  obtain ⟨a, b, w, d, e1, ha, e2, hb, hab, e3, hw, e4, hd⟩ := quar H.rg hq
  have oq : ∀ {M : az_M}, sp_pr N (M.1 42) → f_X12_ofQuarrel (nI q) 0 M = some (nI a) ∧ f_X12_ofQuarrel (nI q) 1 M = some (nI b) ∧ f_X12_ofQuarrel (nI q) 2 M = some (nI w) := by
    intro M pr
    have := pr.2.2.2.2.2.2.1 q hq
    refine ⟨(p_ofQuarrel (w := 0) (by omega) (by decide) M).trans ?_, (p_ofQuarrel (w := 1) (by omega) (by decide) M).trans ?_, (p_ofQuarrel (w := 2) (by omega) (by decide) M).trans ?_⟩
    · rw [show 95 + 4 * q + 0 = 95 + 4 * q by omega, ← this.1, e1]
    · rw [show 95 + 4 * q + 1 = 96 + 4 * q by omega, ← this.2.1, e2]
    · rw [show 95 + 4 * q + 2 = 97 + 4 * q by omega, ← this.2.2.1, e3]
  have st : ∀ (F : Nat) (k i : Nat) (M1 : az_M), k < 10 → RefAt Z B inF ls N M1 → f_X12_ofQuarrel (nI q) (nI i) M1 = some (nI k) → i < 2 → ∃ M2, f_X12_canHave_15 sp_G (F + 1) (nI q) (nI w) 1 (nI i) M1 = f_X12_canHave_15 sp_G F (nI q) (nI w) (if sp_hurt N k = 0 then (if sp_ask (sp_law inF ls) N 4 (nI k) (nI w) = 0 then 1 else 0) else 0) (nI (i + 1)) M2 ∧ sp_fr M1 M2 := by
    intro F k i M1 hk H1 ho hi
    rw [f_X12_canHave_15]
    simp (disch := omega) only [n_addl, n_addr, n_add, n_mull, n_mulr, n_mul, n_sub, n_subr, n_subl, n_cl, n_lt, n_le, n_eq, n_ltl, n_ltr, n_lel, n_ler, n_eqr, n_eql, n_nm1, n_m1n, n_m1lt, n_ltm1, l_ltr, l_ltl, l_ler, l_lel, l_m1lt, l_nneg, if_true, if_false, or_false, false_or, or_true, true_or, and_true, true_and, and_false, false_and, not_true_eq_false, not_false_eq_true, Option.bind_some, Option.bind_none, reduceIte, ltT, ltF, leT, leF, eqT, eqF, nI_lt0]
    rw [ho, Option.bind_some, if_neg (by decide), r_isHurt hk H1.pr, Option.bind_some]
    unfold f_X12_canHave_57 f_X12_canHave_58
    by_cases c1 : sp_hurt N k = 0
    · rw [if_pos c1, if_pos c1]
      obtain ⟨M2, a1, a2, a3⟩ := r_barred H1 hw hk
      rw [a1, Option.bind_some]
      by_cases c2 : sp_ask (sp_law inF ls) N 4 (nI k) (nI w) = 0
      · rw [if_pos c2, if_pos c2, n_addr]; exact ⟨M2, rfl, a2⟩
      · rw [if_neg c2, if_neg c2, n_addr]; exact ⟨M2, rfl, a2⟩
    · rw [if_neg c1, if_neg c1, n_addr]; exact ⟨M1, rfl, sp_fr.refl M1⟩
  have st0 : ∀ (F : Nat) (i : Nat) (v : Int32) (M1 : az_M), f_X12_ofQuarrel (nI q) (nI i) M1 = some v → i < 2 → f_X12_canHave_15 sp_G (F + 1) (nI q) (nI w) 0 (nI i) M1 = f_X12_canHave_15 sp_G F (nI q) (nI w) 0 (nI (i + 1)) M1 := by
    intro F i v M1 ho hi
    rw [f_X12_canHave_15]
    simp (disch := omega) only [n_addl, n_addr, n_add, n_mull, n_mulr, n_mul, n_sub, n_subr, n_subl, n_cl, n_lt, n_le, n_eq, n_ltl, n_ltr, n_lel, n_ler, n_eqr, n_eql, n_nm1, n_m1n, n_m1lt, n_ltm1, l_ltr, l_ltl, l_ler, l_lel, l_m1lt, l_nneg, if_true, if_false, or_false, false_or, or_true, true_or, and_true, true_and, and_false, false_and, not_true_eq_false, not_false_eq_true, Option.bind_some, Option.bind_none, reduceIte, ltT, ltF, leT, leF, eqT, eqF, nI_lt0]
    rw [ho, Option.bind_some]
    unfold f_X12_canHave_57 f_X12_canHave_58
    rw [n_addr]
  have fin : ∀ (F : Nat) (v : Int32) (M1 : az_M), v = 0 ∨ v = 1 → f_X12_canHave_15 sp_G (F + 1) (nI q) (nI w) v (nI 2) M1 = some (v, M1) := by
    intro F v M1 hv
    rw [f_X12_canHave_15, if_pos (by decide), if_pos hv]
  unfold f_X12_canHave
  rw [(oq H.pr).2.2, Option.bind_some, p_canFire' H.pr, Option.bind_some]
  unfold sp_had
  rw [e1, e2, e3, n_cl (k := a) (by omega), n_cl (k := b) (by omega)]
  show ∃ M', f_X12_canHave_15 sp_G (999997 + 1 + 1 + 1) (nI q) (nI w) (sp_can N) (nI 0) M = _ ∧ _
  rcases sp_can01 N with c1 | c1
  · rw [c1, if_pos rfl, st0 _ 0 _ M (oq H.pr).1 (by decide), st0 _ 1 _ M (oq H.pr).2.1 (by decide), fin _ _ _ (Or.inl rfl)]
    exact ⟨M, rfl, sp_fr.refl M⟩
  · rw [c1, if_neg (by decide)]
    obtain ⟨M1, f1, g1⟩ := st (999997 + 1 + 1) a 0 M ha H (oq H.pr).1 (by decide)
    have H1 := H.fr g1
    rw [f1]
    by_cases c2 : sp_hurt N a = 0
    · rw [if_pos c2]
      by_cases c4 : sp_ask (sp_law inF ls) N 4 (nI a) (nI w) = 0
      · rw [if_pos c4, if_pos c2]
        obtain ⟨M2, f2, g2⟩ := st (999997 + 1) b 1 M1 hb H1 (oq H1.pr).2.1 (by decide)
        rw [f2]
        by_cases c3 : sp_hurt N b = 0
        · rw [if_pos c3]
          by_cases c5 : sp_ask (sp_law inF ls) N 4 (nI b) (nI w) = 0
          · rw [if_pos c5, if_pos c3, if_pos c4, fin _ _ _ (Or.inr rfl)]; exact ⟨M2, rfl, g1.trans g2⟩
          · rw [if_neg c5, if_pos c3, if_pos c4, fin _ _ _ (Or.inl rfl)]; exact ⟨M2, rfl, g1.trans g2⟩
        · rw [if_neg c3, if_neg c3, fin _ _ _ (Or.inl rfl)]; exact ⟨M2, rfl, g1.trans g2⟩
      · rw [if_neg c4, if_pos c2, st0 _ 1 _ M1 (oq H1.pr).2.1 (by decide), fin _ _ _ (Or.inl rfl)]
        refine ⟨M1, ?_, g1⟩
        by_cases c3 : sp_hurt N b = 0
        · rw [if_pos c3, if_neg c4]
        · rw [if_neg c3]
    · rw [if_neg c2, if_neg c2, st0 _ 1 _ M1 (oq H1.pr).2.1 (by decide), fin _ _ _ (Or.inl rfl)]
      exact ⟨M1, rfl, g1⟩
theorem ke_cf {M M' : az_M} (f : sp_cf M M') : sp_ke M M' := by
  refine ⟨fun k h => f.1 k (by omega) (by omega), fun j _ => by rw [f.1 45 (by decide) (by decide)], fun j _ => by rw [f.1 0 (by decide) (by decide)], fun j _ => by rw [f.1 3 (by decide) (by decide)], by rw [f.1 5 (by decide) (by decide)], fun j _ => by rw [f.1 7 (by decide) (by decide)], by rw [f.1 28 (by decide) (by decide)], fun j _ => by rw [f.1 34 (by decide) (by decide)], fun j h => by rw [f.1 40 (by decide) (by decide)], fun k _ => by rw [f.2], by rw [f.2]⟩
theorem ke_fr {M M' : az_M} (f : sp_fr M M') : sp_ke M M' := by
  refine ⟨fun k h => f.1 k (by omega), fun j _ => by rw [f.1 45 (by decide)], fun j _ => by rw [f.1 0 (by decide)], fun j _ => by rw [f.1 3 (by decide)], by rw [f.1 5 (by decide)], fun j _ => by rw [f.1 7 (by decide)], by rw [f.1 28 (by decide)], fun j _ => by rw [f.1 34 (by decide)], fun j h => f.2.1 j (by omega) (by omega), fun k h => f.2.2.1 k (by omega) (by omega) (by omega), f.2.2.2.2⟩
theorem az_Inv.asked {m : Nat} {Z : az_S × Nat} {M M1 M2 : az_M} (h : az_Inv m Z M) (f : sp_cf M M1) (g : sp_fr (az_i M1 40 0 0) M2) : az_Inv (m + 1) Z M2 :=
  (((h.ke (ke_cf f)).ke (sp_ke_thrown M1 0)).ke (ke_fr g)).mono
theorem az_Inv.both {m : Nat} {Z : az_S × Nat} {M : az_M} (h : az_Inv m Z M) (hm : m < 512) : ∃ ls, ClsAt Z (sp_B m) 1 (M.1 3 2) ls (M.1 2) M ∧ ∀ M1, sp_cf M M1 → RefAt Z (sp_B m) (M.1 3 2) ls (M.1 2) (az_i M1 40 0 0) := by
  obtain ⟨g1, g2, g3, ⟨ls, g4, g4b⟩, g5, g6, g7, g8, g9, g10, g11⟩ := h
  have hB : sp_B m ≤ 1000000000 := by unfold sp_B; omega
  refine ⟨ls, ⟨⟨_, g4⟩, rfl, rfl, g3.2, hB, by decide⟩, fun M1 f => ⟨⟨M.1, M.2.2 4, M.1 3 1, ?_⟩, ?_, ?_, g3.2, hB⟩⟩
  · rw [gi_k (by decide), f.1 42 (by decide) (by decide)]; exact g4
  · rw [gi, if_pos rfl, if_neg (by decide), f.1 40 (by decide) (by decide)]; exact g11.1
  · rw [gi_k (by decide), f.1 42 (by decide) (by decide)]; exact g3.1
theorem ne_bad {p : Int32} {lo hi c : Nat} (h : p < nI lo ∨ nI hi < p) (h1 : lo ≤ c) (h2 : c ≤ hi) (h3 : hi < 2147483648) : ¬ p = nI c := by
  rintro rfl
  rcases h with h | h
  · exact absurd h (nI_nlt h1 (by omega))
  · exact absurd h (nI_nlt h2 (by omega))
theorem ob_barred : Ob_barred az_Inv sp_G := by
  intro m Z M a1 a2 hm h
  obtain ⟨ls, C, R⟩ := h.both hm
  obtain ⟨pr, rg⟩ := h.2.2.1
  obtain ⟨n, hn, _, hn2⟩ := rg.2.2.2.1.2.1.nat (by decide) (by decide)
  obtain ⟨l, hl, _, hl2⟩ := rg.2.2.2.1.1.nat (by decide) (by decide)
  have bad : f_X11_barred Z sp_G a1 a2 M = some (-1, M) → f_X12_barred sp_G a1 a2 M = some (-1, az_i M 40 0 0) → ∃ (r : Int32) (M1 M2 : az_M), f_X11_barred Z sp_G a1 a2 M = some (r, M1) ∧ f_X12_barred sp_G a1 a2 M1 = some (r, M2) ∧ az_Inv (m + 1) Z M2 := fun h1 h2 => ⟨_, _, _, h1, h2, (h.ke (sp_ke_thrown M 0)).mono⟩
  have n42 : (az_i M 40 0 0).1 42 1 = nI n := pr.2.2.2.1.2.1.symm.trans hn
  have l42 : (az_i M 40 0 0).1 42 0 = nI l := pr.2.2.2.1.1.symm.trans hl
  rcases v_cases a1 (n := n) (by omega) with ⟨k, hk, rfl⟩ | ⟨hb, hr⟩
  · rcases v_cases a2 (n := l) (by omega) with ⟨q, hq, rfl⟩ | ⟨hb, hr⟩
    · obtain ⟨M1, f1, g1⟩ := c_ask C (h := 4) (by decide) (show q < 12 by omega) (p := nI k) (Or.inr ⟨k, by omega, rfl⟩) (fun h => absurd h (by decide))
      obtain ⟨M2, f2, g2, g3⟩ := r_barred (R M1 g1) (show q < 12 by omega) (show k < 10 by omega)
      refine ⟨sp_ask (sp_law (M.1 3 2) ls) (M.1 2) 4 (nI k) (nI q), M1, M2, ?_, ?_, h.asked g1 g2⟩
      · unfold f_X11_barred
        rw [p_hasPerson1 hn (by omega) hk, Option.bind_some, if_neg (by decide), p_hasPlace1 hl (by omega) hq, Option.bind_some, if_neg (by decide), show f_X8_ask Z sp_G 1 4 (nI k) (nI q) M = _ from f1]
        rfl
      · unfold f_X12_barred f_X12_barred_39
        have m42 : M1.1 42 = M.1 42 := g1.1 42 (by decide) (by decide)
        rw [p_isPerson1 (M := az_i M1 40 0 0) (by rw [gi_k (by decide), m42]; exact n42) (by omega) hk, Option.bind_some, if_neg (by decide), p_isPlace1 (M := az_i M1 40 0 0) (by rw [gi_k (by decide), m42]; exact l42) (by omega) hq, Option.bind_some, if_neg (by decide), f2, Option.bind_some]
        rcases g3 with g3 | g3
        · rw [g3]; rfl
        · rw [g3]; rfl
    · refine bad ?_ ?_
      · unfold f_X11_barred
        rw [p_hasPerson1 hn (by omega) hk, Option.bind_some, if_neg (by decide), p_hasPlace0 (by rw [show M.1 (1 + 1) 23 = nI l from hl]; exact hb)]
        rfl
      · unfold f_X12_barred
        rw [p_isPerson1 n42 (by omega) hk, Option.bind_some, if_neg (by decide), p_isPlace0 (by rw [l42]; exact hr)]
        rfl
  · refine bad ?_ ?_
    · unfold f_X11_barred
      rw [p_hasPerson0 (by rw [show M.1 (1 + 1) 24 = nI n from hn]; exact hb)]
      rfl
    · unfold f_X12_barred
      rw [p_isPerson0 (by rw [n42]; exact hr)]
      rfl
