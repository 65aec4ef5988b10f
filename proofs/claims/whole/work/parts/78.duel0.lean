/-! a duel -/
abbrev Pair (Z : az_S × Nat) (B o : Nat) (inF : Int32) (ls : Nat → sp_L) (N : Nat → Int32) (M Mr : az_M) : Prop := (ClsAt Z B o inF ls N M) ∧ (RefAt Z B inF ls N Mr) ∧ (sp_wl B N)
theorem Pair.cls {Z : az_S × Nat} {B o : Nat} {inF : Int32} {ls : Nat → sp_L} {N : Nat → Int32} {M Mr : az_M} (h : Pair Z B o inF ls N M Mr) : ClsAt Z B o inF ls N M := h.1
theorem Pair.ref {Z : az_S × Nat} {B o : Nat} {inF : Int32} {ls : Nat → sp_L} {N : Nat → Int32} {M Mr : az_M} (h : Pair Z B o inF ls N M Mr) : RefAt Z B inF ls N Mr := h.2.1
theorem Pair.wl {Z : az_S × Nat} {B o : Nat} {inF : Int32} {ls : Nat → sp_L} {N : Nat → Int32} {M Mr : az_M} (h : Pair Z B o inF ls N M Mr) : sp_wl B N := h.2.2
def sp_hc (o : Nat) (M M' : az_M) : Prop := (∀ k, k ≠ 14 → k ≠ 19 → k ≠ 20 → k ≠ o + 1 → M'.1 k = M.1 k) ∧ M'.2 = M.2
theorem sp_hc.refl (o : Nat) (M : az_M) : sp_hc o M M := ⟨fun _ _ _ _ _ => rfl, rfl⟩
theorem sp_hc.trans {o : Nat} {M M' M'' : az_M} (h : sp_hc o M M') (g : sp_hc o M' M'') : sp_hc o M M'' := ⟨fun k a b c d => (g.1 k a b c d).trans (h.1 k a b c d), g.2.trans h.2⟩
theorem sp_cf.hc {M M' : az_M} (h : sp_cf M M') (o : Nat) : sp_hc o M M' := ⟨fun k a _ c _ => h.1 k a c, h.2⟩
def sp_fd (M M' : az_M) : Prop := (∀ k, k ≠ 40 → k ≠ 42 → M'.1 k = M.1 k) ∧ (∀ j, j ≠ 34 → j ≠ 38 → M'.1 40 j = M.1 40 j) ∧ (∀ k, k ≠ 40 → k ≠ 58 → k ≠ 60 → M'.2.1 k = M.2.1 k) ∧ (∀ j, j ≠ 39 → j ≠ 40 → j ≠ 41 → M'.2.1 40 j = M.2.1 40 j) ∧ M'.2.2 = M.2.2 ∧ ∀ j, j = 4 ∨ j = 5 ∨ 150 ≤ j → M'.1 42 j = M.1 42 j
theorem sp_fd.refl (M : az_M) : sp_fd M M := ⟨fun _ _ _ => rfl, fun _ _ _ => rfl, fun _ _ _ _ => rfl, fun _ _ _ _ => rfl, rfl, fun _ _ => rfl⟩
theorem sp_fd.trans {M M' M'' : az_M} (h : sp_fd M M') (g : sp_fd M' M'') : sp_fd M M'' :=
  ⟨fun k h1 h2 => (g.1 k h1 h2).trans (h.1 k h1 h2), fun j h1 h2 => (g.2.1 j h1 h2).trans (h.2.1 j h1 h2), fun k h1 h2 h3 => (g.2.2.1 k h1 h2 h3).trans (h.2.2.1 k h1 h2 h3), fun j h1 h2 h3 => (g.2.2.2.1 j h1 h2 h3).trans (h.2.2.2.1 j h1 h2 h3), g.2.2.2.2.1.trans h.2.2.2.2.1, fun j hj => (g.2.2.2.2.2 j hj).trans (h.2.2.2.2.2 j hj)⟩
theorem sp_fq.fd {M M' : az_M} (h : sp_fq M M') : sp_fd M M' := ⟨h.1, h.2.1, h.2.2.1, fun j a b _ => h.2.2.2.1 j a b, h.2.2.2.2.1, h.2.2.2.2.2⟩
theorem sp_fd.row {M M' : az_M} (h : sp_fd M M') {f : Nat → Int32} (hf : ∀ j, j = 4 ∨ j = 5 ∨ 150 ≤ j → f j = M.1 42 j) : sp_fd M (ro M' 42 f) :=
  ⟨fun k h1 h2 => (ro_ne h2).trans (h.1 k h1 h2), fun j h1 h2 => by rw [ro_ne (by decide)]; exact h.2.1 j h1 h2, h.2.2.1, h.2.2.2.1, h.2.2.2.2.1, fun j hj => by rw [ro_eq]; exact hf j hj⟩
theorem sp_fd.dr {M M' : az_M} (h : sp_fd M M') : sp_dr M M' := ⟨fun k a b _ _ => h.1 k a b, fun j _ b c => h.2.1 j b c, h.2.2.1, h.2.2.2.2.1, h.2.2.2.2.2⟩
theorem sp_fd_seed (M : az_M) (v : Int64) : sp_fd M (az_l M 40 41 v) := ⟨fun _ _ _ => rfl, fun _ _ _ => rfl, fun k h _ _ => az_l_ne h, fun j _ _ h => by rw [gl, if_pos rfl, if_neg h], rfl, fun _ _ => rfl⟩
theorem RefAt.fd {Z : az_S × Nat} {B B' : Nat} {inF : Int32} {ls : Nat → sp_L} {N N' : Nat → Int32} {M M' : az_M} (h : RefAt Z B inF ls N M) (f : sp_fd M M') (hp : sp_pr N' (M'.1 42)) (hg : sp_rg B' N') (hB : B' ≤ 1000000000) : RefAt Z B' inF ls N' M' := by
  obtain ⟨⟨A, ref, cnt, bk⟩, h20, _, _, _⟩ := h
  exact ⟨⟨A, ref, cnt, bk.congR (fun j hj => f.2.2.2.2.2 j (by omega))⟩, by rw [f.2.1 20 (by decide) (by decide)]; exact h20, hp, hg, hB⟩
theorem ClsAt.hc {Z : az_S × Nat} {B B' o : Nat} {inF : Int32} {ls : Nat → sp_L} {N N' : Nat → Int32} {M M' : az_M} (h : ClsAt Z B o inF ls N M) (ho : o + 1 ≠ 3 ∧ o + 1 < 71) (f : sp_hc o M M') (hr : M'.1 (o + 1) = N') (hg : sp_rg B' N') (hB : B' ≤ 1000000000) : ClsAt Z B' o inF ls N' M' :=
  h.to (f.1 3 (by decide) (by decide) (by decide) (by omega)) (fun k hk => f.1 k (by omega) (by omega) (by omega) (by omega)) (by rw [f.2]) hr hg hB h.ho
abbrev Q5 (N : Nat → Int32) (q n rd a b w : Nat) : Prop := (N 25 = nI n) ∧ (N 17 = nI rd) ∧ (N (93 + q) = nI a) ∧ (N (100 + q) = nI b) ∧ (N (107 + q) = nI w)
theorem Q5.n {N : Nat → Int32} {q n rd a b w : Nat} (h : Q5 N q n rd a b w) : N 25 = nI n := h.1
theorem Q5.rd {N : Nat → Int32} {q n rd a b w : Nat} (h : Q5 N q n rd a b w) : N 17 = nI rd := h.2.1
theorem Q5.a {N : Nat → Int32} {q n rd a b w : Nat} (h : Q5 N q n rd a b w) : N (93 + q) = nI a := h.2.2.1
theorem Q5.b {N : Nat → Int32} {q n rd a b w : Nat} (h : Q5 N q n rd a b w) : N (100 + q) = nI b := h.2.2.2.1
theorem Q5.w {N : Nat → Int32} {q n rd a b w : Nat} (h : Q5 N q n rd a b w) : N (107 + q) = nI w := h.2.2.2.2
theorem Q5.cong {N N' : Nat → Int32} {q n rd a b w : Nat} (h : Q5 N q n rd a b w) (hq : q < 7) (hN : ∀ j, j = 17 ∨ j = 25 ∨ (93 ≤ j ∧ j < 121) → N' j = N j) : Q5 N' q n rd a b w :=
  ⟨by rw [hN 25 (by simp)]; exact h.n, by rw [hN 17 (by simp)]; exact h.rd, by rw [hN (93 + q) (by omega)]; exact h.a, by rw [hN (100 + q) (by omega)]; exact h.b, by rw [hN (107 + q) (by omega)]; exact h.w⟩
theorem dig_at (N : Nat → Int32) (q : Nat) {j : Nat} (h2 : j ≠ 2) (h3 : j ≠ 3) (h16 : j ≠ 16) : sp_dig N q j = N j := by
  unfold sp_dig
  split
  · rw [up_ne h3]
  · unfold sp_days; rw [if_neg h16, if_neg h2]
theorem fire_at (l : Option sp_L) (N : Nat → Int32) {c q j : Nat} (hc : c ≤ 1) (hq : q < 12) (hj : j = 17 ∨ j = 25 ∨ (27 ≤ j ∧ j < 121)) : sp_fire l N c q j = N j := by
  unfold sp_fire
  rw [dig_at _ _ (by omega) (by omega) (by omega), note_at _ _ (by omega) (by omega), lead_at _ _ _ (by omega), hit_at _ _ (by omega) (by omega) (by omega)]
/-- the one who fires misses -/
theorem Pair.shoot {Z : az_S × Nat} {B o : Nat} {inF : Int32} {ls : Nat → sp_L} {N : Nat → Int32} {M Mr : az_M} (P : Pair Z B o inF ls N M Mr) (ho : o + 1 ≠ 3 ∧ o + 1 < 71 ∧ o + 1 ≠ 19) (hB : B + 1 ≤ 1000000000) {k q c : Nat} (hk : k < 10) (hq : q < 12) (hc : N (73 + k) = nI c) (hc1 : c ≤ 1) : ∃ M' Mr', f_X8_shoot Z sp_G o (nI k) (nI q) M = some M' ∧ f_X12_shoot sp_G (nI c) (nI q) Mr = some Mr' ∧ Pair Z (B + 1) o inF ls (sp_fire (sp_law inF ls) N c q) M' Mr' ∧ sp_hc o M M' ∧ sp_fq Mr Mr' ∧ M'.1 19 = M.1 19 := by
  obtain ⟨M1, f1, r1, b1, b2⟩ := p_shoot1 P.cls hq hk hc hc1
  obtain ⟨M2, f2, p2, q2⟩ := r_shoot P.ref hq hc1
  obtain ⟨rg, wl⟩ := fire_rg P.cls.rg P.wl hB (sp_law inF ls) hq hc1
  have hc' : sp_hc o M M1 := ⟨fun k a _ c d => b1 k a c d, b2⟩
  exact ⟨M1, M2, f1, f2, ⟨P.cls.hc ⟨ho.1, ho.2.1⟩ hc' r1 rg hB, P.ref.fq q2 p2 rg hB, wl⟩, hc', q2, b1 19 (by decide) (by decide) (Ne.symm ho.2.2)⟩
/-- the other is hit -/
theorem Pair.hurt {Z : az_S × Nat} {B o : Nat} {inF : Int32} {ls : Nat → sp_L} {N : Nat → Int32} {M Mr : az_M} (P : Pair Z B o inF ls N M Mr) (ho : o + 1 ≠ 3 ∧ o + 1 < 71 ∧ o + 1 ≠ 19) {t : Nat} (ht : t < 10) : ∃ day, N 16 = nI day ∧ day ≤ 999 ∧
    f_X4_noteShot o (nI (12 + t)) (az_i M (o + 1) (83 + t) (nI (day + 7))) = some (ro M (o + 1) (sp_note (up N (83 + t) (nI (day + 7))) (nI (12 + t)))) ∧
    f_X12_note sp_G (nI (12 + t)) (az_i Mr 42 (65 + 3 * t + 2) (nI (day + 7))) = some (ro Mr 42 (rNote (up (Mr.1 42) (65 + 3 * t + 2) (nI (day + 7))) (N 26).toNatClampNeg (nI (12 + t)))) ∧
    Pair Z B o inF ls (sp_note (up N (83 + t) (nI (day + 7))) (nI (12 + t))) (ro M (o + 1) (sp_note (up N (83 + t) (nI (day + 7))) (nI (12 + t)))) (ro Mr 42 (rNote (up (Mr.1 42) (65 + 3 * t + 2) (nI (day + 7))) (N 26).toNatClampNeg (nI (12 + t)))) ∧
    sp_fq Mr (ro Mr 42 (rNote (up (Mr.1 42) (65 + 3 * t + 2) (nI (day + 7))) (N 26).toNatClampNeg (nI (12 + t)))) := by
  obtain ⟨day, hd, _, hd2⟩ := P.cls.rg.2.1.1.nat (by decide) (by decide)
  obtain ⟨n, hn, _, hn2⟩ := P.cls.rg.2.2.2.1.2.2.2.nat (by decide) (by decide)
  have hq7 := P.cls.rg.q7
  have hrow := P.cls.row
  have en : (N 26).toNatClampNeg = n := by rw [hn, n_cl (by omega)]
  rw [en]
  have pr1 := P.ref.pr.upd hq7 (a := 83 + t) (b := 65 + 3 * t + 2) (by omega) (by rw [tr_83 ht]; omega) (by omega) (nI (day + 7))
  have rg1 : sp_rg B (up N (83 + t) (nI (day + 7))) := P.cls.rg.upd (by omega) (fun _ => by
    rw [sp_in_nI (by omega)]
    have e1 : sp_lo (83 + t) = 0 := by unfold sp_lo; rw [if_neg (by omega)]
    have e2 : sp_hi B (83 + t) = 1006 := by
      unfold sp_hi
      simp (disch := omega) only [if_true, if_false, or_false, false_or, or_true, true_or, and_true, true_and, and_false, false_and, not_true_eq_false, not_false_eq_true, Option.bind_some, Option.bind_none, reduceIte, ltT, ltF, leT, leF, eqT, eqF]
    rw [e1, e2]; omega)
  have n1 : up N (83 + t) (nI (day + 7)) 26 = nI n := by rw [up_ne (by omega)]; exact hn
  have pr2 := note_pr pr1 rg1.q7 n1 (by omega) (nI (12 + t))
  have rg2 := note_rg rg1 (nI (12 + t))
  have fq : sp_fq Mr (ro Mr 42 (rNote (up (Mr.1 42) (65 + 3 * t + 2) (nI (day + 7))) n (nI (12 + t)))) := (sp_fq.refl Mr).row (fun j hj => by rw [rNote_at _ _ _ hj (by omega), up_ne (by omega)])
  refine ⟨day, hd, by omega, ?_, ?_, ⟨P.cls.hc ⟨ho.1, ho.2.1⟩ ⟨fun k _ _ _ h => ro_ne h, rfl⟩ (ro_eq _ _ _) rg2 P.cls.hB, P.ref.fq fq (by rw [ro_eq]; exact pr2) rg2 P.cls.hB, ?_⟩, fq⟩
  · rw [az_i_ro, hrow, p_noteShot (n := n) (by rw [ro_eq]; exact n1) (by omega), ro_eq, ro_ro]
  · have r3 : Mr.1 42 3 = nI n := P.ref.pr.2.2.2.1.2.2.2.symm.trans hn
    rw [az_i_ro, p_note (n := n) (by rw [ro_eq, up_ne (by omega)]; exact r3) (by omega), ro_eq, ro_ro]
  · have := P.wl
    unfold sp_wl at this ⊢
    rw [note_at _ _ (by decide) (by decide), note_at _ _ (by decide) (by decide), note_at _ _ (by decide) (by decide), up_ne (by omega), up_ne (by omega), up_ne (by omega)]
    exact this
theorem Pair.drop {Z : az_S × Nat} {B o : Nat} {inF : Int32} {ls : Nat → sp_L} {N : Nat → Int32} {M Mr : az_M} (P : Pair Z B o inF ls N M Mr) (ho : o + 1 ≠ 3 ∧ o + 1 < 71 ∧ o + 1 ≠ 19) {n q : Nat} (hn : N 25 = nI n) (hq : q < n) (h7 : n ≤ 7) (r : Int32) : ∃ M' Mr', f_X8_hold_188 Z sp_G o (nI q) r M = some (r, M') ∧ f_X12_have_145 sp_G (nI q) r Mr = some (r, Mr') ∧ Pair Z B o inF ls (sp_drop N n q) M' Mr' ∧ sp_hc o M M' ∧ sp_fq Mr Mr' ∧ M'.1 19 = M.1 19 := by
  have rg := drop_rg P.cls.rg hn hq h7
  have pr := drop_pr P.ref.pr hn hq h7
  have hc : sp_hc o M (ro M (o + 1) (sp_drop N n q)) := ⟨fun k _ _ _ h => ro_ne h, rfl⟩
  have fq : sp_fq Mr (ro Mr 42 (rDrop (Mr.1 42) n q)) := (sp_fq.refl Mr).row (fun j hj => by unfold rDrop; rw [up_ne (by omega), cpy_out (by omega)])
  refine ⟨_, _, ?_, ?_, ⟨P.cls.hc ⟨ho.1, ho.2.1⟩ hc (ro_eq _ _ _) rg P.cls.hB, P.ref.fq fq (by rw [ro_eq]; exact pr) rg P.cls.hB, ?_⟩, hc, fq, ro_ne (Ne.symm ho.2.2)⟩
  · unfold f_X8_hold_188
    rw [p_dropQuarrel (n := n) (by rw [P.cls.row]; exact hn) hq h7, Option.bind_some, P.cls.row]
  · unfold f_X12_have_145
    rw [r_dropQuarrel (n := n) (P.ref.pr.2.2.2.1.2.2.1.symm.trans hn) hq h7, Option.bind_some]
  · have := P.wl
    unfold sp_wl at this ⊢
    rw [drop_out h7 hq (by decide) (by omega), drop_out h7 hq (by decide) (by omega), drop_out h7 hq (by decide) (by omega)]
    exact this
