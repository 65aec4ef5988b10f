/-! marks(): both -/
theorem az_Inv.w34 {m : Nat} {Z : az_S × Nat} {M M' : az_M} (h : az_Inv m Z M) (hk : ∀ k, k ≠ 34 → M'.1 k = M.1 k) (h2 : M'.2 = M.2) (h13 : M'.1 34 13 = 0) : az_Inv m Z M' := by
  obtain ⟨g1, g2, g3, ⟨ls, g4, g4b⟩, g5, g6, g7, g8, g9, g10, g11⟩ := h
  refine az_Inv.step (M := M) ⟨g1, g2, g3, ⟨ls, g4, g4b⟩, g5, g6, g7, g8, g9, g10, g11⟩ (Nat.le_refl m) ?_ ?_ ?_ ?_ ?_ ?_ (Or.inl h13) ?_ ?_ ?_ ?_ ?_ ?_ ?_ ?_ ?_
  · rw [hk 2 (by decide), hk 42 (by decide)]; exact g3
  · rw [hk 3 (by decide)]
  · rw [hk 3 (by decide)]
  · intro j _; rw [hk 42 (by decide)]
  · intro k h71; exact hk k (by omega)
  · rw [h2]
  · rw [hk 5 (by decide), hk 6 (by decide), hk 49 (by decide), hk 40 (by decide)]; exact g5
  · rw [hk 0 (by decide), hk 40 (by decide)]; exact g6
  · rw [hk 12 (by decide), hk 41 (by decide)]; exact g7
  · rw [hk 7 (by decide), hk 8 (by decide), hk 9 (by decide), hk 40 (by decide), hk 46 (by decide), hk 45 (by decide)]; exact g8
  · rw [hk 43 (by decide)]
  · rw [hk 44 (by decide)]
  · rw [hk 28 (by decide), hk 29 (by decide), hk 70 (by decide), hk 40 (by decide)]; exact g10
  · rw [hk 40 (by decide)]; exact g11.1
  · intro k _; rw [h2]
/-- what is needed for sp_ke -/
def keK (k : Nat) : Prop := k = 0 ∨ k = 2 ∨ k = 3 ∨ k = 5 ∨ k = 6 ∨ k = 7 ∨ k = 8 ∨ k = 9 ∨ k = 12 ∨ k = 28 ∨ k = 29 ∨ k = 41 ∨ k = 42 ∨ k = 43 ∨ k = 44 ∨ k = 46 ∨ k = 49 ∨ k = 70 ∨ 71 ≤ k
theorem ke_gen {M M' : az_M} (h1 : ∀ k, keK k → M'.1 k = M.1 k) (h34 : M'.1 34 = M.1 34) (h40 : ∀ j, j = 1 ∨ j = 8 ∨ j = 11 ∨ j = 13 ∨ j = 18 ∨ j = 20 ∨ j = 55 ∨ j = 58 → M'.1 40 j = M.1 40 j) (h45 : ∀ j, j < 2400 → M'.1 45 j = M.1 45 j) (hl : ∀ k, k = 55 ∨ k = 56 ∨ k = 57 → M'.2.1 k = M.2.1 k) (h2 : M'.2.2 = M.2.2) : sp_ke M M' := by
  unfold keK at h1
  refine ⟨fun k h => h1 k (by omega), h45, fun j _ => ?_, fun j _ => ?_, ?_, fun j _ => ?_, ?_, fun j _ => ?_, fun j h => h40 j h, hl, h2⟩
  · rw [h1 0 (by omega)]
  · rw [h1 3 (by omega)]
  · rw [h1 5 (by omega)]
  · rw [h1 7 (by omega)]
  · rw [h1 28 (by omega)]
  · rw [h34]
theorem az_Inv.rows {m : Nat} {Z : az_S × Nat} {M M' : az_M} (h : az_Inv m Z M) (h1 : ∀ k, keK k → M'.1 k = M.1 k) (h13 : M'.1 34 13 = 0) (h40 : ∀ j, j = 1 ∨ j = 8 ∨ j = 11 ∨ j = 13 ∨ j = 18 ∨ j = 20 ∨ j = 55 ∨ j = 58 → M'.1 40 j = M.1 40 j) (h45 : ∀ j, j < 2400 → M'.1 45 j = M.1 45 j) (hl : ∀ k, k = 55 ∨ k = 56 ∨ k = 57 → M'.2.1 k = M.2.1 k) (h2 : M'.2.2 = M.2.2) : az_Inv m Z M' := by
  have a : az_Inv m Z (ro M 34 (M'.1 34)) := h.w34 (fun k hk => ro_ne hk) rfl (by rw [ro_eq]; exact h13)
  refine az_Inv.ke (ke_gen (M := ro M 34 (M'.1 34)) (fun k hk => ?_) (by rw [ro_eq]) (fun j hj => by rw [ro_ne (by decide)]; exact h40 j hj) (fun j hj => by rw [ro_ne (by decide)]; exact h45 j hj) hl h2) a
  rw [ro_ne (by unfold keK at hk; omega)]; exact h1 k hk
def mkF (M M' : az_M) : Prop := (∀ k, k ≠ 40 → k ≠ 66 → k ≠ 67 → M'.1 k = M.1 k) ∧ (∀ j, j ≠ 34 → j ≠ 38 → M'.1 40 j = M.1 40 j) ∧ (∀ k, k ≠ 40 → k ≠ 58 → k ≠ 60 → M'.2.1 k = M.2.1 k) ∧ M'.2.2 = M.2.2
theorem mkF.trans {M M' M'' : az_M} (h : mkF M M') (g : mkF M' M'') : mkF M M'' :=
  ⟨fun k a b c => (g.1 k a b c).trans (h.1 k a b c), fun j a b => (g.2.1 j a b).trans (h.2.1 j a b), fun k a b c => (g.2.2.1 k a b c).trans (h.2.2.1 k a b c), g.2.2.2.trans h.2.2.2⟩
theorem r_marks35 {Z : az_S × Nat} {inF : Int32} {ls : Nat → sp_L} {P n B : Nat} {Nc N : Nat → Int32} (hP : P ≤ 12) (hn : n ≤ 3) (hn1 : 1 ≤ n) (w f : Int32) (hpn : P ^ n ≤ 1728) (wl : sp_wl B N) (sm : mk_sim Nc N) (hB : B + 3 ≤ 1000000000) (hPn : N 23 = nI P) : ∀ (e c F : Nat), c + e = P ^ n → e < F → ∀ (M : az_M) (Ls : List (List Nat)), RefAt Z B inF ls N M → (∀ j, j < 150 → M.1 45 (150 * 16 + j) = M.1 42 j) → (∀ r, Ls.head? = some r → ∀ k x, r[k]? = some x → M.1 66 k = nI x) → Ls.length ≤ c →
    ∃ M', f_X12_findMarks_35 sp_G F (nI n) w f (nI (P ^ n)) (nI Ls.length) (nI c) M = some (nI (Ls ++ ((List.range' c e).map (dg P n)).filter (fun r => mk_st (sp_law inF ls) w f r Nc)).length, M') ∧ mkF M M' ∧ ∀ r, (Ls ++ ((List.range' c e).map (dg P n)).filter (fun r => mk_st (sp_law inF ls) w f r Nc)).head? = some r → ∀ k x, r[k]? = some x → M'.1 66 k = nI x := by
  intro e
  induction e with
  | zero =>
    intro c F hc hF M Ls R hk hf hl
    obtain ⟨F, rfl⟩ : ∃ F1, F = F1 + 1 := ⟨F - 1, by omega⟩
    refine ⟨M, ?_, ⟨fun _ _ _ _ => rfl, fun _ _ _ => rfl, fun _ _ _ _ => rfl, rfl⟩, ?_⟩
    · rw [f_X12_findMarks_35, if_pos (by rw [n_le (by omega) (by omega)]; omega)]
      simp
    · simpa using hf
  | succ e ih =>
    intro c F hc hF M Ls R hk hf hl
    obtain ⟨F, rfl⟩ : ∃ F1, F = F1 + 1 := ⟨F - 1, by omega⟩
    have hP0 : 0 < P := by
      rcases Nat.eq_zero_or_pos P with h | h
      · subst h; rw [Nat.zero_pow (by omega)] at hc; omega
      · exact h
    have hP42 : M.1 42 0 = nI P := by rw [← R.pr.2.2.2.1.1]; exact hPn
    rw [f_X12_findMarks_35, if_neg (by rw [n_le (by omega) (by omega)]; omega)]
    obtain ⟨M1, a1, a2, a3, a4⟩ := r_digits hP hn (f_X12_findMarks_35 sp_G F) w f (nI (P ^ n)) (nI Ls.length) (nI c) c (by omega) hP0 n sp_G (Nat.le_refl n) (by show n < 1000000; omega) M hP42 (fun k h1 h2 => by omega)
    rw [Nat.sub_self, Nat.pow_zero, Nat.div_one] at a1
    rw [a1]
    have R1 : RefAt Z B inF ls N M1 := ⟨by rw [a2 42 (by decide)]; exact R.bk, by rw [a2 40 (by decide)]; exact R.h20, by rw [a2 42 (by decide)]; exact R.pr, R.rg, R.hB⟩
    obtain ⟨M2, b1, b2⟩ := r_marks95 (Nc := Nc) hP hn (f_X12_findMarks_35 sp_G F) w f (nI (P ^ n)) (nI Ls.length) (nI c) (dg P n c) 0 sp_G (by rw [dg_len]; omega) (by rw [dg_len]; show n + 1 < 1000000; omega) (fun x hx => by
      unfold dg at hx
      obtain ⟨k, _, rfl⟩ := List.mem_map.mp hx
      exact Nat.mod_lt _ hP0) B N M1 R1 wl sm (by rw [dg_len]; omega) (fun i x hx => by
      have hi : i < n := by have := (List.getElem?_eq_some_iff.mp hx).1; rwa [dg_len] at this
      rw [dg_at hi] at hx
      injection hx with hx
      rw [Nat.zero_add, a4 i hi, hx])
    rw [show f_X12_findMarks_95 sp_G (f_X12_findMarks_35 sp_G F) sp_G (nI n) w f (nI (P ^ n)) (nI Ls.length) (nI c) 1 0 M1 = _ from b1]
    unfold f_X12_findMarks_188
    have back : r_back (M2.1 42) (M2.1 45) 16 = M.1 42 := by
      refine r_back_same (fun j hj => ?_) (fun j hj => ?_)
      · rw [b2.1 45 (by decide) (by decide), a2 45 (by decide)]; exact hk j hj
      · rw [b2.2.2.2.2.2 j hj, a2 42 (by decide)]
    rw [show f_X12_putBack sp_G 16 M2 = some (ro M2 42 (r_back (M2.1 42) (M2.1 45) 16)) from p_putBack (q := 16) (by decide) M2, Option.bind_some, back]
    generalize hM3 : ro M2 42 (M.1 42) = M3
    have m3 : ∀ k, k ≠ 40 → k ≠ 67 → M3.1 k = M.1 k := fun k h1 h2 => by
      rw [← hM3]
      by_cases h42 : k = 42
      · rw [h42, ro_eq]
      · rw [ro_ne h42, b2.1 k h1 h42, a2 k h2]
    have m340 : ∀ j, j ≠ 34 → j ≠ 38 → M3.1 40 j = M.1 40 j := fun j h1 h2 => by
      rw [← hM3, ro_ne (by decide), b2.2.1 j h1 h2, a2 40 (by decide)]
    have m3l : ∀ k, k ≠ 40 → k ≠ 58 → k ≠ 60 → M3.2.1 k = M.2.1 k := fun k h1 h2 h3 => by
      rw [← hM3]; show M2.2.1 k = _; rw [b2.2.2.1 k h1 h2 h3, a3]
    have m3q : M3.2.2 = M.2.2 := by rw [← hM3]; show M2.2.2 = _; rw [b2.2.2.2.2.1, a3]
    have m367 : ∀ k, k < n → M3.1 67 k = nI (c / P ^ (n - 1 - k) % P) := fun k hk => by
      rw [← hM3, ro_ne (by decide), b2.1 67 (by decide) (by decide), a4 k hk]
    have F3 : mkF M M3 := ⟨fun k a _ b => m3 k a b, m340, m3l, m3q⟩
    have RX : ∀ X, mkF M X → RefAt Z B inF ls N X := fun X hX => ⟨by rw [hX.1 42 (by decide) (by decide) (by decide)]; exact R.bk, by rw [hX.2.1 20 (by decide) (by decide)]; exact R.h20, by rw [hX.1 42 (by decide) (by decide) (by decide)]; exact R.pr, R.rg, R.hB⟩
    have kX : ∀ X, mkF M X → ∀ j, j < 150 → X.1 45 (150 * 16 + j) = X.1 42 j := fun X hX j hj => by rw [hX.1 45 (by decide) (by decide) (by decide), hX.1 42 (by decide) (by decide) (by decide)]; exact hk j hj
    rw [List.range'_succ, List.map_cons, List.filter_cons]
    have hlen0 : (nI Ls.length = 0) ↔ Ls = [] := by
      rw [show (0 : Int32) = nI 0 from rfl, n_eq (by omega) (by omega), List.length_eq_zero_iff]
    by_cases ok : mk_st (sp_law inF ls) w f (dg P n c) Nc = true
    · rw [if_pos ok, if_pos ok]
      by_cases h0 : Ls = []
      · subst h0
        obtain ⟨M4, c1, c2, c3, c4, c5⟩ := r_first hn (f_X12_findMarks_35 sp_G F) w f (nI (P ^ n)) (nI c) n 0 sp_G (by omega) (by show n < 1000000; omega) M3
        rw [show nI c + 1 = nI (c + 1) from (nI_succ c).symm] at c1
        have F4 : mkF M M4 := F3.trans ⟨fun k _ a _ => c2 k a, fun j _ _ => by rw [c2 40 (by decide)], fun k _ _ _ => by rw [c3], by rw [c3]⟩
        obtain ⟨M5, d1, d2, d3⟩ := ih (c + 1) F (by omega) (by omega) M4 [dg P n c] (RX M4 F4) (kX M4 F4) (fun r hr k x hx => by
          injection hr with hr
          subst hr
          have hkn : k < n := by have := (List.getElem?_eq_some_iff.mp hx).1; rwa [dg_len] at this
          rw [dg_at hkn] at hx
          injection hx with hx
          rw [c5 k (by omega) hkn, m367 k hkn, hx]) (by simp)
        refine ⟨M5, ?_, F4.trans d2, ?_⟩
        · show f_X12_findMarks_199 sp_G (f_X12_findMarks_35 sp_G F) sp_G (nI n) w f (nI (P ^ n)) 0 (nI c) 1 (nI 0) M3 = _
          rw [c1]
          exact d1
        · exact d3
      · have hne : ¬ nI Ls.length = 0 := fun e => h0 (hlen0.mp e)
        obtain ⟨M5, d1, d2, d3⟩ := ih (c + 1) F (by omega) (by omega) M3 (Ls ++ [dg P n c]) (RX M3 F3) (kX M3 F3) (fun r hr k x hx => by
          rw [m3 66 (by decide) (by decide)]
          refine hf r ?_ k x hx
          cases Ls with
          | nil => exact absurd rfl h0
          | cons y ys => exact hr) (by rw [List.length_append, List.length_singleton]; omega)
        rw [List.append_assoc, List.singleton_append] at d1 d3
        refine ⟨M5, ?_, F3.trans d2, d3⟩
        show f_X12_findMarks_199 sp_G (f_X12_findMarks_35 sp_G F) (999999 + 1) (nI n) w f (nI (P ^ n)) (nI Ls.length) (nI c) 1 0 M3 = _
        rw [r_nofirst hn hn1 _ _ _ _ _ _ _ (Or.inr hne), if_neg (by decide), show nI c + 1 = nI (c + 1) from (nI_succ c).symm, show nI Ls.length + 1 = nI (Ls ++ [dg P n c]).length by rw [List.length_append, List.length_singleton, nI_succ]]
        exact d1
    · rw [if_neg ok, if_neg ok]
      obtain ⟨M5, d1, d2, d3⟩ := ih (c + 1) F (by omega) (by omega) M3 Ls (RX M3 F3) (kX M3 F3) (fun r hr k x hx => by rw [m3 66 (by decide) (by decide)]; exact hf r hr k x hx) (by omega)
      refine ⟨M5, ?_, F3.trans d2, d3⟩
      show f_X12_findMarks_199 sp_G (f_X12_findMarks_35 sp_G F) (999999 + 1) (nI n) w f (nI (P ^ n)) (nI Ls.length) (nI c) 0 0 M3 = _
      rw [r_nofirst hn hn1 _ _ _ _ _ _ _ (Or.inl rfl), if_pos rfl, Int32.add_zero, show nI c + 1 = nI (c + 1) from (nI_succ c).symm]
      exact d1
theorem r_marks6 {P n : Nat} (hP : P ≤ 12) (hn : n ≤ 3) (w f : Int32) {M : az_M} (hPm : M.1 42 0 = nI P) : ∀ (e k F : Nat), k + e = n → e < F → f_X12_findMarks_6 sp_G F (nI n) w f (nI (P ^ k)) (nI k) M = f_X12_findMarks_35 sp_G sp_G (nI n) w f (nI (P ^ n)) 0 0 M := by
  intro e
  induction e with
  | zero =>
    intro k F hk hF
    obtain ⟨F, rfl⟩ : ∃ F1, F = F1 + 1 := ⟨F - 1, by omega⟩
    rw [f_X12_findMarks_6, if_pos (by rw [n_le (by omega) (by omega)]; omega), show k = n by omega]
  | succ e ih =>
    intro k F hk hF
    obtain ⟨F, rfl⟩ : ∃ F1, F = F1 + 1 := ⟨F - 1, by omega⟩
    rw [f_X12_findMarks_6, if_neg (by rw [n_le (by omega) (by omega)]; omega), hPm, n_mul, ← Nat.pow_succ, show nI k + 1 = nI (k + 1) from (nI_succ k).symm]
    exact ih (k + 1) F (by omega) (by omega)
