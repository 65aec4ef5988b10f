/-! spades() -/
theorem sp_rg.up19 {B : Nat} {N : Nat → Int32} (h : sp_rg B N) {s : Nat} (h1 : 1 ≤ s) (h9 : s ≤ 9) : sp_rg B (up N 19 (nI s)) := by
  obtain ⟨k1, k2, k4, k5, k6, k7, k8⟩ := h
  have e : ∀ j, j ≠ 19 → up N 19 (nI s) j = N j := fun j hj => up_ne hj
  unfold sp_rg
  refine ⟨?_, ?_, ?_, ?_, fun p hp => ?_, fun p hp => ?_, fun q hq => ?_⟩
  · rw [e 0 (by omega), e 1 (by omega), e 2 (by omega), e 3 (by omega)]; exact k1
  · rw [e 16 (by omega), e 17 (by omega), e 18 (by omega), up_eq, e 20 (by omega)]; exact ⟨k2.1, k2.2.1, k2.2.2.1, by rw [sp_in_nI (by omega)]; omega, k2.2.2.2.2⟩
  · rw [e 21 (by omega), e 22 (by omega)]; exact k4
  · rw [e 23 (by omega), e 24 (by omega), e 25 (by omega), e 26 (by omega)]; exact k5
  · rw [e (27 + p) (by omega), e (39 + p) (by omega), e (51 + p) (by omega), e (4 + p) (by omega)]; exact k6 p hp
  · rw [e (63 + p) (by omega), e (73 + p) (by omega), e (83 + p) (by omega)]; exact k7 p hp
  · rw [e 25 (by omega)] at hq
    rw [e (93 + q) (by omega), e (100 + q) (by omega), e (107 + q) (by omega), e (114 + q) (by omega), e 24 (by omega), e 23 (by omega)]; exact k8 q hq
theorem sp_pr.up19 {N R : Nat → Int32} (h : sp_pr N R) (hq : (N 25).toNatClampNeg ≤ 7) (v : Int32) : sp_pr (up N 19 v) (up R 9 v) := by
  obtain ⟨k1, k2, k3, k4, k5, k6, k7, k8⟩ := h
  have e : ∀ j, j ≠ 19 → up N 19 v j = N j := fun j hj => up_ne hj
  have f : ∀ j, j ≠ 9 → up R 9 v j = R j := fun j hj => up_ne hj
  unfold sp_pr
  refine ⟨?_, fun t ht => ?_, ?_, ?_, fun p hp => ?_, fun p hp => ?_, fun q hq' => ?_, fun i hi => ?_⟩
  · rw [e 0 (by omega), e 1 (by omega), e 2 (by omega), e 3 (by omega), f 11 (by omega), f 12 (by omega), f 13 (by omega), f 14 (by omega)]; exact k1
  · by_cases h3 : t = 3
    · subst h3; rw [up_eq, up_eq]
    · rw [e (16 + t) (by omega), f (6 + t) (by omega)]; exact k2 t ht
  · rw [e 21 (by omega), e 22 (by omega), f 15 (by omega), f 16 (by omega)]; exact k3
  · rw [e 23 (by omega), e 24 (by omega), e 25 (by omega), e 26 (by omega), f 0 (by omega), f 1 (by omega), f 2 (by omega), f 3 (by omega)]; exact k4
  · rw [e (27 + p) (by omega), e (39 + p) (by omega), e (51 + p) (by omega), e (4 + p) (by omega), f (17 + 4 * p) (by omega), f (18 + 4 * p) (by omega), f (19 + 4 * p) (by omega), f (20 + 4 * p) (by omega)]; exact k5 p hp
  · rw [e (63 + p) (by omega), e (73 + p) (by omega), e (83 + p) (by omega), f (65 + 3 * p) (by omega), f (66 + 3 * p) (by omega), f (67 + 3 * p) (by omega)]; exact k6 p hp
  · rw [e 25 (by omega)] at hq'
    rw [e (93 + q) (by omega), e (100 + q) (by omega), e (107 + q) (by omega), e (114 + q) (by omega), f (95 + 4 * q) (by omega), f (96 + 4 * q) (by omega), f (97 + 4 * q) (by omega), f (98 + 4 * q) (by omega)]; exact k7 q hq'
  · rw [e (121 + i) (by omega), f (123 + i) (by omega)]; exact k8 i hi
/-- the fewest spades -/
def sres (l : Option sp_L) (n : Nat) (S : Nat → Int32) : Nat → Nat → Int32
  | 0, _ => -1
  | e + 1, s => if sp_rows l n (List.range n) (up S 19 (nI s)) = [] then sres l n S e (s + 1) else nI s
theorem c_spades {Z : az_S × Nat} {inF : Int32} {ls : Nat → sp_L} {n B : Nat} {S : Nat → Int32} {M : az_M} (hn : n ≤ 7) (C : ClsAt Z B 35 inF ls S M) (hS : S 25 = nI n) (hB : B + 56 ≤ 1000000000) : ∀ (e s F : Nat), s + e = 10 → 1 ≤ s → e < F → ∀ (X : az_M), (∀ k, k ≠ 14 → k ≠ 20 → k ≠ 34 → k ≠ 36 → k ≠ 37 → k ≠ 38 → k ≠ 39 → X.1 k = M.1 k) → X.2 = M.2 → X.1 34 13 = 0 → X.1 34 10 = 1 → (∀ j, j < 17 → X.1 37 j = S j) → (∀ j, 17 ≤ j → j ≠ 19 → X.1 36 j = S j) →
    ∃ M', f_X7_fewestSpades_28 Z sp_G F (nI s) X = some (sres (sp_law inF ls) n S e s, M') ∧ (∀ k, k ≠ 14 → k ≠ 20 → k ≠ 34 → k ≠ 36 → k ≠ 37 → k ≠ 38 → k ≠ 39 → M'.1 k = M.1 k) ∧ M'.2 = M.2 ∧ M'.1 34 13 = 0 := by
  intro e
  induction e with
  | zero =>
    intro s F hs h1 hF X xk x2 x13 x10 x37 x36
    obtain ⟨F, rfl⟩ : ∃ F1, F = F1 + 1 := ⟨F - 1, by omega⟩
    rw [f_X7_fewestSpades_28, if_pos (by rw [show (9 : Int32) = nI 9 from rfl, n_lt (by omega) (by omega)]; omega)]
    exact ⟨X, rfl, xk, x2, x13⟩
  | succ e ih =>
    intro s F hs h1 hF X xk x2 x13 x10 x37 x36
    obtain ⟨F, rfl⟩ : ∃ F1, F = F1 + 1 := ⟨F - 1, by omega⟩
    rw [f_X7_fewestSpades_28, if_neg (by rw [show (9 : Int32) = nI 9 from rfl, n_lt (by omega) (by omega)]; omega), show ∀ A, f_X7_resetSheet 0 A = some (ro A 36 (cpy (A.1 37) (A.1 36) (17 * 0) 0 17)) from fun A => p_resetSheet (d := 0) (by decide) A, Option.bind_some, p_forget, Option.bind_some]
    generalize hY : ro (az_i (ro X 36 (cpy (X.1 37) (X.1 36) (17 * 0) 0 17)) 36 19 (nI s)) 38 (fun j => if 0 ≤ j ∧ j < 0 + 128 then -1 else (az_i (ro X 36 (cpy (X.1 37) (X.1 36) (17 * 0) 0 17)) 36 19 (nI s)).1 38 j) = Y
    have yk : ∀ k, k ≠ 36 → k ≠ 38 → Y.1 k = X.1 k := fun k a b => by rw [← hY, ro_ne b, gi_k a, ro_ne a]
    have y2 : Y.2 = X.2 := by rw [← hY]; rfl
    have Y36 : Y.1 36 = up S 19 (nI s) := by
      rw [← hY, ro_ne (by decide), az_i_ro, ro_eq, ro_eq]
      funext j
      by_cases h19 : j = 19
      · rw [h19, up_eq, up_eq]
      · rw [up_ne h19, up_ne h19]
        by_cases hj : j < 17
        · rw [cpy_in (by omega), x37 _ (by omega)]; exact congrArg S (by omega)
        · rw [cpy_out (by omega)]; exact x36 j (by omega) h19
    have y38 : ∀ j, j < 128 → Y.1 38 j = -1 := fun j hj => by rw [← hY, ro_eq]; exact if_pos ⟨by omega, by omega⟩
    have rg' := C.rg.up19 h1 (show s ≤ 9 by omega)
    have CY : ClsAt Z B 35 inF ls (up S 19 (nI s)) Y := C.to (by rw [yk 3 (by decide) (by decide), xk 3 (by decide) (by decide) (by decide) (by decide) (by decide) (by decide) (by decide)]) (fun k hk => by rw [yk k (by omega) (by omega), xk k (by omega) (by omega) (by omega) (by omega) (by omega) (by omega) (by omega)]) (by rw [y2, x2]) Y36 rg' C.hB C.ho
    obtain ⟨T, t1, t2, t3, t4⟩ := c_tryQ (one := 1) (base := up S 19 (nI s)) hn (by rw [up_ne (by decide)]; exact hS) n 0 10 (by omega) (by omega) B _ Y 0 (-1) CY (by omega) (fun _ _ => rfl) (by rw [yk 34 (by decide) (by decide)]; exact x10) (by decide) (by rw [rem_0, List.length_range]) (by decide) (fun j hj => Or.inl (y38 j hj))
    rw [rem_0] at t3
    rw [show f_X7_tryQuarrels Z sp_G 10 0 0 Y = some T from t1, Option.bind_some, t3.1, sres]
    have tk : ∀ k, k ≠ 14 → k ≠ 20 → k ≠ 34 → k ≠ 36 → k ≠ 37 → k ≠ 38 → k ≠ 39 → T.1 k = M.1 k := fun k a b c d e f g => by rw [t2.1 k a b c d e f g, yk k d f, xk k a b c d e f g]
    have t22 : T.2 = M.2 := by rw [t2.2.2.2.2, y2, x2]
    have t13 : T.1 34 13 = 0 := by rw [t2.2.1 13 (by decide) (by decide) (by decide) (by decide), yk 34 (by decide) (by decide)]; exact x13
    have t10 : T.1 34 10 = 1 := by rw [t2.2.1 10 (by decide) (by decide) (by decide) (by decide), yk 34 (by decide) (by decide)]; exact x10
    by_cases hr : sp_rows (sp_law inF ls) n (List.range n) (up S 19 (nI s)) = []
    · rw [if_pos hr, hr, cntV_0.mpr rfl, if_pos (by decide), show nI s + 1 = nI (s + 1) from (nI_succ s).symm]
      refine ih (s + 1) F (by omega) (by omega) (by omega) T tk t22 t13 t10 (fun j hj => ?_) (fun j h17 h19 => ?_)
      · rcases t4 j (by omega) (by omega) with a | a
        · rw [a, Nat.mul_zero, Nat.sub_zero, up_ne (by omega)]
        · rw [a, yk 37 (by decide) (by decide)]; exact x37 j hj
      · rw [t2.2.2.1 j h17, Y36, up_ne h19]
    · rw [if_neg hr, if_neg]
      · exact ⟨T, rfl, tk, t22, t13⟩
      · have : cntV 1 (sp_rows (sp_law inF ls) n (List.range n) (up S 19 (nI s))) = 1 := by
          unfold cntV; rw [if_neg (by decide), if_neg hr]
        rw [this]; decide
theorem r_spades {Z : az_S × Nat} {inF : Int32} {ls : Nat → sp_L} {n B : Nat} {S N R : Nat → Int32} {M : az_M} (hn : n ≤ 7) (RM : RefAt Z B inF ls N M) (h42 : M.1 42 = R) (wl : sp_wl B N) (sm : sp_sim S N) (hN : N 25 = nI n) (hB : B + 56 ≤ 1000000000) (had : Int32) (hhad : R 9 = had) : ∀ (e s F : Nat), s + e = 10 → 1 ≤ s → e + 1 < F → ∀ (X : az_M), orF 0 M X → (∃ v, X.1 42 = up R 9 v) →
    ∃ M', f_X12_spades_15 sp_G F had (-1) (nI s) X = some (sres (sp_law inF ls) n S e s, M') ∧ orF 0 M M' ∧ M'.1 42 = R := by
  have stop : ∀ (F : Nat) (v x3 : Int32) (X : az_M), orF 0 M X → (∃ w, X.1 42 = up R 9 w) → (10 ≤ x3 ∨ ¬ v = -1) → ∃ M', f_X12_spades_15 sp_G (F + 1) had v x3 X = some (v, M') ∧ orF 0 M M' ∧ M'.1 42 = R := by
    intro F v x3 X fx hx hc
    obtain ⟨w, hw⟩ := hx
    refine ⟨az_i X 42 9 had, ?_, fx.trans ⟨fun i _ a _ _ _ _ => gi_k a, fun j _ _ _ _ => by rw [gi_k (by decide)], fun _ _ _ _ => rfl, rfl, fun i hi => by omega, fun j hj => by omega⟩, ?_⟩
    · rw [f_X12_spades_15]
      unfold f_X12_spades_57
      by_cases h10 : 10 ≤ x3
      · rw [if_pos h10]
      · rw [if_neg h10, if_neg (hc.resolve_left h10)]
    · rw [az_i_ro, ro_eq, hw]
      funext j
      by_cases h9 : j = 9
      · rw [h9, up_eq, hhad]
      · rw [up_ne h9, up_ne h9]
  intro e
  induction e with
  | zero =>
    intro s F hs h1 hF X fx hx
    obtain ⟨F, rfl⟩ : ∃ F1, F = F1 + 1 := ⟨F - 1, by omega⟩
    exact stop F (-1) (nI s) X fx hx (Or.inl (by rw [show (10 : Int32) = nI 10 from rfl, n_le (by omega) (by omega)]; omega))
  | succ e ih =>
    intro s F hs h1 hF X fx hx
    obtain ⟨F, rfl⟩ : ∃ F1, F = F1 + 1 := ⟨F - 1, by omega⟩
    obtain ⟨v, hv⟩ := hx
    rw [f_X12_spades_15, if_neg (by rw [show (10 : Int32) = nI 10 from rfl, n_le (by omega) (by omega)]; omega), if_pos rfl]
    generalize hY : az_i X 42 9 (nI s) = Y
    have Y42 : Y.1 42 = up R 9 (nI s) := by
      rw [← hY, az_i_ro, ro_eq, hv]
      funext j
      by_cases h9 : j = 9
      · rw [h9, up_eq, up_eq]
      · rw [up_ne h9, up_ne h9, up_ne h9]
    have fY : orF 0 M Y := fx.trans (by rw [← hY]; exact ⟨fun i _ a _ _ _ _ => gi_k a, fun j _ _ _ _ => by rw [gi_k (by decide)], fun _ _ _ _ => rfl, rfl, fun i hi => by omega, fun j hj => by omega⟩)
    have RY : RefAt Z B inF ls (up N 19 (nI s)) Y := by
      refine ⟨?_, by rw [fY.2.1 20 (by decide) (by decide) (by decide) (by decide)]; exact RM.h20, ?_, RM.rg.up19 h1 (by omega), RM.hB⟩
      · obtain ⟨A, ref, cnt, bk⟩ := RM.bk
        rw [h42] at bk
        exact ⟨A, ref, cnt, bk.congR (fun j hj => by rw [Y42, up_ne (by omega)])⟩
      · rw [Y42, ← h42]; exact RM.pr.up19 RM.rg.q7 _
    have wl' : sp_wl B (up N 19 (nI s)) := by unfold sp_wl; rw [up_ne (by decide), up_ne (by decide), up_ne (by decide)]; exact wl
    obtain ⟨T, t1, t2, t3, t4⟩ := r_findOrders RY wl' (up_sim sm 19 (nI s)) hB (by rw [up_ne (by decide)]; exact hN) hn
    rw [t1, Option.bind_some, t2.1, sres]
    unfold f_X12_spades_50
    have fT : orF 0 M T := fY.trans t3
    have T42 : ∃ w, T.1 42 = up R 9 w := ⟨_, t4.trans Y42⟩
    have hlen : (sp_rows (sp_law inF ls) n (List.range n) (up S 19 (nI s))).length ≤ 823543 := Nat.le_trans (rows_len _ n _ _ (by rw [List.length_range]; omega)) (Nat.le_trans (Nat.pow_le_pow_right (by decide) hn) (by decide))
    rw [show nI s + 1 = nI (s + 1) from (nI_succ s).symm]
    by_cases hr : sp_rows (sp_law inF ls) n (List.range n) (up S 19 (nI s)) = []
    · rw [if_pos (show nI (sp_rows (sp_law inF ls) n (List.range n) (up S 19 (nI s))).length ≤ 0 by rw [hr]; decide), if_pos hr]
      exact ih (s + 1) F (by omega) (by omega) (by omega) T fT T42
    · rw [if_neg (show ¬ nI (sp_rows (sp_law inF ls) n (List.range n) (up S 19 (nI s))).length ≤ 0 by
        rw [show (0 : Int32) = nI 0 from rfl, n_le (by omega) (by omega)]
        intro e
        exact hr (List.length_eq_zero_iff.mp (by omega))), if_neg hr]
      obtain ⟨F, rfl⟩ : ∃ F1, F = F1 + 1 := ⟨F - 1, by omega⟩
      exact stop F (nI s) (nI (s + 1)) T fT T42 (Or.inr (by rw [n_nm1 (by omega)]; exact not_false))
theorem ob_spades : Ob_spades az_Inv sp_G := by
  intro m Z M hm h
  obtain ⟨g1, g2, g3, ⟨ls, g4, g4b⟩, g5, g6, g7, g8, g9, g10, g11⟩ := h
  have h : az_Inv m Z M := ⟨g1, g2, g3, ⟨ls, g4, g4b⟩, g5, g6, g7, g8, g9, g10, g11⟩
  obtain ⟨n, hn, -, hn7⟩ := g3.2.2.2.2.1.2.2.1.nat (by decide) (by decide)
  have hn7' : n ≤ 7 := by omega
  generalize hS : cpy (M.1 2) (M.1 36) 0 0 145 = S
  have S2 : ∀ j, j < 145 → S j = M.1 2 j := fun j hj => by rw [← hS]; exact cpy_same j hj
  have rgS : sp_rg (sp_B m) S := g3.2.congN S2
  generalize hX : ro (az_i (ro (az_i M 34 13 0) 36 S) 34 10 1) 37 (cpy ((az_i (ro (az_i M 34 13 0) 36 S) 34 10 1).1 36) ((az_i (ro (az_i M 34 13 0) 36 S) 34 10 1).1 37) 0 (17 * 0) 17) = X
  have xk : ∀ k, k ≠ 34 → k ≠ 36 → k ≠ 37 → X.1 k = M.1 k := fun k a b c => by rw [← hX, ro_ne c, gi_k a, ro_ne b, gi_k a]
  have X36 : X.1 36 = S := by rw [← hX, ro_ne (by decide), gi_k (by decide), ro_eq]
  have X37 : ∀ j, j < 17 → X.1 37 j = S j := fun j hj => by
    rw [← hX, ro_eq, cpy_in (by omega), gi_k (by decide), ro_eq]; exact congrArg S (by omega)
  have x13 : X.1 34 13 = 0 := by rw [← hX]; rfl
  have x10 : X.1 34 10 = 1 := by rw [← hX]; rfl
  have x2 : X.2 = M.2 := by rw [← hX]; rfl
  have CX : ClsAt Z (sp_B m) 35 (M.1 3 2) ls S X := ⟨⟨M.1 42, by rw [x2, xk 3 (by decide) (by decide) (by decide)]; exact g4.cong (fun k hk => xk k (by omega) (by omega) (by omega))⟩, by rw [xk 3 (by decide) (by decide) (by decide)], X36, rgS, by unfold sp_B; omega, by decide⟩
  obtain ⟨Y, y1, yk, y2, y13⟩ := c_spades hn7' CX (by rw [S2 25 (by decide)]; exact hn) (by unfold sp_B; omega) 9 1 sp_G (by omega) (by omega) (by decide) X (fun _ _ _ _ _ _ _ _ => rfl) rfl x13 x10 X37 (fun j _ _ => by rw [X36])
  have YK : ∀ k, k ≠ 14 → k ≠ 20 → k ≠ 34 → k ≠ 36 → k ≠ 37 → k ≠ 38 → k ≠ 39 → Y.1 k = M.1 k := fun k a b c d e f g => by rw [yk k a b c d e f g, xk k c d e]
  generalize hW : az_i Y 40 0 0 = W
  have wk : ∀ k, k ≠ 40 → W.1 k = Y.1 k := fun k a => by rw [← hW, gi_k a]
  have w40 : ∀ j, j ≠ 0 → W.1 40 j = M.1 40 j := fun j a => by rw [← hW, gi, if_pos rfl, if_neg a, YK 40 (by decide) (by decide) (by decide) (by decide) (by decide) (by decide) (by decide)]
  have w42 : W.1 42 = M.1 42 := by rw [wk 42 (by decide), YK 42 (by decide) (by decide) (by decide) (by decide) (by decide) (by decide) (by decide)]
  have w2 : W.2 = M.2 := by rw [← hW]; show Y.2 = _; rw [y2, x2]
  have RW : RefAt Z (sp_B m + 999) (M.1 3 2) ls (M.1 2) W := ⟨⟨M.1, M.2.2 4, M.1 3 1, by rw [w42]; exact g4⟩, by rw [w40 20 (by decide)]; exact g11.1, by rw [w42]; exact g3.1, g3.2.mono (by omega), by unfold sp_B; omega⟩
  obtain ⟨V, v1, v2, v3⟩ := r_spades (S := S) hn7' RW w42 g3.2.wl (fun j hj => S2 j hj.1) hn (by unfold sp_B; omega) (M.1 42 9) rfl 9 1 sp_G (by omega) (by omega) (by decide) W (orF.refl 0 W) ⟨M.1 42 9, by rw [w42, up_self]⟩
  refine ⟨sres (sp_law (M.1 3 2) ls) n S 9 1, Y, V, ?_, ?_, ?_⟩
  · unfold f_X11_spades f_X7_fewestSpades
    rw [p_copy, Option.bind_some, show (az_i M 34 13 0).1 (1 + 1) = M.1 2 from gi_k (by decide), show (az_i M 34 13 0).1 (35 + 1) = M.1 36 from gi_k (by decide), hS]
    show (((f_X7_keepSheet (nI 0) (az_i (ro (az_i M 34 13 0) 36 S) 34 10 1)).bind _).bind _) = _
    rw [p_keepSheet (by decide), Option.bind_some, hX, show f_X7_fewestSpades_28 Z sp_G sp_G 1 X = _ from y1]
    rfl
  · unfold f_X12_spades
    rw [hW, show f_X12_term 3 W = some (W.1 42 9) from p_term (k := 3) (by decide) W, Option.bind_some, w42]
    exact v1
  · refine az_Inv.mono (h.rows (fun k hk => ?_) ?_ (fun j hj => ?_) (fun j hj => ?_) (fun k hk => ?_) ?_)
    · unfold keK at hk
      by_cases h42 : k = 42
      · rw [h42, v3]
      · rw [v2.1 k (by omega) h42 (by omega) (by omega) (by omega) (by omega), wk k (by omega), YK k (by omega) (by omega) (by omega) (by omega) (by omega) (by omega) (by omega)]
    · rw [v2.1 34 (by decide) (by decide) (by decide) (by decide) (by decide) (by decide), wk 34 (by decide)]; exact y13
    · rw [v2.2.1 j (by omega) (by omega) (by omega) (by omega), w40 j (by omega)]
    · rw [v2.1 45 (by decide) (by decide) (by decide) (by decide) (by decide) (by decide), wk 45 (by decide), YK 45 (by decide) (by decide) (by decide) (by decide) (by decide) (by decide) (by decide)]
    · rw [v2.2.2.1 k (by omega) (by omega) (by omega), w2]
    · rw [v2.2.2.2.1, w2]
