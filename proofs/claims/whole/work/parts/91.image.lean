/-! image() -/
def az_InvI (m : Nat) (Z : az_S × Nat) (M : az_M) (p : Nat) : Prop :=
  (sp_shape Z ∧ sp_tk Z M.2.2) ∧ az_rokz Z M ∧ (sp_pr (M.1 2) (M.1 42) ∧ sp_rg (sp_B m) (M.1 2)) ∧
  (∃ ls, sp_bk Z M.1 (M.2.2 4) (M.1 3 1) (M.1 3 2) (M.1 42) ls) ∧
  (M.1 5 1 = M.1 40 13 ∧ sp_in (M.1 5 1) 0 400 ∧ ∀ i, i < 400 → M.1 6 i = M.1 49 i ∧ sp_in (M.1 6 i) 0 255) ∧
  (M.1 0 13 = M.1 40 18 ∧ M.1 0 14 = M.1 40 11 ∧ M.1 0 15 = M.1 40 55) ∧
  (M.1 12 0 = M.1 41 1 ∧ M.1 12 1 = M.1 41 2 ∧ M.1 12 2 = M.1 41 3 ∧ M.1 12 3 = M.1 41 5 ∧ M.1 12 4 = M.1 41 6) ∧
  sp_past (sp_B m) (M.1 7 2) (M.1 7 3) (M.1 8) (M.1 9) (M.1 40 8) (M.1 46) (M.1 45) ∧
  sp_image (sp_B m) Z M (1 - p) ∧
  (M.1 28 1 = M.1 40 58 ∧ (M.1 28 1 = 0 ∨ (M.1 28 1 = 1 ∧ ∀ j, j < 6 → M.1 29 j = M.1 70 j))) ∧
  (M.1 40 20 = 0 ∧ (∀ j, j < 11 → M.2.1 55 j = az_M0.2.1 55 j) ∧ (∀ j, j < 8 → M.2.1 56 j = az_M0.2.1 56 j) ∧ ∀ j, j < 5 → M.2.1 57 j = az_M0.2.1 57 j)
theorem r_imageAll {p : Nat} (hp : p < 2) (M : az_M) : f_X12_image_23 sp_G sp_G (nI p) 0 M = some (0, az_i (az_i (ro M 43 (cpy (M.1 42) (M.1 43) 0 (5550 * p) 5550)) 44 p 1) 40 1 0) := by
  have e : f_X12_image_23 sp_G sp_G (nI p) (nI 0) M = some (0, az_i (az_i (ro M 43 (cpy (M.1 42) (M.1 43) 0 (5550 * p) 5550)) 44 p 1) 40 1 0) := by
    refine (lp_fill (f := fun F i M => f_X12_image_23 sp_G F (nI p) i M) (fin := fun M => some (0, az_i (az_i M 44 p 1) 40 1 0)) (M := M) (k := 43) (d := 5550 * p) (n := 5550) (g := fun i => M.1 42 (0 + i)) (F := sp_G) ?_ ?_ (by decide)).trans rfl
    · intro F i h hi hh
      show f_X12_image_23 sp_G (F + 1) (nI p) (nI i) _ = f_X12_image_23 sp_G F (nI p) (nI (i + 1)) _
      rw [f_X12_image_23]
      simp (disch := omega) only [n_addl, n_addr, n_add, n_mull, n_mulr, n_mul, n_sub, n_subr, n_subl, n_cl, n_lt, n_le, n_eq, n_ltl, n_ltr, n_lel, n_ler, n_eqr, n_eql, n_nm1, n_m1n, n_m1lt, n_ltm1, l_ltr, l_ltl, l_ler, l_lel, l_m1lt, l_nneg, if_true, if_false, or_false, false_or, or_true, true_or, and_true, true_and, and_false, false_and, not_true_eq_false, not_false_eq_true, Option.bind_some, Option.bind_none, reduceIte, ltT, ltF, leT, leF, eqT, eqF, nI_lt0, az_i_ro, ro_eq, ro_ro, Nat.zero_add]
      rw [ro_ne (by decide)]
    · intro F h
      show f_X12_image_23 sp_G (F + 1) (nI p) (nI 5550) _ = _
      rw [f_X12_image_23, if_pos (by decide)]
      simp (disch := omega) only [n_addl, n_addr, n_add, n_mull, n_mulr, n_mul, n_sub, n_subr, n_subl, n_cl, n_lt, n_le, n_eq, n_ltl, n_ltr, n_lel, n_ler, n_eqr, n_eql, n_nm1, n_m1n, n_m1lt, n_ltm1, l_ltr, l_ltl, l_ler, l_lel, l_m1lt, l_nneg, if_true, if_false, or_false, false_or, or_true, true_or, and_true, true_and, and_false, false_and, not_true_eq_false, not_false_eq_true, Option.bind_some, Option.bind_none, reduceIte, ltT, ltF, leT, leF, eqT, eqF, nI_lt0]
      rfl
  exact e
theorem image_core {m p t u : Nat} {Z : az_S × Nat} {M : az_M} (hp : p < 2) (h : az_InvI m Z M p) (i10 : M.2.2 10 p = some t) (i11 : M.2.2 11 p = some u) (ht : 71 ≤ t) (hu : 71 ≤ u) (pt : az_pok Z t = true) (bu : az_bok Z u = true) (d10 : M.2.2 10 (1 - p) ≠ some t) (d11 : M.2.2 11 (1 - p) ≠ some u) (ks : List (Nat × Nat)) :
    ∃ M1 M2 : az_M, f_X11_image_c Z sp_G p ks M = some (0, M1, ks) ∧ f_X12_image sp_G (nI p) M1 = some (0, M2) ∧ az_Inv m Z M2 := by
  obtain ⟨g1, g2, g3, ⟨ls, g4⟩, g5, g6, g7, g8, g9, g10, g11⟩ := h
  have hin : ∀ X, f_X12_in (nI p).toInt64 0 1 X = some 1 := fun X => g_in (Nat.zero_le p) (show p ≤ 1 by omega) (by decide) X
  have kp := pt
  unfold az_pok at kp
  simp only [Bool.and_eq_true, decide_eq_true_eq] at kp
  obtain ⟨⟨⟨kp1, kp2⟩, kp3⟩, kp4⟩ := kp
  have kb := bu
  unfold az_bok at kb
  simp only [Bool.and_eq_true, decide_eq_true_eq] at kb
  obtain ⟨⟨⟨kb1, kb2⟩, kb3⟩, kb4⟩ := kb
  have tk : ∀ s, az_tok Z s = true → s ≠ t + 1 ∧ s + 1 ≠ t + 1 ∧ s + 2 ≠ t + 1 ∧ s ≠ u ∧ s + 1 ≠ u ∧ s + 2 ≠ u := by
    intro s hs
    unfold az_tok at hs
    simp only [Bool.and_eq_true, decide_eq_true_eq] at hs
    obtain ⟨⟨⟨s1, s2⟩, s3⟩, s4⟩ := hs
    refine ⟨fun e => ?_, fun e => ?_, fun e => ?_, fun e => ?_, fun e => ?_, fun e => ?_⟩
    · rw [e, kp3] at s2; exact absurd s2 (by decide)
    · rw [show s = t by omega, kp2] at s2; exact absurd s2 (by decide)
    · rw [show s + 1 = t by omega, kp2] at s3; exact absurd s3 (by decide)
    · rw [e, kb2] at s2; exact absurd s2 (by decide)
    · rw [e, kb2] at s3; exact absurd s3 (by decide)
    · rw [e, kb2] at s4; exact absurd s4 (by decide)
  have tu : t + 1 ≠ u := fun e => by rw [e, kb2] at kp3; exact absurd kp3 (by decide)
  generalize hM1 : ro M (t + 1) (cpy (M.1 2) (M.1 (t + 1)) 0 0 145) = M1
  have M1K : ∀ k, k ≠ t + 1 → M1.1 k = M.1 k := fun k hk => by rw [← hM1, ro_ne hk]
  have M12 : M1.2 = M.2 := by rw [← hM1]; rfl
  obtain ⟨M2, c1, c2, c3, c4, c5, c6, c7, c8, c9⟩ := p_bcopy (Z := Z) (o := u) (u := 3) (M := M1) (by omega) (by omega) (fun i hi => by rw [M12]; exact g1.2.1 i hi)
  generalize hC : az_i (az_i M2 0 12 0) 34 13 0 = C
  have CK : ∀ k, k ≠ 0 → k ≠ 34 → k ≠ t + 1 → k ≠ u → C.1 k = M.1 k := fun k a b c d => by
    rw [← hC, gi_k b, gi_k a, c2 k d, M1K k c]
  have C2 : C.2 = M2.2 := by rw [← hC]; rfl
  generalize hE : az_i (az_i (ro (az_i C 40 0 0) 43 (cpy ((az_i C 40 0 0).1 42) ((az_i C 40 0 0).1 43) 0 (5550 * p) 5550)) 44 p 1) 40 1 0 = E
  have EK : ∀ k, k ≠ 40 → k ≠ 43 → k ≠ 44 → E.1 k = C.1 k := fun k a b c => by rw [← hE, gi_k a, gi_k c, ro_ne b, gi_k a]
  have EM : ∀ k, k ≠ 0 → k ≠ 34 → k ≠ t + 1 → k ≠ u → k ≠ 40 → k ≠ 43 → k ≠ 44 → E.1 k = M.1 k := fun k a b c d e f g => by rw [EK k e f g, CK k a b c d]
  have C40 : C.1 40 = M.1 40 := CK 40 (by decide) (by decide) (by omega) (by omega)
  have EJ : ∀ j, j ≠ 0 → j ≠ 1 → E.1 40 j = M.1 40 j := fun j a b => by
    rw [← hE, gi, if_pos rfl, if_neg b, gi_k (by decide), ro_ne (by decide), gi, if_pos rfl, if_neg a, C40]
  have C42 : C.1 42 = M.1 42 := CK 42 (by decide) (by decide) (by omega) (by omega)
  have C43 : C.1 43 = M.1 43 := CK 43 (by decide) (by decide) (by omega) (by omega)
  have C44 : C.1 44 = M.1 44 := CK 44 (by decide) (by decide) (by omega) (by omega)
  have E43 : E.1 43 = cpy (M.1 42) (M.1 43) 0 (5550 * p) 5550 := by
    rw [← hE, gi_k (by decide), gi_k (by decide), ro_eq, gi_k (by decide), gi_k (by decide), C42, C43]
  have E44 : ∀ j, E.1 44 j = if j = p then 1 else M.1 44 j := fun j => by
    rw [← hE, gi_k (by decide), gi, if_pos rfl, ro_ne (by decide), gi_k (by decide), C44]
  have R' : ∀ j, j < 5550 → E.1 43 (5550 * p + j) = M.1 42 j := fun j hj => by rw [E43, cpy_in (by omega), Nat.zero_add, Nat.add_sub_cancel_left]
  have Ro : ∀ j, j < 5550 → E.1 43 (5550 * (1 - p) + j) = M.1 43 (5550 * (1 - p) + j) := fun j hj => by rw [E43, cpy_out (by omega)]
  have Eq2 : E.2 = M2.2 := by rw [← hE]; exact C2
  have Et : E.1 (t + 1) = cpy (M.1 2) (M.1 (t + 1)) 0 0 145 := by
    rw [EK _ (by omega) (by omega) (by omega), ← hC, gi_k (by omega), gi_k (by omega), c2 _ tu, ← hM1, ro_eq]
  have Eu : ∀ j, E.1 u j = M2.1 u j := fun j => by rw [EK _ (by omega) (by omega) (by omega), ← hC, gi_k (by omega), gi_k (by omega)]
  have qk : ∀ k, k ≠ u + 1 → E.2.2 k = M.2.2 k := fun k hk => by rw [Eq2, c7 k hk, M12]
  have qi : ∀ i, i < 6 → E.2.2 (u + 1) i = M.2.2 4 i := fun i hi => by rw [Eq2, c8 i hi, M12]
  have zz : zle Z Z := ⟨Nat.le_refl _, fun _ _ => ⟨rfl, rfl⟩⟩
  have ET : ∀ s, 71 ≤ s → az_tok Z s = true → ∀ k, (k = s ∨ k = s + 1 ∨ k = s + 2) → E.1 k = M.1 k := fun s hs ts k hk => by
    have := tk s ts
    exact EM k (by omega) (by omega) (by omega) (by omega) (by omega) (by omega) (by omega)
  have io : sp_image (sp_B m) Z E (1 - p) := by
    refine g9.ext zz g1.1.1 Ro (by rw [E44, if_neg (by omega)]) (by rw [qk 10 (by omega)]) (by rw [qk 11 (by omega)]) ET (fun t' h1 h2 h3 => ?_) (fun u' h1 h2 h3 => ⟨?_, ?_⟩)
    · have : t' ≠ t := fun e => d10 (e ▸ h1)
      have : t' + 1 ≠ u := fun e => by
        unfold az_pok at h3
        simp only [Bool.and_eq_true, decide_eq_true_eq] at h3
        have := h3.1.2
        rw [e, kb2] at this; exact absurd this (by decide)
      exact EM _ (by omega) (by omega) (by omega) (by omega) (by omega) (by omega) (by omega)
    · have : u' ≠ u := fun e => d11 (e ▸ h1)
      have : u' ≠ t + 1 := fun e => by
        unfold az_bok at h3
        simp only [Bool.and_eq_true, decide_eq_true_eq] at h3
        have := h3.1.1.2
        rw [e, kp3] at this; exact absurd this (by decide)
      exact EM _ (by omega) (by omega) (by omega) (by omega) (by omega) (by omega) (by omega)
    · have : u' ≠ u := fun e => d11 (e ▸ h1)
      exact qk _ (by omega)
  have ip : sp_image (sp_B m) Z E p := by
    refine Or.inr ⟨by rw [E44, if_pos rfl], t, u, ls, by rw [qk 10 (by omega)]; exact i10, by rw [qk 11 (by omega)]; exact i11, ht, hu, pt, bu, ?_, ?_, ?_⟩
    · rw [Et]; exact sp_pr.congN cpy_same g3.2.q7 (g3.1.congR (fun j hj => R' j (by omega)) g3.2.q7)
    · rw [Et]; exact g3.2.congN cpy_same
    · rw [Eu 1, Eu 2, c4, c5, M1K 3 (by omega)]
      exact ((g4.ext zz g1.1.1 ET).congF qi).congR (fun j hj => R' j (by omega))
  refine ⟨C, E, ?_, ?_, ⟨⟨g1.1, ⟨fun i hi => ?_, fun k v hk hv i hi => ?_⟩⟩, ⟨g2.1, fun k hk h16 j t' he => ?_⟩, ⟨?_, ?_⟩, ⟨ls, ?_, Or.inl ?_⟩, ?_, ?_, ?_, ?_, ⟨?_, ?_, ?_, ?_⟩, ?_, ?_⟩⟩
  · unfold f_X11_image_c
    rw [i10, Option.bind_some, if_pos pt, p_copy, Option.bind_some, hM1, M12, i11, Option.bind_some, if_pos bu, c1, Option.bind_some, p_settle, hC]
    rfl
  · unfold f_X12_image
    rw [hin, Option.bind_some, if_neg (by decide), r_imageAll hp, hE]
  · rw [qk 4 (by omega)]; exact g1.2.1 i hi
  · rw [qk 11 (by omega)] at hv
    by_cases hkp : k = p
    · subst hkp
      rw [i11] at hv
      injection hv with hv
      subst hv
      rw [qi i hi]; exact g1.2.1 i hi
    · have hvu : v ≠ u := fun e => d11 (by rw [← e, ← hv, show 1 - p = k by omega])
      rw [qk (v + 1) (by omega)]; exact g1.2.2 k v hk hv i hi
  · by_cases h4 : k = u + 1
    · subst h4
      by_cases hj : j < 6
      · rw [qi j hj] at he
        have hk4 := (g1.1.2 4 (by decide)).1
        exact g2.2 4 (by have := g1.1.1; omega) (by rw [hk4]; decide) j t' he
      · rw [Eq2, c9 j (by omega), M12] at he; exact g2.2 (u + 1) hk h16 j t' he
    · rw [qk k h4] at he; exact g2.2 k hk h16 j t' he
  · rw [EM 2 (by decide) (by decide) (by omega) (by omega) (by decide) (by decide) (by decide), EM 42 (by decide) (by decide) (by omega) (by omega) (by decide) (by decide) (by decide)]; exact g3.1
  · rw [EM 2 (by decide) (by decide) (by omega) (by omega) (by decide) (by decide) (by decide)]; exact g3.2
  · rw [EM 3 (by decide) (by decide) (by omega) (by omega) (by decide) (by decide) (by decide), EM 42 (by decide) (by decide) (by omega) (by omega) (by decide) (by decide) (by decide), qk 4 (by omega)]
    exact g4.ext zz g1.1.1 ET
  · rw [EK 34 (by decide) (by decide) (by decide), ← hC]; rfl
  · rw [EM 5 (by decide) (by decide) (by omega) (by omega) (by decide) (by decide) (by decide), EM 6 (by decide) (by decide) (by omega) (by omega) (by decide) (by decide) (by decide), EM 49 (by decide) (by decide) (by omega) (by omega) (by decide) (by decide) (by decide), EJ 13 (by decide) (by decide)]; exact g5
  · rw [EK 0 (by decide) (by decide) (by decide), EJ 18 (by decide) (by decide), EJ 11 (by decide) (by decide), EJ 55 (by decide) (by decide)]
    have z : ∀ j, j ≠ 12 → C.1 0 j = M.1 0 j := fun j hj => by
      rw [← hC, gi_k (by decide), gi, if_pos rfl, if_neg hj, c2 0 (by omega), M1K 0 (by omega)]
    refine ⟨?_, by rw [z 13 (by decide)]; exact g6.1, by rw [z 14 (by decide)]; exact g6.2.1, by rw [z 15 (by decide)]; exact g6.2.2⟩
    rw [← hC, ← hE]; rfl
  · rw [EM 12 (by decide) (by decide) (by omega) (by omega) (by decide) (by decide) (by decide), EM 41 (by decide) (by decide) (by omega) (by omega) (by decide) (by decide) (by decide)]; exact g7
  · rw [EM 7 (by decide) (by decide) (by omega) (by omega) (by decide) (by decide) (by decide), EM 8 (by decide) (by decide) (by omega) (by omega) (by decide) (by decide) (by decide), EM 9 (by decide) (by decide) (by omega) (by omega) (by decide) (by decide) (by decide), EM 46 (by decide) (by decide) (by omega) (by omega) (by decide) (by decide) (by decide), EM 45 (by decide) (by decide) (by omega) (by omega) (by decide) (by decide) (by decide), EJ 8 (by decide) (by decide)]; exact g8
  · rcases (show p = 0 ∨ p = 1 by omega) with rfl | rfl
    · exact ip
    · exact io
  · rcases (show p = 0 ∨ p = 1 by omega) with rfl | rfl
    · exact io
    · exact ip
  · rw [qk 10 (by omega)]
    intro t' h1 h2
    rcases (show p = 0 ∨ p = 1 by omega) with rfl | rfl
    · rw [i10] at h1; injection h1 with h1; subst h1; exact d10 h2
    · rw [i10] at h2; injection h2 with h2; subst h2; exact d10 h1
  · rw [qk 11 (by omega)]
    intro t' h1 h2
    rcases (show p = 0 ∨ p = 1 by omega) with rfl | rfl
    · rw [i11] at h1; injection h1 with h1; subst h1; exact d11 h2
    · rw [i11] at h2; injection h2 with h2; subst h2; exact d11 h1
  · rw [EM 28 (by decide) (by decide) (by omega) (by omega) (by decide) (by decide) (by decide), EM 29 (by decide) (by decide) (by omega) (by omega) (by decide) (by decide) (by decide), EM 70 (by decide) (by decide) (by omega) (by omega) (by decide) (by decide) (by decide), EJ 58 (by decide) (by decide)]; exact g10
  · rw [EJ 20 (by decide) (by decide), Eq2, c6, M12]; exact g11
theorem ob_image : Ob_image az_Inv sp_G := by
  intro m Z M a1 _ h
  refine ⟨h.2.1, ?_⟩
  rcases r_cases a1 0 1 (by decide) (by decide) with ⟨p, _, hp, rfl⟩ | ⟨hb, hi⟩
  · obtain ⟨g1, g2, g3, ⟨ls, g4, g4b⟩, g5, g6, g7, g8, g9, g10, g11⟩ := h.mono
    have im : sp_image (sp_B (m + 1)) Z M p ∧ sp_image (sp_B (m + 1)) Z M (1 - p) ∧ (∀ t, M.2.2 10 p = some t → M.2.2 10 (1 - p) ≠ some t) ∧ ∀ u, M.2.2 11 p = some u → M.2.2 11 (1 - p) ≠ some u := by
      rcases (show p = 0 ∨ p = 1 by omega) with rfl | rfl
      · exact ⟨g9.1, g9.2.1, g9.2.2.1, g9.2.2.2⟩
      · exact ⟨g9.2.1, g9.1, fun t h1 h2 => g9.2.2.1 t h2 h1, fun t h1 h2 => g9.2.2.2 t h2 h1⟩
    obtain ⟨im, io, dt, du⟩ := im
    have e1 : f_X11_image Z sp_G (nI p) M = (if M.2.2 10 p = none then f_X11_image_c (az_zx Z [(4, 0), (13, 145), (0, 0), (16, 6)]) sp_G p [(4, 0), (13, 145), (0, 0), (16, 6)] (az_mi M Z.2 p)
        else if M.2.2 11 p = none then f_X11_image_c (az_zx Z [(4, 0), (13, 145), (0, 0), (16, 6)]) sp_G p [(4, 0), (13, 145), (0, 0), (16, 6)] (az_mi M Z.2 p)
        else f_X11_image_c Z sp_G p [] M) := by
      unfold f_X11_image
      simp (disch := omega) only [n_addl, n_addr, n_add, n_mull, n_mulr, n_mul, n_sub, n_subr, n_subl, n_cl, n_lt, n_le, n_eq, n_ltl, n_ltr, n_lel, n_ler, n_eqr, n_eql, n_nm1, n_m1n, n_m1lt, n_ltm1, l_ltr, l_ltl, l_ler, l_lel, l_m1lt, l_nneg, if_true, if_false, or_false, false_or, or_true, true_or, and_true, true_and, and_false, false_and, not_true_eq_false, not_false_eq_true, Option.bind_some, Option.bind_none, reduceIte, ltT, ltF, leT, leF, eqT, eqF, nI_lt0]
    rw [e1]
    rcases im with ⟨i44, i10, i11⟩ | ⟨i44, t, u, ls', i10, i11, ht, hu, pt, bu, pr, rg, bk⟩
    · rw [if_pos i10]
      generalize hZ : az_zx Z [(4, 0), (13, 145), (0, 0), (16, 6)] = Z'
      have hz : zle Z Z' := hZ ▸ zle_zx Z _
      have h71 := g1.1.1
      have Z2 : Z'.2 = Z.2 + 4 := by rw [← hZ]; rfl
      have zk : ∀ i, Z'.1.1 (Z.2 + i) = ([(4, 0), (13, 145), (0, 0), (16, 6)].getD i (0, 0)).1 := fun i => by
        rw [← hZ]; show (if Z.2 + i < Z.2 then _ else _) = _
        rw [if_neg (by omega), Nat.add_sub_cancel_left]
      have zl : ∀ i, Z'.1.2 (Z.2 + i) = ([(4, 0), (13, 145), (0, 0), (16, 6)].getD i (0, 0)).2 := fun i => by
        rw [← hZ]; show (if Z.2 + i < Z.2 then _ else _) = _
        rw [if_neg (by omega), Nat.add_sub_cancel_left]
      generalize hF : az_mi M Z.2 p = F
      have FK : ∀ k, k < Z.2 → F.1 k = M.1 k := fun k hk => by
        rw [← hF]
        show (if k = Z.2 + 2 then _ else if k = Z.2 + 1 then _ else M.1 k) = _
        rw [if_neg (by omega), if_neg (by omega)]
      have F21 : F.2.1 = M.2.1 := by rw [← hF]; rfl
      have Fq : ∀ k, F.2.2 k = if k = 11 then (fun i => if i = p then some (Z.2 + 2) else M.2.2 11 i) else if k = Z.2 + 3 then (fun _ => none) else if k = 10 then (fun i => if i = p then some Z.2 else M.2.2 10 i) else M.2.2 k := fun k => by
        rw [← hF]
        unfold az_mi az_q az_mb az_mp
        by_cases h1 : k = 11
        · subst h1
          simp only [if_pos]
          funext i
          unfold va_up
          by_cases hi : i = p
          · rw [if_pos hi, if_pos hi]
          · rw [if_neg hi, if_neg hi, if_neg (by omega), if_neg (by decide)]
        · simp only [if_neg h1]
          by_cases h2 : k = Z.2 + 3
          · rw [if_pos (show k = Z.2 + 2 + 1 by omega), if_pos h2]
          · rw [if_neg (show ¬ k = Z.2 + 2 + 1 by omega), if_neg h2]
            by_cases h3 : k = 10
            · subst h3
              simp only [if_pos]
              funext i
              unfold va_up
              rfl
            · rw [if_neg h3, if_neg h3]
      have F10 : F.2.2 10 = fun i => if i = p then some Z.2 else M.2.2 10 i := by rw [Fq, if_neg (by decide), if_neg (by omega), if_pos rfl]
      have F11 : F.2.2 11 = fun i => if i = p then some (Z.2 + 2) else M.2.2 11 i := by rw [Fq, if_pos rfl]
      have Fo : ∀ k, k ≠ 10 → k ≠ 11 → k < Z.2 → F.2.2 k = M.2.2 k := fun k a b c => by rw [Fq, if_neg b, if_neg (by omega), if_neg a]
      have FT : ∀ s, 71 ≤ s → az_tok Z s = true → ∀ k, (k = s ∨ k = s + 1 ∨ k = s + 2) → F.1 k = M.1 k := fun s hs ts k hk => by
        have := (hz.tok ts).2
        exact FK k (by omega)
      have hI : az_InvI (m + 1) Z' F p := by
        refine ⟨⟨hz.shape g1.1, ⟨fun i hi => ?_, fun k v hk hv i hi => ?_⟩⟩, ⟨fun k hk h13 j hj => ?_, fun k hk h16 j t he => ?_⟩, ?_, ⟨ls, ?_⟩, ?_, ?_, ?_, ?_, ?_, ?_, ?_⟩
        · rw [Fo 4 (by decide) (by decide) (by omega)]; exact hz.toko (g1.2.1 i hi)
        · rw [F11] at hv
          by_cases hkp : k = p
          · subst hkp
            simp only [if_pos] at hv
            injection hv with hv
            subst hv
            rw [Fq, if_neg (by omega), if_pos (by omega)]; rfl
          · simp only [if_neg hkp] at hv
            have hx := io.u71 (u := v) (by rw [show 1 - p = k by omega]; exact hv)
            have hy := (hz.bok hx.2).2
            rw [Fo (v + 1) (by omega) (by omega) (by omega)]
            exact hz.toko (g1.2.2 k v hk hv i hi)
        · rw [Z2] at hk ⊢
          by_cases hkz : k < Z.2
          · rw [(hz.2 k hkz).1] at h13 hj ⊢
            have := g2.1 k hkz h13 j hj
            omega
          · obtain ⟨i, rfl⟩ : ∃ i, k = Z.2 + i := ⟨k - Z.2, by omega⟩
            rw [zk] at h13 hj ⊢
            rcases (show i = 0 ∨ i = 1 ∨ i = 2 ∨ i = 3 by omega) with rfl | rfl | rfl | rfl
            · show Z.2 + 0 + 1 < _; omega
            · exact absurd h13 (by decide)
            · show Z.2 + 2 + 1 < _; omega
            · exact absurd h13 (by decide)
        · rw [Z2] at hk ⊢
          by_cases hkz : k < Z.2
          · rw [(hz.2 k hkz).1] at h16
            by_cases h11 : k = 11
            · subst h11
              rw [F11] at he
              by_cases hjp : j = p
              · simp only [if_pos hjp] at he; injection he with he; omega
              · simp only [if_neg hjp] at he
                have := g2.2 11 hkz h16 j t he; omega
            · by_cases h10 : k = 10
              · subst h10
                rw [F10] at he
                by_cases hjp : j = p
                · simp only [if_pos hjp] at he; injection he with he; omega
                · simp only [if_neg hjp] at he
                  have := g2.2 10 hkz h16 j t he; omega
              · rw [Fo k h10 h11 hkz] at he
                have := g2.2 k hkz h16 j t he; omega
          · obtain ⟨i, rfl⟩ : ∃ i, k = Z.2 + i := ⟨k - Z.2, by omega⟩
            rw [zk] at h16
            rcases (show i = 0 ∨ i = 1 ∨ i = 2 ∨ i = 3 by omega) with rfl | rfl | rfl | rfl
            · exact absurd h16 (by decide)
            · exact absurd h16 (by decide)
            · exact absurd h16 (by decide)
            · rw [Fq, if_neg (by omega), if_pos rfl] at he; cases he
        · rw [FK 2 (by omega), FK 42 (by omega)]; exact g3
        · rw [FK 3 (by omega), FK 42 (by omega), Fo 4 (by decide) (by decide) (by omega)]
          exact g4.ext hz h71 FT
        · rw [FK 5 (by omega), FK 6 (by omega), FK 49 (by omega), FK 40 (by omega)]; exact g5
        · rw [FK 0 (by omega), FK 40 (by omega)]; exact g6.2
        · rw [FK 12 (by omega), FK 41 (by omega)]; exact g7
        · rw [FK 7 (by omega), FK 8 (by omega), FK 9 (by omega), FK 40 (by omega), FK 45 (by omega), FK 46 (by omega)]; exact g8
        · refine io.ext hz h71 (fun j _ => by rw [FK 43 (by omega)]) (by rw [FK 44 (by omega)]) (by rw [F10]; exact if_neg (by omega)) (by rw [F11]; exact if_neg (by omega)) FT (fun t _ _ h3 => ?_) (fun u _ h2 h3 => ⟨?_, ?_⟩)
          · have := (hz.pok h3).2; exact FK _ (by omega)
          · have := (hz.bok h3).2; exact FK _ (by omega)
          · have := (hz.bok h3).2; exact Fo _ (by omega) (by omega) (by omega)
        · rw [FK 28 (by omega), FK 29 (by omega), FK 70 (by omega), FK 40 (by omega)]; exact g10
        · rw [FK 40 (by omega), F21]; exact g11
      have pt : az_pok Z' Z.2 = true := by
        have a1 := zk 0; have a2 := zk 1; have a3 := zl 1
        rw [Nat.add_zero] at a1
        unfold az_pok; rw [a1, a2, a3, Z2]; simp
      have bu : az_bok Z' (Z.2 + 2) = true := by
        have a1 := zk 2; have a2 := zk 3; have a3 := zl 3
        unfold az_bok; rw [a1, show Z.2 + 2 + 1 = Z.2 + 3 by omega, a2, a3, Z2]; simp
      have lt10 : ∀ t, M.2.2 10 (1 - p) = some t → t < Z.2 := fun t he => g2.2 10 (by omega) (by rw [(g1.1.2 10 (by decide)).1]; decide) _ t he
      have lt11 : ∀ t, M.2.2 11 (1 - p) = some t → t < Z.2 := fun t he => g2.2 11 (by omega) (by rw [(g1.1.2 11 (by decide)).1]; decide) _ t he
      obtain ⟨M1, M2, b1, b2, b3⟩ := image_core (by omega) hI (t := Z.2) (u := Z.2 + 2) (by rw [F10]; exact if_pos rfl) (by rw [F11]; exact if_pos rfl) h71 (by omega) pt bu
        (fun e => by rw [F10] at e; simp only [if_neg (show ¬ 1 - p = p by omega)] at e; have := lt10 _ e; omega)
        (fun e => by rw [F11] at e; simp only [if_neg (show ¬ 1 - p = p by omega)] at e; have := lt11 _ e; omega) [(4, 0), (13, 145), (0, 0), (16, 6)]
      refine ⟨0, M1, _, M2, b1, b2, ?_⟩
      show az_Inv (m + 1) (if _ then _ else _) M2
      rw [if_neg (by simp), hZ]; exact b3
    · rw [if_neg (by rw [i10]; simp), if_neg (by rw [i11]; simp)]
      obtain ⟨M1, M2, b1, b2, b3⟩ := image_core (m := m + 1) (by omega) ⟨g1, g2, g3, ⟨ls, g4⟩, g5, g6.2, g7, g8, io, g10, g11⟩ i10 i11 ht hu pt bu (dt t i10) (du u i11) []
      exact ⟨0, M1, _, M2, b1, b2, b3⟩
  · refine ⟨-1, p_rc M (-1) 0, [], _, ?_, ?_, h.refuse (v := -1) (j := 0) (j' := 1) (by simp)⟩
    · unfold f_X11_image
      by_cases h1 : a1 < 0
      · rw [if_pos h1]; rfl
      · rw [if_neg h1, if_neg]
        · rfl
        · have := hb.resolve_left h1
          rw [Int32.lt_iff_toInt_lt] at this ⊢
          have e : (nI 1).toInt = 1 := rfl
          have e2 : (2 : Int32).toInt = 2 := rfl
          omega
    · unfold f_X12_image
      rw [show f_X12_in a1.toInt64 0 1 _ = some 0 from hi _]
      rfl
