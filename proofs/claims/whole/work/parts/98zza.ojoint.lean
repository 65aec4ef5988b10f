/-! ORDERS: both, from start to end -/
def ordTail (M : az_M) : Option (Int32 × az_M) := (f_X12_beginText sp_G 1 M).bind fun q1 => (f_X12_readOrder sp_G q1).bind fun q3 => f_X12_orders_19 sp_G sp_G q3
def oRes (m : Nat) (Z : az_S × Nat) (M Mr : az_M) : Prop := ∃ r M1 Mr', f_X11_orders Z sp_G M = some (r, M1) ∧ ordTail Mr = some (r, Mr') ∧ (∀ a, 40 ≤ a → M1.1 a = M.1 a) ∧ M1.2 = M.2 ∧ (Mr = az_i (az_i M1 40 0 0) 40 55 (-1) → az_Inv (m + 1) Z Mr')
theorem o_joint {m : Nat} {Z : az_S × Nat} {M Mr : az_M} (hm : m < 512) (h : az_Inv m Z M) (e40 : ∀ j, j = 8 ∨ j = 13 ∨ j = 20 → Mr.1 40 j = M.1 40 j) (ek : ∀ k, k = 42 ∨ k = 45 ∨ k = 46 ∨ k = 49 → Mr.1 k = M.1 k) (el : ∀ k, k = 55 ∨ k = 56 ∨ k = 57 → Mr.2.1 k = M.2.1 k) : oRes m Z M Mr := by
  obtain ⟨z17, z18, -, z27⟩ := h.lens
  obtain ⟨T, L, hL, h255, hT, t1, t2⟩ := tape_of h.2.2.2.2.1
  have hT0 : Tc T L (az_i M 0 15 (-1)) := ⟨by rw [gi_k (by decide)]; exact hT.1, fun i hi => by rw [gi_k (by decide)]; exact hT.2 i hi⟩
  obtain ⟨Mc0, Mr0, a1, a2, b1, b2, b3, b4, b5, hr⟩ := ord_read (Z := Z) hL h255 z17 z18 hT0 (Mr := Mr) ⟨by rw [e40 13 (by omega)]; exact t1, fun i hi => by rw [ek 49 (by omega)]; exact t2 i hi⟩ (by unfold RWk; rw [el 55 (by omega), el 56 (by omega), el 57 (by omega)]; exact h.2.2.2.2.2.2.2.2.2.2.2)
  obtain ⟨ls, D⟩ := h.deed0 hm
  obtain ⟨g1, g2, g3, g4, g5, g6, g7, g8, g9, g10, g11⟩ := h.mono
  rcases hr with ⟨Mc', j, X, Mr', q1, q2, q3, q4, q5, q6, q7, q8⟩ | ⟨Mc', X, i, c, nn, mm, l, q1, q4, q5, q6, q7, ⟨q8, q9, q10, q11⟩, q12, q13, q14⟩
  · -- can't be read
    obtain ⟨X1, hX1⟩ : ∃ X1, X1 = az_i (az_i Mc' 0 13 (nI j)) 5 1 0 := ⟨_, rfl⟩
    have xK : ∀ a, a ≠ 0 → a ≠ 5 → a ≠ 15 → a ≠ 16 → a ≠ 17 → a ≠ 18 → X1.1 a = M.1 a := fun a p q r s t u => by rw [hX1, gi_k q, gi_k p, q3.1 a r s t u, a1 a r s, gi_k p]
    have x2 : X1.2 = M.2 := by rw [hX1]; show Mc'.2 = _; rw [q3.2.2.2.2.2, a2]; rfl
    have x013 : X1.1 0 13 = nI j := by rw [hX1, gi_k (by decide), gi, if_pos rfl, if_pos rfl]
    have x0 : ∀ q, q ≠ 13 → X1.1 0 q = (az_i M 0 15 (-1)).1 0 q := fun q hq => by rw [hX1, gi_k (by decide), gi, if_pos rfl, if_neg hq, q3.1 0 (by decide) (by decide) (by decide) (by decide), a1 0 (by decide) (by decide)]
    have x014 : X1.1 0 14 = M.1 0 14 := by rw [x0 14 (by decide), gi, if_pos rfl, if_neg (by decide)]
    have x015 : X1.1 0 15 = -1 := by rw [x0 15 (by decide), gi, if_pos rfl, if_pos rfl]
    have x51 : X1.1 5 1 = 0 := by rw [hX1, gi, if_pos rfl, if_pos rfl]
    have e1 : f_X11_orders Z sp_G M = some (-6, p_rc X1 (-6) 4) := by
      unfold f_X11_orders
      rw [q1, Option.bind_some, ← hX1, if_neg (by rw [x013, n_nm1 (by omega)]; exact not_false), p_refuse6]; rfl
    obtain ⟨M1, hM1⟩ : ∃ M1, M1 = p_rc X1 (-6) 4 := ⟨_, rfl⟩
    have mK : ∀ a, a ≠ 0 → a ≠ 12 → M1.1 a = X1.1 a := fun a p q => by rw [hM1]; unfold p_rc; rw [gi_k q, gi_k p]
    have m2 : M1.2 = M.2 := by rw [hM1]; exact x2
    have m12 : M1.1 12 = up (M.1 12) 4 (M.1 12 4 + 1) := by
      rw [hM1]; unfold p_rc
      rw [az_i_ro, ro_eq, gi_k (by decide), xK 12 (by decide) (by decide) (by decide) (by decide) (by decide) (by decide)]
    have m0 : ∀ q, M1.1 0 q = if q = 12 then -6 else X1.1 0 q := fun q => by
      rw [hM1]; unfold p_rc; rw [gi_k (by decide), gi, if_pos rfl]
    rw [← hM1] at e1
    have e2 : ordTail Mr = some (-6, p_rf (az_i (az_i Mr' 40 20 0) 40 13 0) (-6) 6) := by
      unfold ordTail
      rw [q4]
      unfold f_X12_orders_46
      rw [q5, Option.bind_some, if_neg (by rw [gi, if_pos rfl, if_neg (by decide), gi, if_pos rfl, if_neg (by decide), q6]; decide), p_tell6]; rfl
    refine ⟨-6, M1, _, e1, e2, fun a ha => by rw [mK a (by omega) (by omega), xK a (by omega) (by omega) (by omega) (by omega) (by omega) (by omega)], m2, fun hMr => ?_⟩
    have y1 : ∀ a, a ≠ 40 → Mr.1 a = M1.1 a := fun a ha => by rw [hMr, gi_k ha, gi_k ha]
    have y40 : ∀ q, q ≠ 0 → q ≠ 55 → Mr.1 40 q = M.1 40 q := fun q p r => by rw [hMr, gi, if_pos rfl, if_neg r, gi, if_pos rfl, if_neg p, mK 40 (by decide) (by decide), xK 40 (by decide) (by decide) (by decide) (by decide) (by decide) (by decide)]
    have y55 : Mr.1 40 55 = -1 := by rw [hMr, gi, if_pos rfl, if_pos rfl]
    have y2 : Mr.2 = M.2 := by rw [hMr]; exact m2
    have eK : ∀ a, a ≠ 40 → a ≠ 41 → a ≠ 51 → a ≠ 52 → a ≠ 53 → a ≠ 54 → a ≠ 69 → (p_rf (az_i (az_i Mr' 40 20 0) 40 13 0) (-6) 6).1 a = M1.1 a := fun a p40 p41 p51 p52 p53 p54 p69 => by
      unfold p_rf
      rw [gi_k p41, gi_k p40, gi_k p40, gi_k p40, q8.1 a p40 p51 p52 p53 p54 p69, b1 a p40, y1 a p40]
    have e4 : ∀ q, q ≠ 1 → q ≠ 13 → q ≠ 20 → (p_rf (az_i (az_i Mr' 40 20 0) 40 13 0) (-6) 6).1 40 q = Mr'.1 40 q := fun q p1 p2 p3 => by
      unfold p_rf
      rw [gi_k (by decide), gi, if_pos rfl, if_neg p1, gi, if_pos rfl, if_neg p2, gi, if_pos rfl, if_neg p3]
    have e4' : ∀ q, q = 8 ∨ q = 11 ∨ q = 55 ∨ q = 58 → (p_rf (az_i (az_i Mr' 40 20 0) 40 13 0) (-6) 6).1 40 q = Mr.1 40 q := fun q hq => by
      rw [e4 q (by omega) (by omega) (by omega), q8.2.1 q (by omega) (by omega) (by omega) (by omega) (by omega) (by omega) (by omega) (by omega) (by omega) (by omega), b2 q (by omega) (by omega) (by omega) (by omega) (by omega) (by omega) (by omega) (by omega) (by omega)]
    have F22 : (p_rf (az_i (az_i Mr' 40 20 0) 40 13 0) (-6) 6).2.2 = M.2.2 := by
      show Mr'.2.2 = _
      rw [q8.2.2.2.2, b4, y2]
    have F21 : ∀ k, k ≠ 40 → (p_rf (az_i (az_i Mr' 40 20 0) 40 13 0) (-6) 6).2.1 k = M.2.1 k := fun k hk => by
      show Mr'.2.1 k = _
      rw [q8.2.2.1 k hk, b3 k hk, y2]
    have F1 : (p_rf (az_i (az_i Mr' 40 20 0) 40 13 0) (-6) 6).1 40 1 = -6 := rfl
    have F13 : (p_rf (az_i (az_i Mr' 40 20 0) 40 13 0) (-6) 6).1 40 13 = 0 := rfl
    have F20 : (p_rf (az_i (az_i Mr' 40 20 0) 40 13 0) (-6) 6).1 40 20 = 0 := rfl
    have F41 : (p_rf (az_i (az_i Mr' 40 20 0) 40 13 0) (-6) 6).1 41 = up (M.1 41) 6 (M.1 41 6 + 1) := by
      have s1 : Mr'.1 41 = M.1 41 := by rw [q8.1 41 (by decide) (by decide) (by decide) (by decide) (by decide) (by decide), b1 41 (by decide), y1 41 (by decide), mK 41 (by decide) (by decide), xK 41 (by decide) (by decide) (by decide) (by decide) (by decide) (by decide)]
      have s2 : (az_i (az_i (az_i Mr' 40 20 0) 40 13 0) 40 1 (-6)).1 41 = M.1 41 := by rw [gi_k (by decide), gi_k (by decide), gi_k (by decide), s1]
      have s3 : (az_i (az_i Mr' 40 20 0) 40 13 0).1 41 = M.1 41 := by rw [gi_k (by decide), gi_k (by decide), s1]
      unfold p_rf
      rw [az_i_ro, ro_eq, s2, s3]
    have F18 : (p_rf (az_i (az_i Mr' 40 20 0) 40 13 0) (-6) 6).1 40 18 = nI j := by rw [e4 18 (by decide) (by decide) (by decide)]; exact q7
    generalize p_rf (az_i (az_i Mr' 40 20 0) 40 13 0) (-6) 6 = F at eK e4 e4' F22 F21 F1 F13 F20 F41 F18
    have fk : ∀ a, a ≠ 0 → a ≠ 5 → a ≠ 12 → a ≠ 15 → a ≠ 16 → a ≠ 17 → a ≠ 18 → a ≠ 40 → a ≠ 41 → a ≠ 51 → a ≠ 52 → a ≠ 53 → a ≠ 54 → a ≠ 69 → F.1 a = M.1 a := fun a p0 p5 p12 p15 p16 p17 p18 p40 p41 p51 p52 p53 p54 p69 => by rw [eK a p40 p41 p51 p52 p53 p54 p69, mK a p0 p12, xK a p0 p5 p15 p16 p17 p18]
    have fk' : ∀ a, a = 2 ∨ a = 3 ∨ a = 6 ∨ a = 7 ∨ a = 8 ∨ a = 9 ∨ a = 28 ∨ a = 29 ∨ a = 34 ∨ a = 42 ∨ a = 43 ∨ a = 44 ∨ a = 45 ∨ a = 46 ∨ a = 49 ∨ a = 70 ∨ 71 ≤ a → F.1 a = M.1 a := fun a ha => fk a (by omega) (by omega) (by omega) (by omega) (by omega) (by omega) (by omega) (by omega) (by omega) (by omega) (by omega) (by omega) (by omega) (by omega)
    have f0 : F.1 0 = M1.1 0 := eK 0 (by decide) (by decide) (by decide) (by decide) (by decide) (by decide) (by decide)
    refine ord_step h hm (by rw [fk' 2 (by omega), fk' 42 (by omega)]; exact g3) (fk' 3 (by omega)) (fun _ _ => by rw [fk' 42 (by omega)]) (fun k hk => fk' k (by omega)) F22 (Or.inr ⟨fk' 34 (by omega), fun _ _ => by rw [fk' 2 (by omega)]⟩) ⟨?_, F13, fk' 6 (by omega), fk' 49 (by omega)⟩ ⟨?_, ?_, ?_, ?_⟩ ?_ ?_ (fun k hk => fk' k (by omega)) (by rw [e4' 58 (by omega), y40 58 (by decide) (by decide)]) F20 (fun k hk => F21 k (by omega))
    · rw [eK 5 (by decide) (by decide) (by decide) (by decide) (by decide) (by decide) (by decide), mK 5 (by decide) (by decide)]; exact x51
    · rw [f0, m0, if_pos rfl, F1]
    · rw [f0, m0, if_neg (by decide), x013, F18]
    · rw [f0, m0, if_neg (by decide), x014, e4' 11 (by omega), y40 11 (by decide) (by decide)]; exact g6.2.2.1
    · rw [f0, m0, if_neg (by decide), x015, e4' 55 (by omega), y55]
    · obtain ⟨a, b, c, d, e⟩ := g7
      rw [eK 12 (by decide) (by decide) (by decide) (by decide) (by decide) (by decide) (by decide), m12, F41]
      exact ⟨a, b, c, d, congrArg (· + 1) e⟩
    · rw [fk' 7 (by omega), fk' 8 (by omega), fk' 9 (by omega), fk' 46 (by omega), fk' 45 (by omega), e4' 8 (by omega), y40 8 (by decide) (by decide)]; exact g8
  · -- orders to be run
    obtain ⟨X1, hX1⟩ : ∃ X1, X1 = az_i (az_i Mc' 0 13 (-1)) 5 1 0 := ⟨_, rfl⟩
    have xC : ∀ a, a ≠ 0 → a ≠ 5 → X1.1 a = Mc'.1 a := fun a p q => by rw [hX1, gi_k q, gi_k p]
    have xK : ∀ a, a ≠ 0 → a ≠ 5 → a ≠ 15 → a ≠ 16 → a ≠ 17 → a ≠ 18 → X1.1 a = M.1 a := fun a p q r s t u => by rw [xC a p q, q12.1 a r s t u, a1 a r s, gi_k p]
    have x2 : X1.2 = M.2 := by rw [hX1]; show Mc'.2 = _; rw [q12.2.2.2.2.2, a2]; rfl
    have x013 : X1.1 0 13 = -1 := by rw [hX1, gi_k (by decide), gi, if_pos rfl, if_pos rfl]
    have x0 : ∀ q, q ≠ 13 → X1.1 0 q = (az_i M 0 15 (-1)).1 0 q := fun q hq => by rw [hX1, gi_k (by decide), gi, if_pos rfl, if_neg hq, q12.1 0 (by decide) (by decide) (by decide) (by decide), a1 0 (by decide) (by decide)]
    have x014 : X1.1 0 14 = M.1 0 14 := by rw [x0 14 (by decide), gi, if_pos rfl, if_neg (by decide)]
    have x015 : X1.1 0 15 = -1 := by rw [x0 15 (by decide), gi, if_pos rfl, if_pos rfl]
    have x51 : X1.1 5 1 = 0 := by rw [hX1, gi, if_pos rfl, if_pos rfl]
    obtain ⟨X2, n1, n2, n3, n4, n5, n6, n7, n8⟩ := c_begin X1
    have cls : f_X11_orders Z sp_G M = f_X11_orders_49 Z sp_G sp_G (nI 0) X2 := by
      unfold f_X11_orders
      rw [q1, Option.bind_some, ← hX1, if_pos x013, n1, Option.bind_some]
      rfl
    obtain ⟨E, hE⟩ : ∃ E, E = az_i (az_i X 40 20 0) 40 13 0 := ⟨_, rfl⟩
    have EK : ∀ a, a ≠ 40 → E.1 a = X.1 a := fun a p => by rw [hE, gi_k p, gi_k p]
    have E4 : ∀ q, q ≠ 13 → q ≠ 20 → E.1 40 q = X.1 40 q := fun q p r => by rw [hE, gi, if_pos rfl, if_neg p, gi, if_pos rfl, if_neg r]
    have E13 : E.1 40 13 = 0 ∧ E.1 40 20 = 0 := by rw [hE]; exact ⟨rfl, rfl⟩
    have E2 : E.2 = X.2 := by rw [hE]; rfl
    obtain ⟨E1, hE1⟩ : ∃ E1, E1 = ro E 45 (cpy (E.1 42) (E.1 45) 0 (150 * 20) 150) := ⟨_, rfl⟩
    obtain ⟨R, r1, r2, r3, r4, r5, r6, r7⟩ := r_begin (E1.1 40 8) E1
    have ref : ordTail Mr = f_X12_orders_140 sp_G sp_G (E1.1 40 8) (nI 0) R := by
      unfold ordTail
      rw [q4]
      unfold f_X12_orders_46
      rw [q5, Option.bind_some, ← hE, if_pos (by rw [E4 19 (by decide) (by decide)]; exact q7.2.1.2.1), show f_X12_keepAll sp_G 20 E = some (ro E 45 (cpy (E.1 42) (E.1 45) 0 (150 * 20) 150)) from p_keepAll (q := 20) (by omega) E, Option.bind_some, ← hE1, r1]
      rfl
    have XK : ∀ a, a ≠ 40 → a ≠ 51 → a ≠ 52 → a ≠ 53 → a ≠ 54 → a ≠ 69 → X.1 a = Mr.1 a := fun a p q r s t u => by rw [q13.1 a p q r s t u, b1 a p]
    have RK : ∀ a, a ≠ 40 → a ≠ 45 → a ≠ 47 → a ≠ 48 → R.1 a = X.1 a := fun a p q r s => by rw [r2 a p r s, hE1, ro_ne q, EK a p]
    have R40 : ∀ q, q ≠ 13 → q ≠ 20 → q ≠ 53 → q ≠ 54 → R.1 40 q = X.1 40 q := fun q a b c d => by rw [r3 q c d, hE1, ro_ne (by decide), E4 q a b]
    have R13 : R.1 40 13 = 0 ∧ R.1 40 20 = 0 := by
      rw [r3 13 (by decide) (by decide), r3 20 (by decide) (by decide), hE1, ro_ne (by decide)]; exact E13
    have X40 : ∀ q, q = 8 ∨ q = 11 ∨ q = 55 ∨ q = 58 → X.1 40 q = Mr.1 40 q := fun q hq => by
      rw [q13.2.1 q (by omega) (by omega) (by omega) trivial trivial (by omega) (by omega) (by omega) (by omega) (by omega), b2 q (by omega) (by omega) (by omega) (by omega) (by omega) (by omega) (by omega) (by omega) (by omega)]
    have R18 : R.1 40 18 = -1 := by
      rw [R40 18 (by decide) (by decide) (by decide) (by decide), q13.2.1 18 (by decide) (by decide) (by decide) trivial trivial (by decide) (by decide) (by decide) (by decide) (by decide), b5]
    have R45 : ∀ j, j < 2400 → R.1 45 j = Mr.1 45 j := fun j hj => by
      rw [r2 45 (by decide) (by decide) (by decide), hE1, ro_eq, cpy_out (by omega), EK 45 (by decide), XK 45 (by decide) (by decide) (by decide) (by decide) (by decide) (by decide)]
    have R45' : ∀ j, j < 150 → R.1 45 (150 * 20 + j) = Mr.1 42 j := fun j hj => by
      rw [r2 45 (by decide) (by decide) (by decide), hE1, ro_eq, cpy_in (by omega), EK 42 (by decide), XK 42 (by decide) (by decide) (by decide) (by decide) (by decide) (by decide), Nat.add_sub_cancel_left, Nat.zero_add]
    have R42 : R.1 42 = Mr.1 42 := by rw [RK 42 (by decide) (by decide) (by decide) (by decide), XK 42 (by decide) (by decide) (by decide) (by decide) (by decide) (by decide)]
    have R46 : R.1 46 = Mr.1 46 := by rw [RK 46 (by decide) (by decide) (by decide) (by decide), XK 46 (by decide) (by decide) (by decide) (by decide) (by decide) (by decide)]
    have R8 : R.1 40 8 = Mr.1 40 8 := by rw [R40 8 (by decide) (by decide) (by decide) (by decide), X40 8 (by omega)]
    have E18 : E1.1 40 8 = Mr.1 40 8 := by rw [← r3 8 (by decide) (by decide), R8]
    have R21 : ∀ k, k ≠ 40 → R.2.1 k = Mr.2.1 k := fun k hk => by rw [r5, hE1]; show E.2.1 k = _; rw [E2, q13.2.2.1 k hk, b3 k hk]
    have R22 : R.2.2 = Mr.2.2 := by rw [r5, hE1]; show E.2.2 = _; rw [E2, q13.2.2.2.2.1, b4]
    -- both at the start
    have st : oSt Z (sp_B m + 999) (M.1 3 2) ls 0 (-1) X2 R := by
      obtain ⟨c, r, p, w⟩ := D.to (M' := X2) (Mr' := ro R 45 (M.1 45)) (fun k hk => by rw [n2 k (by omega) (by omega) (by omega) (by omega) (by omega), xK k (by omega) (by omega) (by omega) (by omega) (by omega) (by omega)]) (by rw [n3, x2]) (by rw [ro_ne (by decide), R42, ek 42 (by omega)]) (by rw [ro_ne (by decide), R13.2]; exact h.2.2.2.2.2.2.2.2.2.2.1.symm) (by rw [ro_ne (by decide), R8, e40 8 (by omega)]) (ro_eq _ _ _) (by rw [ro_ne (by decide), R46, ek 46 (by omega)])
      refine ⟨⟨c, ?_, ?_, w⟩, ⟨n4.1, r4.1⟩, ⟨n4.2, r4.2⟩, by decide, by decide⟩
      · have r := r
        unfold RefAt at r ⊢
        rw [ro_ne (show (42 : Nat) ≠ 45 by decide), ro_ne (show (40 : Nat) ≠ 45 by decide)] at r
        exact r
      · have p := p
        rw [ro_ne (show (46 : Nat) ≠ 45 by decide), ro_ne (show (40 : Nat) ≠ 45 by decide), ro_eq] at p
        exact p.congU (fun j hj => by rw [R45 j hj, ek 45 (by omega)])
    have hnn : nn ≤ 400 := by have := q6.2.2.1; have := q6.2.2.2.1; omega
    have hmm : mm ≤ 400 := by have := q7.2.2.1.1; have := q7.2.2.1.2.1; omega
    have c17 : X2.1 17 = Mc'.1 17 := by rw [n2 17 (by decide) (by decide) (by decide) (by decide) (by decide), xC 17 (by decide) (by decide)]
    have c18 : X2.1 18 = Mc'.1 18 := by rw [n2 18 (by decide) (by decide) (by decide) (by decide) (by decide), xC 18 (by decide) (by decide)]
    have c16 : X2.1 16 = Mc'.1 16 := by rw [n2 16 (by decide) (by decide) (by decide) (by decide) (by decide), xC 16 (by decide) (by decide)]
    have X2K : ∀ a, a ≠ 0 → a ≠ 5 → a ≠ 15 → a ≠ 16 → a ≠ 17 → a ≠ 18 → a ≠ 21 → a ≠ 23 → a ≠ 24 → a ≠ 25 → a ≠ 26 → X2.1 a = M.1 a := fun a p0 p5 p15 p16 p17 p18 p21 p23 p24 p25 p26 => by rw [n2 a p21 p23 p24 p25 p26, xK a p0 p5 p15 p16 p17 p18]
    have X20 : X2.1 0 = X1.1 0 := n2 0 (by decide) (by decide) (by decide) (by decide) (by decide)
    have X25 : X2.1 5 = X1.1 5 := n2 5 (by decide) (by decide) (by decide) (by decide) (by decide)
    unfold oRes
    rw [cls, ref]
    have hBm : sp_B m ≤ 102400000 := by unfold sp_B; omega
    rcases o_all (x1 := E1.1 40 8) z17 z18 z27 hnn hmm q11 l.length 0 sp_G sp_G (sp_B m + 999) 0 (-1) X2 R (by omega) (by unfold sp_G; omega) (by unfold sp_G; omega) (by omega) (by omega) (by rw [c17, c18, RK 51 (by decide) (by decide) (by decide) (by decide), RK 52 (by decide) (by decide) (by decide) (by decide), RK 69 (by decide) (by decide) (by decide) (by decide)]; exact q14) (by rw [c16]; exact q8) (by rw [R40 21 (by decide) (by decide) (by decide) (by decide)]; exact q9) st with ⟨cc, Mc2, Mr2, hcc, u1, u2, u3, u4⟩ | ⟨Mc2, Mr2, s', w', u1, u2, u3, u4, u5, u6⟩
    · -- stopped
      obtain ⟨P, v1, v2, v3, v4, v5, v6, v7⟩ := c_giveUp (az_i Mc2 0 15 (nI cc))
      obtain ⟨Rb, w1, w2, w3, w4, w5, w6, w7, w8⟩ := r_giveBack (E1.1 40 8) Mr2
      have k1 : cFail cc Mc2 = some (-3, p_rc P (-3) 2) := by
        unfold cFail
        rw [v1, Option.bind_some, p_refuse3]; rfl
      have k2 : rFail (E1.1 40 8) cc Mr2 = some (-3, p_rf (az_i Rb 40 55 (nI cc)) (-3) 3) := by
        unfold rFail
        rw [w1, Option.bind_some, p_tell3]; rfl
      have oc : ∀ a, a ≠ 2 → a ≠ 7 → a ≠ 8 → a ≠ 9 → a ≠ 14 → a ≠ 19 → a ≠ 20 → a ≠ 21 → a ≠ 27 → Mc2.1 a = X2.1 a := u3.1
      have PK : ∀ a, a ≠ 0 → a ≠ 2 → a ≠ 7 → a ≠ 8 → a ≠ 9 → P.1 a = Mc2.1 a := fun a p0 p2 p7 p8 p9 => by rw [v2 a p2 p7 p8 p9, gi_k p0]
      have P0 : ∀ q, P.1 0 q = if q = 15 then nI cc else X1.1 0 q := fun q => by
        rw [v2 0 (by decide) (by decide) (by decide) (by decide), gi, if_pos rfl, oc 0 (by decide) (by decide) (by decide) (by decide) (by decide) (by decide) (by decide) (by decide) (by decide), X20]
      have P2 : P.2 = M.2 := by rw [v3]; show Mc2.2 = _; rw [u3.2, n3, x2]
      have p2 : ∀ j, j < 145 → P.1 2 j = M.1 2 j := fun j hj => by
        rw [v4 j hj, gi_k (by decide), oc 23 (by decide) (by decide) (by decide) (by decide) (by decide) (by decide) (by decide) (by decide) (by decide), n5 j hj, xK 2 (by decide) (by decide) (by decide) (by decide) (by decide) (by decide)]
      have p7 : P.1 7 2 = M.1 7 2 ∧ P.1 7 3 = M.1 7 3 := by
        rw [v5.1, v5.2, gi_k (by decide), oc 24 (by decide) (by decide) (by decide) (by decide) (by decide) (by decide) (by decide) (by decide) (by decide), n6.1, n6.2, xK 7 (by decide) (by decide) (by decide) (by decide) (by decide) (by decide)]
        exact ⟨rfl, rfl⟩
      have p8 : ∀ j, j < 16 → P.1 8 j = M.1 8 j := fun j hj => by
        rw [v6 j hj, gi_k (by decide), oc 25 (by decide) (by decide) (by decide) (by decide) (by decide) (by decide) (by decide) (by decide) (by decide), n7 j hj, xK 8 (by decide) (by decide) (by decide) (by decide) (by decide) (by decide)]
      have p9 : ∀ j, j < 2320 → P.1 9 j = M.1 9 j := fun j hj => by
        rw [v7 j hj, gi_k (by decide), oc 26 (by decide) (by decide) (by decide) (by decide) (by decide) (by decide) (by decide) (by decide) (by decide), n8 j hj, xK 9 (by decide) (by decide) (by decide) (by decide) (by decide) (by decide)]
      have PM : ∀ a, a = 3 ∨ a = 6 ∨ a = 12 ∨ a = 28 ∨ a = 29 ∨ a = 34 ∨ 40 ≤ a → P.1 a = M.1 a := fun a ha => by
        rw [PK a (by omega) (by omega) (by omega) (by omega) (by omega), oc a (by omega) (by omega) (by omega) (by omega) (by omega) (by omega) (by omega) (by omega) (by omega), X2K a (by omega) (by omega) (by omega) (by omega) (by omega) (by omega) (by omega) (by omega) (by omega) (by omega) (by omega)]
      have P5 : P.1 5 1 = 0 := by
        rw [PK 5 (by decide) (by decide) (by decide) (by decide) (by decide), oc 5 (by decide) (by decide) (by decide) (by decide) (by decide) (by decide) (by decide) (by decide) (by decide), X25, x51]
      obtain ⟨M1, hM1⟩ : ∃ M1, M1 = p_rc P (-3) 2 := ⟨_, rfl⟩
      have mK : ∀ a, a ≠ 0 → a ≠ 12 → M1.1 a = P.1 a := fun a p q => by rw [hM1]; unfold p_rc; rw [gi_k q, gi_k p]
      have m2 : M1.2 = M.2 := by rw [hM1]; exact P2
      have m12 : M1.1 12 = up (M.1 12) 2 (M.1 12 2 + 1) := by
        rw [hM1]; unfold p_rc
        rw [az_i_ro, ro_eq, gi_k (by decide), PM 12 (by omega)]
      have m0 : ∀ q, M1.1 0 q = if q = 12 then -3 else P.1 0 q := fun q => by
        rw [hM1]; unfold p_rc; rw [gi_k (by decide), gi, if_pos rfl]
      rw [← hM1] at k1
      refine ⟨-3, M1, _, u1.trans k1, u2.trans k2, fun a ha => by rw [mK a (by omega) (by omega), PM a (by omega)], m2, fun hMr => ?_⟩
      have y1 : ∀ a, a ≠ 40 → Mr.1 a = M1.1 a := fun a ha => by rw [hMr, gi_k ha, gi_k ha]
      have y40 : ∀ q, q ≠ 0 → q ≠ 55 → Mr.1 40 q = M.1 40 q := fun q p r => by rw [hMr, gi, if_pos rfl, if_neg r, gi, if_pos rfl, if_neg p, mK 40 (by decide) (by decide), PM 40 (by omega)]
      have y2 : Mr.2 = M.2 := by rw [hMr]; exact m2
      have eK : ∀ a, a ≠ 40 → a ≠ 41 → a ≠ 42 → a ≠ 45 → a ≠ 46 → a ≠ 47 → a ≠ 48 → a ≠ 51 → a ≠ 52 → a ≠ 53 → a ≠ 54 → a ≠ 69 → (p_rf (az_i Rb 40 55 (nI cc)) (-3) 3).1 a = M1.1 a := fun a p40 p41 p42 p45 p46 p47 p48 p51 p52 p53 p54 p69 => by
        unfold p_rf
        rw [gi_k p41, gi_k p40, gi_k p40, w2 a p40 p42 p45 p46, u4.1 a p40 p42 p45 p46, RK a p40 p45 p47 p48, XK a p40 p51 p52 p53 p54 p69, y1 a p40]
      have e4 : ∀ q, q ≠ 1 → q ≠ 55 → (p_rf (az_i Rb 40 55 (nI cc)) (-3) 3).1 40 q = Rb.1 40 q := fun q q1 q2 => by
        unfold p_rf
        rw [gi_k (by decide), gi, if_pos rfl, if_neg q1, gi, if_pos rfl, if_neg q2]
      have e4' : ∀ q, q ≠ 1 → q ≠ 55 → q ≠ 8 → q ≠ 34 → q ≠ 38 → q ≠ 53 → q ≠ 54 → q ≠ 56 → (p_rf (az_i Rb 40 55 (nI cc)) (-3) 3).1 40 q = R.1 40 q := fun q q1 q2 q8 q34 q38 q53 q54 q56 => by
        rw [e4 q q1 q2, w3 q q8, u4.2.1 q q8 q34 q38 q53 q54 q56]
      have F8 : (p_rf (az_i Rb 40 55 (nI cc)) (-3) 3).1 40 8 = M.1 40 8 := by rw [e4 8 (by decide) (by decide), w4, E18, y40 8 (by decide) (by decide)]
      have F42 : (p_rf (az_i Rb 40 55 (nI cc)) (-3) 3).1 42 = M.1 42 := by
        unfold p_rf
        rw [gi_k (by decide), gi_k (by decide), gi_k (by decide), w5]
        refine r_back_same (fun j hj => ?_) (fun j hj => ?_)
        · rw [u4.2.2.2.2.2 _ (by omega), R45' j hj, ek 42 (by omega)]
        · rw [u4.2.2.2.2.1 j hj, R42, ek 42 (by omega)]
      have F45 : ∀ j, j < 2400 → (p_rf (az_i Rb 40 55 (nI cc)) (-3) 3).1 45 j = M.1 45 j := fun j hj => by
        unfold p_rf
        rw [gi_k (by decide), gi_k (by decide), gi_k (by decide), w7 j hj, u4.1 47 (by decide) (by decide) (by decide) (by decide), r6 j hj, ← r2 45 (by decide) (by decide) (by decide), R45 j hj, ek 45 (by omega)]
      have F46 : ∀ j, j < 16 → (p_rf (az_i Rb 40 55 (nI cc)) (-3) 3).1 46 j = M.1 46 j := fun j hj => by
        unfold p_rf
        rw [gi_k (by decide), gi_k (by decide), gi_k (by decide), w8 j hj, u4.1 48 (by decide) (by decide) (by decide) (by decide), r7 j hj, ← r2 46 (by decide) (by decide) (by decide), R46, ek 46 (by omega)]
      have F22 : (p_rf (az_i Rb 40 55 (nI cc)) (-3) 3).2.2 = M.2.2 := by
        show Rb.2.2 = _
        rw [w6, u4.2.2.2.1, R22, y2]
      have F21 : ∀ k, k ≠ 40 → k ≠ 58 → k ≠ 59 → k ≠ 60 → (p_rf (az_i Rb 40 55 (nI cc)) (-3) 3).2.1 k = M.2.1 k := fun k h40 h58 h59 h60 => by
        show Rb.2.1 k = _
        rw [w6, u4.2.2.1 k h40 h58 h59 h60, R21 k h40, y2]
      have F1 : (p_rf (az_i Rb 40 55 (nI cc)) (-3) 3).1 40 1 = -3 := rfl
      have F55 : (p_rf (az_i Rb 40 55 (nI cc)) (-3) 3).1 40 55 = nI cc := rfl
      have F41 : (p_rf (az_i Rb 40 55 (nI cc)) (-3) 3).1 41 = up (M.1 41) 3 (M.1 41 3 + 1) := by
        have s1 : Rb.1 41 = M.1 41 := by rw [w2 41 (by decide) (by decide) (by decide) (by decide), u4.1 41 (by decide) (by decide) (by decide) (by decide), RK 41 (by decide) (by decide) (by decide) (by decide), XK 41 (by decide) (by decide) (by decide) (by decide) (by decide) (by decide), y1 41 (by decide), mK 41 (by decide) (by decide), PM 41 (by omega)]
        have s2 : (az_i (az_i Rb 40 55 (nI cc)) 40 1 (-3)).1 41 = M.1 41 := by rw [gi_k (by decide), gi_k (by decide), s1]
        have s3 : (az_i Rb 40 55 (nI cc)).1 41 = M.1 41 := by rw [gi_k (by decide), s1]
        unfold p_rf
        rw [az_i_ro, ro_eq, s2, s3]
      generalize p_rf (az_i Rb 40 55 (nI cc)) (-3) 3 = F at eK e4 e4' F8 F42 F45 F46 F22 F21 F1 F55 F41
      have fP : ∀ a, a = 2 ∨ a = 3 ∨ a = 5 ∨ a = 6 ∨ a = 7 ∨ a = 8 ∨ a = 9 ∨ a = 28 ∨ a = 29 ∨ a = 34 ∨ a = 43 ∨ a = 44 ∨ a = 49 ∨ a = 70 ∨ 71 ≤ a → F.1 a = P.1 a := fun a ha => by rw [eK a (by omega) (by omega) (by omega) (by omega) (by omega) (by omega) (by omega) (by omega) (by omega) (by omega) (by omega) (by omega), mK a (by omega) (by omega)]
      have f0 : F.1 0 = M1.1 0 := eK 0 (by decide) (by decide) (by decide) (by decide) (by decide) (by decide) (by decide) (by decide) (by decide) (by decide) (by decide) (by decide)
      have fM : ∀ a, a = 3 ∨ a = 6 ∨ a = 28 ∨ a = 29 ∨ a = 34 ∨ a = 43 ∨ a = 44 ∨ a = 49 ∨ a = 70 ∨ 71 ≤ a → F.1 a = M.1 a := fun a ha => by rw [fP a (by omega), PM a (by omega)]
      refine ord_step h hm ⟨?_, ?_⟩ (fM 3 (by omega)) (fun _ _ => by rw [F42]) (fun k hk => fM k (by omega)) F22 (Or.inr ⟨fM 34 (by omega), fun j hj => by rw [fP 2 (by omega), p2 j hj]⟩) ⟨by rw [fP 5 (by omega)]; exact P5, ?_, fM 6 (by omega), fM 49 (by omega)⟩ ⟨?_, ?_, ?_, ?_⟩ ?_ ?_ (fun k hk => fM k (by omega)) ?_ ?_ (fun k hk => F21 k (by omega) (by omega) (by omega) (by omega))
      · rw [F42, fP 2 (by omega)]; exact g3.1.congN p2 g3.2.q7
      · rw [fP 2 (by omega)]; exact g3.2.congN p2
      · rw [e4' 13 (by decide) (by decide) (by decide) (by decide) (by decide) (by decide) (by decide) (by decide)]; exact R13.1
      · rw [f0, m0, if_pos rfl, F1]
      · rw [f0, m0, if_neg (by decide), P0, if_neg (by decide), x013, e4' 18 (by decide) (by decide) (by decide) (by decide) (by decide) (by decide) (by decide) (by decide), R18]
      · rw [f0, m0, if_neg (by decide), P0, if_neg (by decide), x014, e4' 11 (by decide) (by decide) (by decide) (by decide) (by decide) (by decide) (by decide) (by decide), R40 11 (by decide) (by decide) (by decide) (by decide), X40 11 (by omega), y40 11 (by decide) (by decide)]; exact g6.2.2.1
      · rw [f0, m0, if_neg (by decide), P0, if_pos rfl, F55]
      · obtain ⟨a, b, c, d, e⟩ := g7
        rw [eK 12 (by decide) (by decide) (by decide) (by decide) (by decide) (by decide) (by decide) (by decide) (by decide) (by decide) (by decide) (by decide), m12, F41]
        exact ⟨a, b, congrArg (· + 1) c, d, e⟩
      · rw [fP 7 (by omega), p7.1, p7.2, F8]
        refine g8.congAll (fun j hj => ?_) (fun j hj => ?_) F46 F45
        · rw [fP 8 (by omega), p8 j hj]
        · rw [fP 9 (by omega), p9 j hj]
      · rw [e4' 58 (by decide) (by decide) (by decide) (by decide) (by decide) (by decide) (by decide) (by decide), R40 58 (by decide) (by decide) (by decide) (by decide), X40 58 (by omega), y40 58 (by decide) (by decide)]
      · rw [e4' 20 (by decide) (by decide) (by decide) (by decide) (by decide) (by decide) (by decide) (by decide)]; exact R13.2
    · -- done
      have oc : ∀ a, a ≠ 2 → a ≠ 7 → a ≠ 8 → a ≠ 9 → a ≠ 14 → a ≠ 19 → a ≠ 20 → a ≠ 21 → a ≠ 27 → Mc2.1 a = X2.1 a := u5.1
      have CM : ∀ a, a = 3 ∨ a = 6 ∨ a = 12 ∨ a = 28 ∨ a = 29 ∨ 40 ≤ a → Mc2.1 a = M.1 a := fun a ha => by
        rw [oc a (by omega) (by omega) (by omega) (by omega) (by omega) (by omega) (by omega) (by omega) (by omega), X2K a (by omega) (by omega) (by omega) (by omega) (by omega) (by omega) (by omega) (by omega) (by omega) (by omega) (by omega)]
      have C0 : Mc2.1 0 = X1.1 0 := by rw [oc 0 (by decide) (by decide) (by decide) (by decide) (by decide) (by decide) (by decide) (by decide) (by decide), X20]
      have C5 : Mc2.1 5 1 = 0 := by rw [oc 5 (by decide) (by decide) (by decide) (by decide) (by decide) (by decide) (by decide) (by decide) (by decide), X25, x51]
      have C2 : Mc2.2 = M.2 := by rw [u5.2, n3, x2]
      obtain ⟨M1, hM1⟩ : ∃ M1, M1 = az_i (az_i Mc2 0 12 0) 34 13 0 := ⟨_, rfl⟩
      have mK : ∀ a, a ≠ 0 → a ≠ 34 → M1.1 a = Mc2.1 a := fun a p q => by rw [hM1, gi_k q, gi_k p]
      have m2 : M1.2 = M.2 := by rw [hM1]; exact C2
      have m34 : M1.1 34 13 = 0 := by rw [hM1, gi, if_pos rfl, if_pos rfl]
      have m0 : ∀ q, M1.1 0 q = if q = 12 then 0 else X1.1 0 q := fun q => by rw [hM1, gi_k (by decide), gi, if_pos rfl, C0]
      rw [← hM1] at u1
      refine ⟨nI s', M1, az_i Mr2 40 1 0, u1, u2, fun a ha => by rw [mK a (by omega) (by omega), CM a (by omega)], m2, fun hMr => ?_⟩
      have y1 : ∀ a, a ≠ 40 → Mr.1 a = M1.1 a := fun a ha => by rw [hMr, gi_k ha, gi_k ha]
      have y40 : ∀ q, q ≠ 0 → q ≠ 55 → Mr.1 40 q = M.1 40 q := fun q p r => by rw [hMr, gi, if_pos rfl, if_neg r, gi, if_pos rfl, if_neg p, mK 40 (by decide) (by decide), CM 40 (by omega)]
      have y55 : Mr.1 40 55 = -1 := by rw [hMr, gi, if_pos rfl, if_pos rfl]
      have y2 : Mr.2 = M.2 := by rw [hMr]; exact m2
      have eK : ∀ a, a ≠ 40 → a ≠ 42 → a ≠ 45 → a ≠ 46 → a ≠ 47 → a ≠ 48 → a ≠ 51 → a ≠ 52 → a ≠ 53 → a ≠ 54 → a ≠ 69 → (az_i Mr2 40 1 0).1 a = M1.1 a := fun a p40 p42 p45 p46 p47 p48 p51 p52 p53 p54 p69 => by
        rw [gi_k p40, u6.1 a p40 p42 p45 p46, RK a p40 p45 p47 p48, XK a p40 p51 p52 p53 p54 p69, y1 a p40]
      have e4 : ∀ q, q ≠ 1 → (az_i Mr2 40 1 0).1 40 q = Mr2.1 40 q := fun q q1 => by rw [gi, if_pos rfl, if_neg q1]
      have e4' : ∀ q, q ≠ 1 → q ≠ 8 → q ≠ 34 → q ≠ 38 → q ≠ 53 → q ≠ 54 → q ≠ 56 → (az_i Mr2 40 1 0).1 40 q = R.1 40 q := fun q q1 q8 q34 q38 q53 q54 q56 => by
        rw [e4 q q1, u6.2.1 q q8 q34 q38 q53 q54 q56]
      have F1 : (az_i Mr2 40 1 0).1 40 1 = 0 := rfl
      have Fk : ∀ a, a = 42 ∨ a = 45 ∨ a = 46 → (az_i Mr2 40 1 0).1 a = Mr2.1 a := fun a ha => gi_k (by omega)
      have F22 : (az_i Mr2 40 1 0).2.2 = M.2.2 := by
        show Mr2.2.2 = _
        rw [u6.2.2.2.1, R22, y2]
      have F21 : ∀ k, k ≠ 40 → k ≠ 58 → k ≠ 59 → k ≠ 60 → (az_i Mr2 40 1 0).2.1 k = M.2.1 k := fun k h40 h58 h59 h60 => by
        show Mr2.2.1 k = _
        rw [u6.2.2.1 k h40 h58 h59 h60, R21 k h40, y2]
      generalize az_i Mr2 40 1 0 = F at eK e4 e4' F1 Fk F22 F21
      have fC : ∀ a, a = 2 ∨ a = 3 ∨ a = 5 ∨ a = 6 ∨ a = 7 ∨ a = 8 ∨ a = 9 ∨ a = 12 ∨ a = 28 ∨ a = 29 ∨ a = 41 ∨ a = 43 ∨ a = 44 ∨ a = 49 ∨ a = 70 ∨ 71 ≤ a → F.1 a = Mc2.1 a := fun a ha => by rw [eK a (by omega) (by omega) (by omega) (by omega) (by omega) (by omega) (by omega) (by omega) (by omega) (by omega) (by omega), mK a (by omega) (by omega)]
      have f0 : F.1 0 = M1.1 0 := eK 0 (by decide) (by decide) (by decide) (by decide) (by decide) (by decide) (by decide) (by decide) (by decide) (by decide) (by decide)
      have fM : ∀ a, a = 3 ∨ a = 6 ∨ a = 12 ∨ a = 28 ∨ a = 29 ∨ a = 41 ∨ a = 43 ∨ a = 44 ∨ a = 49 ∨ a = 70 ∨ 71 ≤ a → F.1 a = M.1 a := fun a ha => by rw [fC a (by omega), CM a (by omega)]
      have hle : sp_B m + 999 + 160 * l.length ≤ sp_B (m + 1) := by unfold sp_B; omega
      refine ord_step h hm ⟨?_, ?_⟩ (fM 3 (by omega)) (fun j hj => ?_) (fun k hk => fM k (by omega)) F22 (Or.inl ?_) ⟨by rw [fC 5 (by omega)]; exact C5, ?_, fM 6 (by omega), fM 49 (by omega)⟩ ⟨?_, ?_, ?_, ?_⟩ ?_ ?_ (fun k hk => fM k (by omega)) ?_ ?_ (fun k hk => F21 k (by omega) (by omega) (by omega) (by omega))
      · rw [Fk 42 (by omega), fC 2 (by omega)]; exact u3.1.ref.pr
      · rw [fC 2 (by omega)]; exact u3.1.cls.rg.mono hle
      · rw [Fk 42 (by omega), u6.2.2.2.2.1 j hj, R42, ek 42 (by omega)]
      · rw [eK 34 (by decide) (by decide) (by decide) (by decide) (by decide) (by decide) (by decide) (by decide) (by decide) (by decide) (by decide)]; exact m34
      · rw [e4' 13 (by decide) (by decide) (by decide) (by decide) (by decide) (by decide) (by decide)]; exact R13.1
      · rw [f0, m0, if_pos rfl, F1]
      · rw [f0, m0, if_neg (by decide), x013, e4' 18 (by decide) (by decide) (by decide) (by decide) (by decide) (by decide) (by decide), R18]
      · rw [f0, m0, if_neg (by decide), x014, e4' 11 (by decide) (by decide) (by decide) (by decide) (by decide) (by decide) (by decide), R40 11 (by decide) (by decide) (by decide) (by decide), X40 11 (by omega), y40 11 (by decide) (by decide)]; exact g6.2.2.1
      · rw [f0, m0, if_neg (by decide), x015, e4' 55 (by decide) (by decide) (by decide) (by decide) (by decide) (by decide) (by decide), R40 55 (by decide) (by decide) (by decide) (by decide), X40 55 (by omega), y55]
      · rw [fM 12 (by omega), fM 41 (by omega)]; exact g7
      · rw [fC 7 (by omega), fC 8 (by omega), fC 9 (by omega), Fk 46 (by omega), Fk 45 (by omega), e4 8 (by decide)]; exact u3.1.past.mono hle
      · rw [e4' 58 (by decide) (by decide) (by decide) (by decide) (by decide) (by decide) (by decide), R40 58 (by decide) (by decide) (by decide) (by decide), X40 58 (by omega), y40 58 (by decide) (by decide)]
      · rw [e4' 20 (by decide) (by decide) (by decide) (by decide) (by decide) (by decide) (by decide)]; exact R13.2
theorem ob_orders : Ob_orders az_Inv sp_G := by
  intro m Z M hm h
  obtain ⟨r, M1, Mr', e1, -, k1, k2, -⟩ := o_joint (Mr := M) hm h (fun _ _ => rfl) (fun _ _ => rfl) (fun _ _ => rfl)
  obtain ⟨r', M1', Mr2, f1, f2, -, -, f5⟩ := o_joint (Mr := az_i (az_i M1 40 0 0) 40 55 (-1)) hm h (fun j hj => by rw [gi, if_pos rfl, if_neg (by omega), gi, if_pos rfl, if_neg (by omega), k1 40 (by omega)]) (fun k hk => by rw [gi_k (by omega), gi_k (by omega), k1 k (by omega)]) (fun k hk => by show M1.2.1 k = _; rw [k2])
  have e := e1.symm.trans f1
  injection e with e
  injection e with e2 e3
  subst e2 e3
  exact ⟨r, M1, Mr2, e1, f2, f5 rfl⟩
