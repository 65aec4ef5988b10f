/-! BOTH READERS: how often, and if (orders) -/
theorem w_times : (21279923 : Int64) = lN (whash [116, 105, 109, 101, 115]) := by decide
theorem p_257 {k : Nat} (hk : k < 12) (M : az_M) : f_X12_readOrder_257 sp_G (nI (8 * k)) M = some (az_i M 69 (8 * k + 6) (M.1 40 23)) := by
  unfold f_X12_readOrder_257
  rw [show nI (8 * k) + 6 = nI (8 * k + 6) from n_addr 6 (8 * k), if_neg (nI_in (by omega) (by omega)), n_cl (by omega)]
theorem p_219 {k : Nat} (hk : k < 12) (M : az_M) : f_X12_readOrder_219 sp_G (nI (8 * k)) M = (if M.1 40 19 = 0 then rIf (f_X12_readOrder_257 sp_G (nI (8 * k))) (az_i M 69 (8 * k + 5) (M.1 40 23)) else f_X12_readOrder_257 sp_G (nI (8 * k)) (az_i M 69 (8 * k + 5) (M.1 40 23))) := by
  unfold f_X12_readOrder_219 rIf
  have e2 : (az_i M 69 (8 * k + 5) (M.1 40 23)).1 40 19 = M.1 40 19 := by rw [gi_k (by decide)]
  rw [show nI (8 * k) + 5 = nI (8 * k + 5) from n_addr 5 (8 * k), if_neg (nI_in (by omega) (by omega)), n_cl (by omega), e2]
theorem bad_219 {k : Nat} (hk : k < 12) {M : az_M} (h : M.1 40 19 = 1) : ∃ M', f_X12_readOrder_219 sp_G (nI (8 * k)) M = some M' ∧ M'.1 40 19 = 1 ∧ M'.1 40 18 = M.1 40 18 ∧ rQb 69 M M' := by
  rw [p_219 hk, if_neg (by rw [h]; decide), p_257 hk]
  exact ⟨_, rfl, by rw [gi_k (by decide), gi_k (by decide)]; exact h, by rw [gi_k (by decide), gi_k (by decide)], ((rQ_w 0 0 (Or.inr rfl) (by omega)).trans (rQ_w 0 0 (Or.inr rfl) (by omega))).b⟩
theorem bad_171 {k : Nat} (hk : k < 12) {M : az_M} (h : M.1 40 19 = 1) : ∃ M', f_X12_readOrder_171 sp_G (nI (8 * k)) M = some M' ∧ M'.1 40 19 = 1 ∧ M'.1 40 18 = M.1 40 18 ∧ rQb 69 M M' := by
  have e2 : (az_i M 69 (8 * k + 7) 1).1 40 19 = 1 := by rw [gi_k (by decide)]; exact h
  obtain ⟨M', a1, a2, a3, a4⟩ := bad_219 hk e2
  refine ⟨M', ?_, a2, by rw [a3, gi_k (by decide)], (rQ_w 0 0 (Or.inr rfl) (by omega) : rQ 69 0 0 M (az_i M 69 (8 * k + 7) 1)).tB a4⟩
  unfold f_X12_readOrder_171
  rw [show nI (8 * k) + 7 = nI (8 * k + 7) from n_addr 7 (8 * k), if_neg (nI_in (by omega) (by omega)), n_cl (by omega), if_neg (by rw [e2]; decide)]
  exact a1
theorem bad_164 {k : Nat} (hk : k < 12) {M : az_M} (h : M.1 40 19 = 1) : ∃ M', f_X12_readOrder_164 sp_G (nI (8 * k)) M = some M' ∧ M'.1 40 19 = 1 ∧ M'.1 40 18 = M.1 40 18 ∧ rQb 69 M M' := by
  have e2 : (az_i M 69 (8 * k + 3) (M.1 40 23)).1 40 19 = 1 := by rw [gi_k (by decide)]; exact h
  obtain ⟨X, hX⟩ : ∃ X, X = az_i (az_i M 69 (8 * k + 3) (M.1 40 23)) 69 (8 * k + 4) ((az_i M 69 (8 * k + 3) (M.1 40 23)).1 40 23) := ⟨_, rfl⟩
  have x19 : X.1 40 19 = 1 := by rw [hX, gi_k (by decide)]; exact e2
  obtain ⟨M', a1, a2, a3, a4⟩ := bad_171 hk x19
  refine ⟨M', ?_, a2, by rw [a3, hX, gi_k (by decide), gi_k (by decide)], (by rw [hX]; exact (rQ_w 0 0 (Or.inr rfl) (by omega)).trans (rQ_w 0 0 (Or.inr rfl) (by omega)) : rQ 69 0 0 M X).tB a4⟩
  unfold f_X12_readOrder_164 f_X12_readSum f_X12_readSum_22
  rw [show nI (8 * k) + 3 = nI (8 * k + 3) from n_addr 3 (8 * k), if_neg (nI_in (by omega) (by omega)), n_cl (by omega), if_neg (by rw [e2]; decide), show nI (8 * k + 3) + 1 = nI (8 * k + 3 + 1) from n_addr 1 _, if_neg (nI_in (by omega) (by omega)), n_cl (by omega), ← hX, Option.bind_some]
  exact a1
/-- an order's times -/
theorem o_times {T : Nat → Nat} {L : Nat} {Z : az_S × Nat} (hL : L ≤ 400) (h255 : ∀ i, T i ≤ 255) (hZ8 : Z.1.2 18 = 72) {i c n m k : Nat} {Mc Mr : az_M} (hk : k < 12) (hC : CSt T L 1 i c 0 n Mc) (hR : RB T L 1 i c m Mr) :
    (∃ Mc' j Mr', f_X5_readTimes Z sp_G (nI k) Mc = some (0, Mc') ∧ f_X12_readOrder_171 sp_G (nI (8 * k)) Mr = some Mr' ∧ Mc'.1 15 4 = nI j ∧ j ≤ 400 ∧ cQ n (6 * k) Mc Mc' ∧ (Mr'.1 40 19 = 1 ∧ Mr'.1 40 18 = nI j ∧ rQb 69 Mr Mr'))
    ∨ ∃ Mc' Mr' i' tm, f_X5_readTimes Z sp_G (nI k) Mc = some (1, Mc') ∧ f_X12_readOrder_171 sp_G (nI (8 * k)) Mr = f_X12_readOrder_219 sp_G (nI (8 * k)) Mr' ∧ CSt T L 1 i' c 0 n Mc' ∧ RB T L 1 i' c m Mr' ∧ Mr'.1 40 21 = Mr.1 40 21 ∧ cQ n (6 * k) Mc Mc' ∧ rQ 69 m (8 * k + 7) Mr Mr' ∧ (i ≤ i' ∧ 1 ≤ tm ∧ tm ≤ 20) ∧ (Mc'.1 17 = Mc.1 17 ∧ (∀ j, j ≠ 6 * k + 1 → Mc'.1 18 j = Mc.1 18 j) ∧ Mc'.1 18 (6 * k + 1) = nI tm) ∧ Mr'.1 69 (8 * k + 7) = nI tm ∧ (Mr'.1 51 = Mr.1 51 ∧ Mr'.1 52 = Mr.1 52) := by
  have hiL := hC.2.2.1
  have hX := hC.s18 (6 * k + 1) 1
  have fX : cQ n (6 * k) Mc (az_i Mc 18 (6 * k + 1) 1) := cQ_18 _ _ (by omega)
  have x17 : (az_i Mc 18 (6 * k + 1) 1).1 17 = Mc.1 17 := gi_k (by decide)
  have x18 : ∀ j, j ≠ 6 * k + 1 → (az_i Mc 18 (6 * k + 1) 1).1 18 j = Mc.1 18 j := fun j hj => by rw [gi, if_pos rfl, if_neg hj]
  have x1 : (az_i Mc 18 (6 * k + 1) 1).1 18 (6 * k + 1) = 1 := by rw [gi, if_pos rfl, if_pos rfl]
  have hY := hR.w 69 (8 * k + 7) 1 (by decide)
  have fY : rQ 69 m (8 * k + 7) Mr (az_i Mr 69 (8 * k + 7) 1) := rQ_w m _ (Or.inr rfl) (by omega)
  have y7 : (az_i Mr 69 (8 * k + 7) 1).1 69 (8 * k + 7) = 1 := by rw [gi, if_pos rfl, if_pos rfl]
  have yk : ∀ a, a ≠ 69 → (az_i Mr 69 (8 * k + 7) 1).1 a = Mr.1 a := fun a p => gi_k p
  unfold f_X5_readTimes f_X5_readTimes_51 f_X12_readOrder_171
  rw [show f_X10_set Z 16 (nI k) 1 1 Mc = some (az_i Mc 18 (6 * k + 1) 1) from p_set hZ8 hk (j := 1) (by decide) _ _, Option.bind_some, show nI (8 * k) + 7 = nI (8 * k + 7) from n_addr 7 (8 * k)]
  simp only [if_neg (nI_in (show 8 * k + 7 < 96 by omega) (show 96 < 2 ^ 31 by decide))]
  rw [n_cl (by omega)]
  generalize az_i Mc 18 (6 * k + 1) 1 = X at hX fX x17 x18 x1
  generalize az_i Mr 69 (8 * k + 7) 1 = Y at hY fY y7 yk
  rw [show f_X5_wordAmong sp_G 4 X = some (wx T L i 4) from p_wordC hL h255 hX.1.1 hX.1.2 hiL (by decide), Option.bind_some, if_pos hY.2.1.2.1, w_times, p_word1 (a := 4) (by decide) rfl hY.1.2, Option.bind_some]
  by_cases hw : wx T L i 4 = -1
  · rw [if_pos hw, if_pos hw, if_pos rfl]
    exact Or.inr ⟨X, Y, i, 1, rfl, rfl, hX, hY, by rw [yk 40 (by decide)], fX, fY, ⟨Nat.le_refl _, by decide, by decide⟩, ⟨x17, x18, x1⟩, y7, yk 51 (by decide), yk 52 (by decide)⟩
  · rw [if_neg hw, if_neg hw, if_neg (by decide)]
    have hk1 : tkd T L i = 1 := by
      rcases wx_cases T L i 4 (by decide) with ⟨h, -⟩ | ⟨j, -, h, -⟩
      · exact absurd h hw
      · exact h
    have tl := tnx_lt (T := T) (L := L) (i := i) (by omega)
    obtain ⟨X1, a1, a2, a3⟩ := hX.next hL h255
    obtain ⟨Y1, b1, b2, b3⟩ := hY.next hL h255
    rw [a1, Option.bind_some, b1, Option.bind_some]
    obtain ⟨i1, hi1⟩ : ∃ i1, i1 = tnx T L i := ⟨_, rfl⟩
    rw [← hi1] at a2 b2 tl
    have nr1 := num_rel T L (L - i1) i1 0 0 (Or.inl rfl)
    have nb1 := numR_le T L i1 h255
    have ncb1 := numC_le T L i1 h255
    have k1 := tkd_le T L i1
    have hi1L := a2.2.2.1
    have x11 : X1.1 18 = X.1 18 := a3.1 18 (by decide)
    have bad : ¬ (tkd T L i1 = 2 ∧ 1 ≤ numC T L i1 ∧ numC T L i1 ≤ 20) → (∃ Mc' j Mr', (some (0, X1) : Option (Int32 × az_M)) = some (0, Mc') ∧ ((f_X12_number sp_G 1 20 Y1).bind fun q36 => f_X12_readOrder_219 sp_G (nI (8 * k)) (az_i q36.2 69 (8 * k + 7) q36.1)) = some Mr' ∧ Mc'.1 15 4 = nI j ∧ j ≤ 400 ∧ cQ n (6 * k) Mc Mc' ∧ (Mr'.1 40 19 = 1 ∧ Mr'.1 40 18 = nI j ∧ rQb 69 Mr Mr')) := by
      intro hbad
      have en : ∃ v, f_X12_number sp_G 1 20 Y1 = some (v, badM Y1 i1) := by
        unfold f_X12_number f_X12_number_32 f_X12_number_33
        rw [b2.1.2.1, b2.mustBad, Option.bind_some]
        by_cases h2 : tkd T L i1 = 2
        · rw [if_pos (by rw [h2]; rfl), b2.1.2.2.2.2, worth_num h2, p_in_iff, lN_big (by omega), Option.bind_some, if_neg (show ¬ ((1 : Int64).toInt ≤ ((tnum T L 1000000 (L - i1) i1 0 : Nat) : Int) ∧ ((tnum T L 1000000 (L - i1) i1 0 : Nat) : Int) ≤ (20 : Int64).toInt) from fun e => hbad ⟨h2, by
            have e1 := e.1
            have e2 := e.2
            have u1 : (1 : Int64).toInt = 1 := rfl
            have u2 : (20 : Int64).toInt = 20 := rfl
            unfold numC; omega⟩), if_pos rfl]
          exact ⟨_, rfl⟩
        · rw [if_neg (by rw [show (2 : Int32) = nI 2 from rfl, n_eq (by omega) (by omega)]; exact h2)]; exact ⟨_, rfl⟩
      obtain ⟨v, hv⟩ := en
      obtain ⟨M', u1, u2, u3, u4⟩ := bad_219 (M := az_i (badM Y1 i1) 69 (8 * k + 7) v) hk (by rw [gi_k (by decide)]; exact badM_bad.1)
      refine ⟨X1, i1, M', rfl, by rw [hv, Option.bind_some]; exact u1, a2.1.2.2.1, by omega, fX.trans ((a3.fr n).q _), u2, by rw [u3, gi_k (by decide)]; exact badM_bad.2.1, fY.tB ((((b3.fr 0).tB badM_bad.2.2).q 69).trans (((rQ_w 0 0 (Or.inr rfl) (by omega) : rQ 69 0 0 (badM Y1 i1) (az_i (badM Y1 i1) 69 (8 * k + 7) v)).b).trans u4))⟩
    rw [a2.1.2.1, a2.1.2.2.2.2]
    by_cases h2 : tkd T L i1 = 2
    · have hnv : tnv T L 1000 (tkd T L i1) i1 0 = numC T L i1 := by unfold tnv numC; rw [if_pos h2]
      rw [if_pos (by rw [h2]; rfl), hnv]
      by_cases hlo : numC T L i1 < 1
      · rw [if_pos (by rw [show (1 : Int32) = nI 1 from rfl, n_lt (by omega) (by omega)]; exact hlo)]
        exact Or.inl (bad (fun e => by omega))
      · rw [if_neg (by rw [show (1 : Int32) = nI 1 from rfl, n_lt (by omega) (by omega)]; exact hlo)]
        by_cases hhi : numC T L i1 ≤ 20
        · rw [if_pos (by rw [show (20 : Int32) = nI 20 from rfl, n_le (by omega) (by omega)]; exact hhi), show f_X10_set Z 16 (nI k) 1 (nI (numC T L i1)) X1 = some (az_i X1 18 (6 * k + 1) (nI (numC T L i1))) from p_set hZ8 hk (j := 1) (by decide) _ _, Option.bind_some]
          have hnum : tnum T L 1000000 (L - i1) i1 0 = numC T L i1 := by
            clear bad
            rcases nr1 with e | e
            · exact e.symm
            · exfalso
              have e1 : 1000 < numC T L i1 := e.1
              omega
          have hX2 := a2.s18 (6 * k + 1) (nI (numC T L i1))
          obtain ⟨X3, d1, d2, d3⟩ := hX2.next hL h255
          obtain ⟨Y3, f1, f2, f3⟩ := b2.mustOK hL h255
          have tl1 := tnx_lt (T := T) (L := L) (i := i1) (by omega)
          have en : f_X12_number sp_G 1 20 Y1 = some (nI (numC T L i1), Y3) := by
            unfold f_X12_number f_X12_number_32 f_X12_number_33
            rw [b2.1.2.1, if_pos (by rw [h2]; rfl), b2.1.2.2.2.2, worth_num h2, hnum, p_in_iff, lN_big (by omega), Option.bind_some, if_pos (show (1 : Int64).toInt ≤ ((numC T L i1 : Nat) : Int) ∧ ((numC T L i1 : Nat) : Int) ≤ (20 : Int64).toInt from ⟨by have : (1 : Int64).toInt = 1 := rfl; omega, by have : (20 : Int64).toInt = 20 := rfl; omega⟩), if_neg (by decide), f1, Option.bind_some, lN_i]
          rw [d1, Option.bind_some, en, Option.bind_some]
          refine Or.inr ⟨X3, az_i Y3 69 (8 * k + 7) (nI (numC T L i1)), tnx T L i1, numC T L i1, rfl, rfl, d2, f2.w 69 _ _ (by decide), ?_, fX.trans (((a3.fr n).q _).trans ((cQ_18 _ _ (by omega)).trans ((d3.fr n).q _))), fY.trans (((b3.fr m).q 69 _ (Or.inr rfl)).trans (((f3.fr m).q 69 _ (Or.inr rfl)).trans (rQ_w m _ (Or.inr rfl) (by omega)))), ⟨by omega, by omega, hhi⟩, ⟨?_, fun j hj => ?_, ?_⟩, by rw [gi, if_pos rfl, if_pos rfl], ?_, ?_⟩
          · rw [gi_k (by decide), f3.2.1 21 (by decide) (by decide) (by decide), b3.2.1 21 (by decide) (by decide) (by decide), yk 40 (by decide)]
          · rw [d3.1 17 (by decide), gi_k (by decide), a3.1 17 (by decide), x17]
          · rw [d3.1 18 (by decide), gi, if_pos rfl, if_neg hj, x11, x18 j hj]
          · rw [d3.1 18 (by decide), gi, if_pos rfl, if_pos rfl]
          · rw [gi_k (by decide), f3.1 51 (by decide), b3.1 51 (by decide), yk 51 (by decide)]
          · rw [gi_k (by decide), f3.1 52 (by decide), b3.1 52 (by decide), yk 52 (by decide)]
        · rw [if_neg (by rw [show (20 : Int32) = nI 20 from rfl, n_le (by omega) (by omega)]; exact hhi)]
          exact Or.inl (bad (fun e => by omega))
    · rw [if_neg (by rw [show (2 : Int32) = nI 2 from rfl, n_eq (by omega) (by omega)]; exact h2)]
      exact Or.inl (bad (fun e => h2 e.1))
