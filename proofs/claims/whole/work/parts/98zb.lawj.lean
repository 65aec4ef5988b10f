/-! BOTH READERS: a clause of a law, whole -/
theorem RB.row {T : Nat → Nat} {L o i c m w : Nat} {M M' : az_M} (h : RB T L o i c m M) (hw : w ≠ 40 ∧ w ≠ 49) (e : ∀ a, a ≠ w → M'.1 a = M.1 a) (e2 : M'.2 = M.2) : RB T L o i c m M' := by
  obtain ⟨⟨h1, h2⟩, k, b, r⟩ := h
  have e40 : M'.1 40 = M.1 40 := e 40 (fun e => hw.1 e.symm)
  exact ⟨⟨by unfold Tr; rw [e40, e 49 (fun e => hw.2 e.symm)]; exact h1, by unfold tokR; rw [e40, e2]; exact h2⟩, by rw [e40]; exact k, b, by unfold RWk; rw [e2]; exact r⟩
theorem p_185 {k : Nat} (hk : k < 12) (M : az_M) : f_X12_readLaw_185 sp_G (nI (8 * k)) M = some (az_i M 50 (8 * k + 6) (M.1 40 23)) := by
  unfold f_X12_readLaw_185
  rw [show nI (8 * k) + 6 = nI (8 * k + 6) from n_addr 6 (8 * k), if_neg (nI_in (by omega) (by omega)), n_cl (by omega)]
theorem p_135 {k : Nat} (hk : k < 12) (M : az_M) : f_X12_readLaw_135 sp_G (nI (8 * k)) M = (if M.1 40 19 = 0 then rIf (f_X12_readLaw_185 sp_G (nI (8 * k))) (az_i (az_i M 50 (8 * k + 4) (M.1 40 23)) 50 (8 * k + 5) (M.1 40 23)) else f_X12_readLaw_185 sp_G (nI (8 * k)) (az_i (az_i M 50 (8 * k + 4) (M.1 40 23)) 50 (8 * k + 5) (M.1 40 23))) := by
  unfold f_X12_readLaw_135 rIf
  have e1 : (az_i M 50 (8 * k + 4) (M.1 40 23)).1 40 23 = M.1 40 23 := by rw [gi_k (by decide)]
  have e2 : (az_i (az_i M 50 (8 * k + 4) (M.1 40 23)) 50 (8 * k + 5) (M.1 40 23)).1 40 19 = M.1 40 19 := by rw [gi_k (by decide), gi_k (by decide)]
  rw [show nI (8 * k) + 4 = nI (8 * k + 4) from n_addr 4 (8 * k), show nI (8 * k) + 5 = nI (8 * k + 5) from n_addr 5 (8 * k), if_neg (nI_in (by omega) (by omega)), if_neg (nI_in (by omega) (by omega)), n_cl (by omega), n_cl (by omega), e1, e2]
theorem bad_135 {k : Nat} (hk : k < 12) {M : az_M} (h : M.1 40 19 = 1) : ∃ M', f_X12_readLaw_135 sp_G (nI (8 * k)) M = some M' ∧ M'.1 40 19 = 1 ∧ M'.1 40 18 = M.1 40 18 ∧ rQb 50 M M' := by
  rw [p_135 hk, if_neg (by rw [h]; decide), p_185 hk]
  exact ⟨_, rfl, by rw [gi_k (by decide), gi_k (by decide), gi_k (by decide)]; exact h, by rw [gi_k (by decide), gi_k (by decide), gi_k (by decide)], ((rQ_w 0 0 (Or.inl rfl) (by omega)).trans ((rQ_w 0 0 (Or.inl rfl) (by omega)).trans (rQ_w 0 0 (Or.inl rfl) (by omega)))).b⟩
theorem law_tail {T : Nat → Nat} {L : Nat} {Z : az_S × Nat} (hL : L ≤ 400) (h255 : ∀ i, T i ≤ 255) (hZ : Z.1.2 17 = 400) (hZ8 : Z.1.2 18 = 72) {i c n m k : Nat} {Mc Mr : az_M} (hk : k < 12) (hC : CSt T L 0 i c 0 n Mc) (hR : RB T L 0 i c m Mr) :
    (∃ Mc' j Mr', f_X5_readLawClause_68 Z sp_G (nI k) Mc = some (0, Mc') ∧ f_X12_readLaw_135 sp_G (nI (8 * k)) Mr = some Mr' ∧ Mc'.1 15 4 = nI j ∧ j ≤ 400 ∧ cQ n (6 * k) Mc Mc' ∧ (Mr'.1 40 19 = 1 ∧ Mr'.1 40 18 = nI j ∧ rQb 50 Mr Mr'))
    ∨ ∃ Mc' Mr' i' c' n' m' φ, f_X5_readLawClause_68 Z sp_G (nI k) Mc = some (1, Mc') ∧ f_X12_readLaw_135 sp_G (nI (8 * k)) Mr = some Mr' ∧ CSt T L 0 i' c' 0 n' Mc' ∧ RB T L 0 i' c' m' Mr' ∧ Mr'.1 40 21 = Mr.1 40 21 ∧ cQ n (6 * k + 3) Mc Mc' ∧ rQ 50 m (8 * k + 4) Mr Mr' ∧ ((i ≤ i' ∧ n' + i ≤ n + i') ∧ n ≤ n' ∧ m ≤ m' ∧ c ≤ c' ∧ is01 φ) ∧ (Mc'.1 18 (6 * k + 3) = nI n ∧ Mc'.1 18 (6 * k + 4) = nI n ∧ Mc'.1 18 (6 * k + 5) = nI n') ∧ (Mr'.1 50 (8 * k + 4) = nI m ∧ Mr'.1 50 (8 * k + 5) = nI m ∧ Mr'.1 50 (8 * k + 6) = nI m') ∧ cS0 11 (Mc'.1 17) n n' (c' - c) φ ∧ rS0 0 (Mr'.1 51) (Mr'.1 52) m m' (c' - c) φ := by
  have hX := hC.s18 (6 * k + 3) (nI n)
  have fX : cQ n (6 * k + 3) Mc (az_i Mc 18 (6 * k + 3) (nI n)) := cQ_18 _ _ (by omega)
  have x3 : (az_i Mc 18 (6 * k + 3) (nI n)).1 18 (6 * k + 3) = nI n := by rw [gi, if_pos rfl, if_pos rfl]
  have hY := (hR.w 50 (8 * k + 4) (nI m) (by decide)).w 50 (8 * k + 5) (nI m) (by decide)
  have fY : ∀ m0, rQ 50 m0 (8 * k + 4) Mr (az_i (az_i Mr 50 (8 * k + 4) (nI m)) 50 (8 * k + 5) (nI m)) := fun m0 => (rQ_w m0 _ (Or.inl rfl) (by omega)).trans (rQ_w m0 _ (Or.inl rfl) (by omega))
  have y4 : (az_i (az_i Mr 50 (8 * k + 4) (nI m)) 50 (8 * k + 5) (nI m)).1 50 (8 * k + 4) = nI m := by rw [gi, if_pos rfl, if_neg (by omega), gi, if_pos rfl, if_pos rfl]
  have y5 : (az_i (az_i Mr 50 (8 * k + 4) (nI m)) 50 (8 * k + 5) (nI m)).1 50 (8 * k + 5) = nI m := by rw [gi, if_pos rfl, if_pos rfl]
  have y21 : (az_i (az_i Mr 50 (8 * k + 4) (nI m)) 50 (8 * k + 5) (nI m)).1 40 21 = Mr.1 40 21 := by rw [gi_k (by decide), gi_k (by decide)]
  unfold f_X5_readLawClause_68
  rw [show f_X10_set Z 16 (nI k) 3 (Mc.1 16 2) Mc = some (az_i Mc 18 (6 * k + 3) (Mc.1 16 2)) from p_set hZ8 hk (j := 3) (by decide) _ _, hC.2.1.2.2.2, Option.bind_some, p_135 hk, if_pos hR.2.1.2.1, hR.2.1.2.2.2]
  generalize az_i Mc 18 (6 * k + 3) (nI n) = X at hX fX x3
  generalize az_i (az_i Mr 50 (8 * k + 4) (nI m)) 50 (8 * k + 5) (nI m) = Y at hY fY y4 y5 y21
  rcases j_if hL h255 hZ hZ8 (by decide) hk hX hY with ⟨Mc', j, Mr', e1, e2, e3, e4, e5, e6⟩ | ⟨Mc', Mr', i', c', n', m', φ, e1, e2, e3, e4, e5, e6, ⟨e7, e8, e9, e10, e11⟩, ⟨d1, d2⟩, s1, s2⟩
  · rw [e1, Option.bind_some, if_pos (Or.inl rfl), e2, p_185 hk]
    exact Or.inl ⟨Mc', j, _, rfl, rfl, e3, e4, (fX.mono (Nat.le_refl _) (by omega)).trans e5, by rw [gi_k (by decide)]; exact e6.1, by rw [gi_k (by decide)]; exact e6.2.1, (fY 0).tB ((e6.2.2.q 50).trans (rQ_w 0 0 (Or.inl rfl) (by omega)).b)⟩
  · rw [e1, Option.bind_some, if_pos (Or.inr rfl), e2, p_185 hk, e4.2.1.2.2.2]
    have r50 : Mr'.1 50 = Y.1 50 := e6.1 50 (by decide) (by decide) (by decide) (by decide) (by decide)
    refine Or.inr ⟨Mc', _, i', c', n', m', φ, rfl, rfl, e3, e4.w 50 _ _ (by decide), ?_, fX.trans (e5.mono (Nat.le_refl _) (by omega)), (fY m).trans ((e6.q 50 _ (Or.inl rfl)).trans (rQ_w m _ (Or.inl rfl) (by omega))), ⟨e7, e8, e9, e10, e11⟩, ⟨?_, d1, d2⟩, ⟨?_, ?_, ?_⟩, s1, by rw [gi_k (by decide), gi_k (by decide)]; exact s2⟩
    · rw [gi_k (by decide), e6.2.1 21 (by decide) (by decide) (by decide) (by decide) (by decide) (by decide) (by decide) (by decide) (by decide)]; exact y21
    · rw [e5.2.2.2.1 _ (by omega)]; exact x3
    · rw [gi, if_pos rfl, if_neg (by omega), r50]; exact y4
    · rw [gi, if_pos rfl, if_neg (by omega), r50]; exact y5
    · rw [gi, if_pos rfl, if_pos rfl]
theorem j_lawC {T : Nat → Nat} {L : Nat} {Z : az_S × Nat} (hL : L ≤ 400) (h255 : ∀ i, T i ≤ 255) (hZ : Z.1.2 17 = 400) (hZ8 : Z.1.2 18 = 72) {i c n m k : Nat} {Mc Mr : az_M} (hk : k < 12) (hC : CSt T L 0 i c 0 n Mc) (hR : RB T L 0 i c m Mr) (h21 : Mr.1 40 21 = nI k) :
    (∃ Mc' j Mr', f_X5_readLawClause Z sp_G (nI k) Mc = some (0, Mc') ∧ f_X12_readLaw sp_G Mr = some Mr' ∧ Mc'.1 15 4 = nI j ∧ j ≤ 400 ∧ cQ n (6 * k) Mc Mc' ∧ (Mr'.1 40 19 = 1 ∧ Mr'.1 40 18 = nI j ∧ rQb 50 Mr Mr'))
    ∨ ∃ Mc' Mr' i' c' n' m' x, f_X5_readLawClause Z sp_G (nI k) Mc = some (1, Mc') ∧ f_X12_readLaw sp_G Mr = some Mr' ∧ CSt T L 0 i' c' 0 n' Mc' ∧ RB T L 0 i' c' m' Mr' ∧ Mr'.1 40 21 = nI (k + 1) ∧ cQ n (6 * k) Mc Mc' ∧ rQ 50 m (8 * k) Mr Mr' ∧ ((i < i' ∧ n' + i ≤ n + i') ∧ n ≤ n' ∧ m ≤ m' ∧ c ≤ c') ∧ lawOk x ∧ lawC (Mc'.1 17) (Mc'.1 18) k n' x ∧ lawR (Mr'.1 51) (Mr'.1 52) (Mr'.1 50) k m' x := by
  have hiL := hC.2.2.1
  unfold f_X5_readLawClause
  rw [show f_X5_wordAmong sp_G 0 Mc = some (wx T L i 0) from p_wordC hL h255 hC.1.1 hC.1.2 hiL (by decide), Option.bind_some, r_lawHead hR]
  rcases wx_cases T L i 0 (by decide) with ⟨hw, -⟩ | ⟨j, hj1, hj2, -, hj4⟩
  · rw [if_pos hw, if_pos hw]
    unfold f_X12_readLaw_53 f_X12_readLaw_54
    rw [hR.mustBad, Option.bind_some, if_neg bad19]
    exact Or.inl ⟨Mc, i, _, rfl, rfl, hC.1.2.2.1, by omega, cQ.refl _ _ _, badM_bad.1, badM_bad.2.1, badM_bad.2.2.q 50⟩
  · have hj5 : j < 5 := hj1
    have hk0 : tkd T L i ≠ 0 := by omega
    have tl := tnx_lt hk0
    have nw : ¬ wx T L i 0 = -1 := by rw [hj4, n_nm1 (by omega)]; exact not_false
    rw [if_neg nw, if_neg nw, hj4, if_neg (by rw [h21, show (12 : Int32) = nI 12 from rfl, n_le (by omega) (by omega)]; omega)]
    -- the class, up to the sum
    rw [show f_X10_set Z 16 (nI k) 0 (nI j) Mc = some (az_i Mc 18 (6 * k + 0) (nI j)) from p_set hZ8 hk (j := 0) (by decide) _ _, Option.bind_some, show f_X10_set Z 16 (nI k) 1 1 (az_i Mc 18 (6 * k + 0) (nI j)) = some (az_i (az_i Mc 18 (6 * k + 0) (nI j)) 18 (6 * k + 1) 1) from p_set hZ8 hk (j := 1) (by decide) _ _, Option.bind_some]
    have hX2 := (hC.s18 (6 * k + 0) (nI j)).s18 (6 * k + 1) 1
    have fX2 : cQ n (6 * k) Mc (az_i (az_i Mc 18 (6 * k + 0) (nI j)) 18 (6 * k + 1) 1) := (cQ_18 _ _ (by omega)).trans (cQ_18 _ _ (by omega))
    have x0 : (az_i (az_i Mc 18 (6 * k + 0) (nI j)) 18 (6 * k + 1) 1).1 18 (6 * k) = nI j := by rw [gi, if_pos rfl, if_neg (by omega), gi, if_pos rfl, if_pos (show 6 * k = 6 * k + 0 from rfl)]
    generalize az_i (az_i Mc 18 (6 * k + 0) (nI j)) 18 (6 * k + 1) 1 = X2 at hX2 fX2 x0
    rw [show f_X10_set Z 16 (nI k) 2 (X2.1 16 2) X2 = some (az_i X2 18 (6 * k + 2) (X2.1 16 2)) from p_set hZ8 hk (j := 2) (by decide) _ _, hX2.2.1.2.2.2, Option.bind_some]
    have hX3 := hX2.s18 (6 * k + 2) (nI n)
    have fX3 : cQ n (6 * k) Mc (az_i X2 18 (6 * k + 2) (nI n)) := fX2.trans (cQ_18 _ _ (by omega))
    have x30 : (az_i X2 18 (6 * k + 2) (nI n)).1 18 (6 * k) = nI j := by rw [gi, if_pos rfl, if_neg (by omega)]; exact x0
    have x32 : (az_i X2 18 (6 * k + 2) (nI n)).1 18 (6 * k + 2) = nI n := by rw [gi, if_pos rfl, if_pos rfl]
    generalize az_i X2 18 (6 * k + 2) (nI n) = X3 at hX3 fX3 x30 x32
    obtain ⟨Y, y1, y2, y3⟩ := hX3.next hL h255
    rw [y1, Option.bind_some]
    have fY : cQ n (6 * k) Mc Y := fX3.trans ((y3.fr n).q _)
    have y18 : Y.1 18 = X3.1 18 := y3.1 18 (by decide)
    -- the reference, up to the sum
    obtain ⟨Mr1, r1, r2, r3⟩ := hR.mustOK hL h255
    have r21 : Mr1.1 40 21 = nI k := by rw [r3.2.1 21 (by decide) (by decide) (by decide)]; exact h21
    obtain ⟨Mr2, w1, w2, w3, w4⟩ := r_wipe hk (nI j) 8 0 sp_G Mr1 (by decide) (by decide)
    have hR2 := r2.row (w := 50) (by decide) w2 w4
    have e21 : (az_i Mr2 50 (8 * k) (nI j)).1 40 21 + 1 = nI (k + 1) := by rw [gi_k (by decide), w2 40 (by decide), r21]; exact (nI_succ k).symm
    have hR5 := ((hR2.w 50 (8 * k) (nI j) (by decide)).c21 (nI (k + 1))).w 50 (8 * k + 3) (nI m) (by decide)
    have f02 : ∀ m0, rQ 50 m0 (8 * k) Mr Mr2 := fun m0 => ((r3.fr m0).q 50 _ (Or.inl rfl)).trans ⟨fun a _ _ _ _ _ p => w2 a p, fun j' _ _ _ _ _ _ _ _ _ _ => by rw [w2 40 (by decide)], fun _ _ => by rw [w4], fun _ _ => by rw [w4], by rw [w4], fun j' _ => by rw [w2 51 (by decide), w2 52 (by decide)]; exact ⟨rfl, rfl⟩, w3⟩
    have f05 : ∀ m0, rQ 50 m0 (8 * k) Mr (az_i (az_i (az_i Mr2 50 (8 * k) (nI j)) 40 21 (nI (k + 1))) 50 (8 * k + 3) (nI m)) := fun m0 => (f02 m0).trans ((rQ_w m0 _ (Or.inl rfl) (by omega)).trans ((rQ_21 m0 _ (Or.inl rfl)).trans (rQ_w m0 _ (Or.inl rfl) (by omega))))
    have z0 : (az_i (az_i (az_i Mr2 50 (8 * k) (nI j)) 40 21 (nI (k + 1))) 50 (8 * k + 3) (nI m)).1 50 (8 * k) = nI j := by rw [gi, if_pos rfl, if_neg (by omega), gi_k (by decide), gi, if_pos rfl, if_pos rfl]
    have z3 : (az_i (az_i (az_i Mr2 50 (8 * k) (nI j)) 40 21 (nI (k + 1))) 50 (8 * k + 3) (nI m)).1 50 (8 * k + 3) = nI m := by rw [gi, if_pos rfl, if_pos rfl]
    have z21 : (az_i (az_i (az_i Mr2 50 (8 * k) (nI j)) 40 21 (nI (k + 1))) 50 (8 * k + 3) (nI m)).1 40 21 = nI (k + 1) := by rw [gi_k (by decide), gi, if_pos rfl, if_pos rfl]
    have ref : f_X12_readLaw_54 sp_G (nI j) 1 Mr = (if nI j = 4 then f_X12_readLaw_135 sp_G (nI (8 * k)) (az_i (az_i (az_i Mr2 50 (8 * k) (nI j)) 40 21 (nI (k + 1))) 50 (8 * k + 3) (nI m)) else (f_X12_readExpression sp_G 0 (az_i (az_i (az_i Mr2 50 (8 * k) (nI j)) 40 21 (nI (k + 1))) 50 (8 * k + 3) (nI m))).bind fun q => f_X12_readLaw_135 sp_G (nI (8 * k)) q) := by
      unfold f_X12_readLaw_54
      have e23 : (az_i (az_i Mr2 50 (8 * k) (nI j)) 40 21 (nI (k + 1))).1 40 23 = nI m := by rw [gi, if_pos rfl, if_neg (by decide), gi_k (by decide)]; exact hR2.2.1.2.2.2
      rw [r1, Option.bind_some, if_pos r2.2.1.2.1, r21, show (8 : Int32) * nI k = nI (8 * k) from n_mull 8 k, show f_X12_readLaw_75 sp_G sp_G (nI j) (nI (8 * k)) 0 Mr1 = _ from w1, show sp_G - 8 = 999991 + 1 from rfl, f_X12_readLaw_75, if_pos (by decide), if_neg (nI_in (by omega) (by omega)), show nI (8 * k) + 3 = nI (8 * k + 3) from n_addr 3 (8 * k), if_neg (nI_in (by omega) (by omega)), n_cl (by omega), n_cl (by omega), e21, e23]
    rw [ref]
    generalize az_i (az_i (az_i Mr2 50 (8 * k) (nI j)) 40 21 (nI (k + 1))) 50 (8 * k + 3) (nI m) = M5 at hR5 f05 z0 z3 z21
    have e4i : (nI j = 4) = (j = 4) := by rw [show (4 : Int32) = nI 4 from rfl, n_eq (by omega) (by omega)]
    have hd : nI j = 0 ∨ nI j = 1 ∨ nI j = 2 ∨ nI j = 3 ∨ nI j = 4 := by
      rcases (show j = 0 ∨ j = 1 ∨ j = 2 ∨ j = 3 ∨ j = 4 by omega) with rfl | rfl | rfl | rfl | rfl
      · exact Or.inl rfl
      · exact Or.inr (Or.inl rfl)
      · exact Or.inr (Or.inr (Or.inl rfl))
      · exact Or.inr (Or.inr (Or.inr (Or.inl rfl)))
      · exact Or.inr (Or.inr (Or.inr (Or.inr rfl)))
    -- behind the sum
    have tail : ∀ (Mc2 Mr6 : az_M) (i2 c2 n2 m2 : Nat) (φs : sp_E → Option Int32), CSt T L 0 i2 c2 0 n2 Mc2 → RB T L 0 i2 c2 m2 Mr6 → cFr n Y Mc2 → rFr m M5 Mr6 → (i < i2 ∧ n2 + tnx T L i ≤ n + i2 ∧ n ≤ n2 ∧ m ≤ m2 ∧ c ≤ c2) → sok 11 φs → cS0 11 (Mc2.1 17) n n2 (c2 - c) φs → (if nI j = 4 then φs = (fun _ => some 1) else rSeg 0 (Mr6.1 51) (Mr6.1 52) m m2 (c2 - c) φs) →
        (∃ Mc' j Mr', f_X5_readLawClause_68 Z sp_G (nI k) Mc2 = some (0, Mc') ∧ f_X12_readLaw_135 sp_G (nI (8 * k)) Mr6 = some Mr' ∧ Mc'.1 15 4 = nI j ∧ j ≤ 400 ∧ cQ n (6 * k) Mc Mc' ∧ (Mr'.1 40 19 = 1 ∧ Mr'.1 40 18 = nI j ∧ rQb 50 Mr Mr'))
        ∨ ∃ Mc' Mr' i' c' n' m' x, f_X5_readLawClause_68 Z sp_G (nI k) Mc2 = some (1, Mc') ∧ f_X12_readLaw_135 sp_G (nI (8 * k)) Mr6 = some Mr' ∧ CSt T L 0 i' c' 0 n' Mc' ∧ RB T L 0 i' c' m' Mr' ∧ Mr'.1 40 21 = nI (k + 1) ∧ cQ n (6 * k) Mc Mc' ∧ rQ 50 m (8 * k) Mr Mr' ∧ ((i < i' ∧ n' + i ≤ n + i') ∧ n ≤ n' ∧ m ≤ m' ∧ c ≤ c') ∧ lawOk x ∧ lawC (Mc'.1 17) (Mc'.1 18) k n' x ∧ lawR (Mr'.1 51) (Mr'.1 52) (Mr'.1 50) k m' x := by
      intro Mc2 Mr6 i2 c2 n2 m2 φs hC2 hR6 fC fR hb ok sC sR
      have f0c : cQ n (6 * k) Mc Mc2 := fY.trans (fC.q _)
      have f0r : rQ 50 m (8 * k) Mr Mr6 := (f05 m).trans (fR.q 50 _ (Or.inl rfl))
      have c18 : Mc2.1 18 = X3.1 18 := by rw [fC.1 18 (by decide) (by decide) (by decide), y18]
      have r50 : Mr6.1 50 = M5.1 50 := fR.1 50 (by decide) (by decide) (by decide) (by decide) (by decide)
      have rr21 : Mr6.1 40 21 = nI (k + 1) := by rw [fR.2.1 21 (by decide) (by decide) (by decide) (by decide) (by decide) (by decide) (by decide) (by decide) (by decide)]; exact z21
      rcases law_tail hL h255 hZ hZ8 hk hC2 hR6 with ⟨Mc', j', Mr', e1, e2, e3, e4, e5, e6, e7, e8⟩ | ⟨Mc', Mr', i', c', n', m', φ, e1, e2, e3, e4, e5, e6, e7, ⟨⟨b1, b2⟩, b3, b4, b5, b6⟩, ⟨d3, d4, d5⟩, ⟨g4, g5, g6⟩, s1, s2⟩
      · exact Or.inl ⟨Mc', j', Mr', e1, e2, e3, e4, f0c.trans (e5.mono (by omega) (Nat.le_refl _)), e6, e7, f0r.tB e8⟩
      · have hc50 := e3.2.2.2.2.1
        refine Or.inr ⟨Mc', Mr', i', c', n', m', (nI j, φ, φs), e1, e2, e3, e4, by rw [e5]; exact rr21, f0c.trans (e6.mono (by omega) (by omega)), f0r.trans (e7.mono (by omega) (by omega)), ⟨⟨by omega, by omega⟩, by omega, by omega, by omega⟩, ⟨hd, b6, ok⟩, ⟨n, n2, n', c2 - c, c' - c2, ⟨?_, ?_, d3, d4, d5⟩, ⟨hb.2.2.1, b3, Nat.le_refl _, by omega, by omega⟩, sC.cong (fun j' _ hj => e6.2.2.1 j' hj), s1⟩, m, m2, m', c2 - c, c' - c2, ⟨?_, ?_, g4, g5, g6⟩, ⟨hb.2.2.2.1, b4, Nat.le_refl _, by omega, by omega⟩, ?_, s2⟩
        · rw [e6.2.2.2.1 _ (by omega), c18]; exact x30
        · rw [e6.2.2.2.1 _ (by omega), c18]; exact x32
        · rw [e7.2.2.2.2.2.2 _ (by omega), r50]; exact z0
        · rw [e7.2.2.2.2.2.2 _ (by omega), r50]; exact z3
        · show (if nI j = 4 then φs = (fun _ => some 1) else rSeg 0 (Mr'.1 51) (Mr'.1 52) m m2 (c2 - c) φs)
          by_cases h4 : nI j = 4
          · rw [if_pos h4] at sR ⊢; exact sR
          · rw [if_neg h4] at sR ⊢; exact sR.cong (fun j' _ hj => e7.2.2.2.2.2.1 j' hj)
    by_cases h4 : nI j = 4
    · rw [if_pos h4, if_pos h4]
      exact tail Y M5 (tnx T L i) c n m (fun _ => some 1) y2 hR5 (cFr.refl n Y) (rFr.refl m M5) ⟨tl.1, by omega, Nat.le_refl _, Nat.le_refl _, Nat.le_refl _⟩ sok_one (Or.inl ⟨rfl, rfl⟩) (by rw [if_pos h4])
    · rw [if_neg h4, if_neg h4]
      rcases x_sum (Z := Z) hL h255 hZ (by decide) y2 hR5 with ⟨Mc', j', Mr', e1, e2, e3, e4, e5, e6⟩ | ⟨Mc', Mr', i', c', n', m', φ, e1, e2, e3, e4, e5, e6, ⟨⟨e7, e7n⟩, e8, e9⟩, s1, s2⟩
      · rw [e1, Option.bind_some, if_pos rfl, e2, Option.bind_some]
        obtain ⟨Mr7, u1, u2, u3, u4⟩ := bad_135 hk e6.1
        exact Or.inl ⟨Mc', j', Mr7, rfl, u1, e3, e4, fY.trans (e5.q _), u2, by rw [u3]; exact e6.2.1, (f05 0).tB ((e6.2.2.q 50).trans u4)⟩
      · rw [e1, Option.bind_some, if_neg (show ¬ (1 : Int32) = 0 by decide), e2, Option.bind_some]
        have q1 := s1.1
        have q2 := s2.1
        exact tail Mc' Mr' i' c' n' m' φ e3 e4 e5 e6 ⟨by omega, by omega, by omega, by omega, by omega⟩ e9 (Or.inr s1) (by rw [if_neg h4]; exact s2)
