/-! BOTH READERS: from the start -/
def cX (M : az_M) (o : Nat) : az_M := az_i (az_i (az_i (az_i (az_i (az_i M 15 2 (nI o)) 16 2 0) 16 3 0) 15 5 0) 15 7 0) 15 8 0
theorem c_start {T : Nat → Nat} {L o : Nat} (hL : L ≤ 400) (h255 : ∀ i, T i ≤ 255) {M : az_M} (hT : Tc T L M) : ∃ Mc, f_X5_nextToken sp_G (cX M o) = some Mc ∧ CSt T L o (tsk T L L 0) 0 0 0 Mc ∧ (∀ a, a ≠ 15 → a ≠ 16 → Mc.1 a = M.1 a) ∧ (∀ j, j ≠ 2 → j ≠ 3 → Mc.1 16 j = M.1 16 j) ∧ Mc.2 = M.2 := by
  have ek : ∀ a, a ≠ 15 → a ≠ 16 → (cX M o).1 a = M.1 a := fun a p q => by unfold cX; rw [gi_k p, gi_k p, gi_k p, gi_k q, gi_k q, gi_k p]
  have e16 : ∀ j, j ≠ 2 → j ≠ 3 → (cX M o).1 16 j = M.1 16 j := fun j p q => by unfold cX; rw [gi_k (by decide), gi_k (by decide), gi_k (by decide), gi, if_pos rfl, if_neg q, gi, if_pos rfl, if_neg p, gi_k (by decide)]
  have hT' : Tc T L (cX M o) := hT.cF (fun k hk => ek k (by omega) (by omega))
  obtain ⟨Mc, a1, a2, a3⟩ := c_next (p := 0) hL h255 hT' (by omega) (show (cX M o).1 15 5 = nI 0 from rfl)
  rw [Nat.sub_zero] at a2
  have tl := tsk_le T L L 0 (by omega)
  refine ⟨Mc, a1, ⟨⟨hT'.cF (fun k hk => a3.1 k (by omega)), a2⟩, ⟨?_, ?_, ?_, ?_⟩, tl.2, by omega, by omega, by omega⟩, fun a p q => by rw [a3.1 a p, ek a p q], fun j p q => by rw [a3.1 16 (by decide), e16 j p q], by rw [a3.2.2]; rfl⟩
  · rw [a3.2.1 2 (by decide) (by decide) (by decide) (by decide)]; rfl
  · rw [a3.2.1 7 (by decide) (by decide) (by decide) (by decide)]; rfl
  · rw [a3.2.1 8 (by decide) (by decide) (by decide) (by decide)]; rfl
  · rw [a3.1 16 (by decide)]; rfl
theorem r_start {T : Nat → Nat} {L o : Nat} (hL : L ≤ 400) (h255 : ∀ i, T i ≤ 255) (ho : o ≤ 1) {M : az_M} (hT : Tr T L M) (hW : RWk M) : ∃ Mr, f_X12_beginText sp_G (nI o) M = some Mr ∧ RB T L o (tsk T L L 0) 0 0 Mr ∧ (Mr.1 40 21 = nI 0 ∧ Mr.1 40 18 = -1) ∧ (∀ a, a ≠ 40 → Mr.1 a = M.1 a) ∧ (∀ j, j ≠ 14 → j ≠ 15 → j ≠ 16 → j ≠ 18 → j ≠ 19 → j ≠ 20 → j ≠ 21 → j ≠ 23 → j ≠ 26 → Mr.1 40 j = M.1 40 j) ∧ (∀ a, a ≠ 40 → Mr.2.1 a = M.2.1 a) ∧ Mr.2.2 = M.2.2 := by
  obtain ⟨X, hX⟩ : ∃ X, X = az_i (az_i (az_i (az_i M 40 20 (nI o)) 40 15 0) 40 19 0) 40 18 (-1) := ⟨_, rfl⟩
  have xk : ∀ a, a ≠ 40 → X.1 a = M.1 a := fun a p => by rw [hX, gi_k p, gi_k p, gi_k p, gi_k p]
  have xj : ∀ j, j ≠ 15 → j ≠ 18 → j ≠ 19 → j ≠ 20 → X.1 40 j = M.1 40 j := fun j p q r s => by rw [hX, gi, if_pos rfl, if_neg q, gi, if_pos rfl, if_neg r, gi, if_pos rfl, if_neg p, gi, if_pos rfl, if_neg s]
  have hT' : Tr T L X := by unfold Tr; rw [xj 13 (by decide) (by decide) (by decide) (by decide), xk 49 (by decide)]; exact hT
  obtain ⟨Y, a1, a2, a3⟩ := r_next (p := 0) hL h255 hT' (by omega) (show X.1 40 15 = nI 0 by rw [hX]; rfl)
  rw [Nat.sub_zero] at a2
  have tl := tsk_le T L L 0 (by omega)
  have fj := fun j (x : j ≠ 14) (y : j ≠ 15) (z : j ≠ 16) => a3.2.1 j x y z
  obtain ⟨W, hW'⟩ : ∃ W, W = az_i (az_i (az_i Y 40 21 0) 40 23 0) 40 26 0 := ⟨_, rfl⟩
  have wk : ∀ a, a ≠ 40 → W.1 a = Y.1 a := fun a p => by rw [hW', gi_k p, gi_k p, gi_k p]
  have wj : ∀ j, j ≠ 21 → j ≠ 23 → j ≠ 26 → W.1 40 j = Y.1 40 j := fun j p q r => by rw [hW', gi, if_pos rfl, if_neg r, gi, if_pos rfl, if_neg q, gi, if_pos rfl, if_neg p]
  have w2 : W.2 = Y.2 := by rw [hW']; rfl
  have x2 : X.2 = M.2 := by rw [hX]; rfl
  refine ⟨W, ?_, ⟨⟨?_, ?_⟩, ⟨?_, ?_, by rw [hW']; rfl, by rw [hW']; rfl⟩, ⟨tl.2, by omega, by omega⟩, ?_⟩, ⟨by rw [hW']; rfl, by rw [wj 18 (by decide) (by decide) (by decide), fj 18 (by decide) (by decide) (by decide), hX]; rfl⟩, fun a p => by rw [wk a p, a3.1 a p, xk a p], fun j p q r s t u v x y => by rw [wj j v x y, fj j p q r, xj j q s t u], fun a p => by rw [w2, a3.2.2.1 a p, x2], by rw [w2, a3.2.2.2.2, x2]⟩
  · unfold f_X12_beginText f_X12_begin
    rw [if_pos (by rcases (show o = 0 ∨ o = 1 by omega) with rfl | rfl; exact Or.inl rfl; exact Or.inr rfl), ← hX, a1, Option.bind_some, Option.bind_some, ← hW']
  · have := hT'.rF a3
    unfold Tr at this ⊢; rw [wj 13 (by decide) (by decide) (by decide), wk 49 (by decide)]; exact this
  · unfold tokR; rw [wj 16 (by decide) (by decide) (by decide), wj 14 (by decide) (by decide) (by decide), wj 15 (by decide) (by decide) (by decide), w2]; exact a2
  · rw [wj 20 (by decide) (by decide) (by decide), fj 20 (by decide) (by decide) (by decide), hX]; rfl
  · rw [wj 19 (by decide) (by decide) (by decide), fj 19 (by decide) (by decide) (by decide), hX]; rfl
  · unfold RWk; rw [w2, a3.2.2.1 55 (by decide), a3.2.2.1 56 (by decide), a3.2.2.1 57 (by decide), x2]; exact hW
/-- both readers read a law's text -/
theorem law_read {T : Nat → Nat} {L : Nat} {Z : az_S × Nat} (hL : L ≤ 400) (h255 : ∀ i, T i ≤ 255) (hZ : Z.1.2 17 = 400) (hZ8 : Z.1.2 18 = 72) {M Mr : az_M} (hT : Tc T L M) (hTr : Tr T L Mr) (hW : RWk Mr) : ∃ Mc0 Mr0, (∀ a, a ≠ 15 → a ≠ 16 → Mc0.1 a = M.1 a) ∧ Mc0.2 = M.2 ∧ (∀ a, a ≠ 40 → Mr0.1 a = Mr.1 a) ∧ (∀ j, j ≠ 14 → j ≠ 15 → j ≠ 16 → j ≠ 18 → j ≠ 19 → j ≠ 20 → j ≠ 21 → j ≠ 23 → j ≠ 26 → Mr0.1 40 j = Mr.1 40 j) ∧ (∀ a, a ≠ 40 → Mr0.2.1 a = Mr.2.1 a) ∧ Mr0.2.2 = Mr.2.2 ∧ Mr0.1 40 18 = -1 ∧ RD T L 0 50 (fun C D k n x => lawOk x ∧ lawC C D k n x) lawR (f_X12_law_64 sp_G) Mc0 Mr0 (f_X5_read Z sp_G 0 M) ((f_X12_beginText sp_G 0 Mr).bind fun q2 => (f_X12_readLaw sp_G q2).bind fun q4 => f_X12_law_37 sp_G sp_G q4) := by
  obtain ⟨Mc, a1, a2, a3, a4, a5⟩ := c_start (o := 0) hL h255 hT
  obtain ⟨Mr0, b1, b2, b3, b4, b5, b6, b7⟩ := r_start (o := 0) hL h255 (by decide) hTr hW
  refine ⟨Mc, Mr0, a3, a5, b4, b5, b6, b7, b3.2, ?_⟩
  unfold f_X5_read
  rw [if_pos (Or.inl rfl), show f_X5_nextToken sp_G (az_i (az_i (az_i (az_i (az_i (az_i M 15 2 0) 16 2 0) 16 3 0) 15 5 0) 15 7 0) 15 8 0) = some Mc from a1, Option.bind_some, show f_X12_beginText sp_G 0 Mr = some Mr0 from b1, Option.bind_some]
  exact j_read (Z := Z) (clC := f_X5_readLawClause Z sp_G) (readR := f_X12_readLaw sp_G) (loopR := fun F M => f_X12_law_37 sp_G F M) hL h255 (Or.inl rfl)
    (fun C D C' D' k n n' x h hn h1 h2 => ⟨h.1, h.2.cong hn h1 h2⟩) (fun Op Ar D Op' Ar' D' k n n' x h hn h1 h2 => h.cong hn h1 h2)
    (fun i c n m k Mc Mr hk h1 h2 h3 => by
      rcases j_lawC hL h255 hZ hZ8 hk h1 h2 h3 with h | ⟨Mc', Mr', i', c', n', m', x, q1, q2, q3, q4, q5, q6, q7, q8, q9, q10, q11⟩
      · exact Or.inl h
      · exact Or.inr ⟨Mc', Mr', i', c', n', m', x, q1, q2, q3, q4, q5, q6, q7, q8, ⟨q9, q10⟩, q11⟩)
    (fun i c m Mr h1 h2 => by
      refine ⟨badM Mr i, ?_, badM_bad.1, badM_bad.2.1, badM_bad.2.2.q 50⟩
      rw [r_lawHead h1, if_pos (show (12 : Int32) ≤ Mr.1 40 21 by rw [h2]; decide), ite_self]
      unfold f_X12_readLaw_53 f_X12_readLaw_54
      rw [h1.mustBad, Option.bind_some, if_neg bad19])
    (fun F M => by
      show f_X12_law_37 sp_G (F + 1) M = _
      rw [f_X12_law_37])
    (fun F k M h1 h2 => by
      rw [f_X5_read_42, if_neg (by rw [show (12 : Int32) = nI 12 from rfl, n_le (by omega) (by omega)]; omega), if_pos (by rw [h1]; rfl)])
    Mc Mr0 12 0 sp_G sp_G Mc Mr0 (tsk T L L 0) 0 0 0 [] (by decide) (by decide) (by decide) rfl a2 b2 b3.1 (cQ.refl 0 0 Mc) (rQ.refl 50 0 0 Mr0) (fun c x h => (by cases h))
