/-! BOTH READERS: an order's end, an order's sums -/
theorem o_tail {T : Nat → Nat} {L : Nat} {Z : az_S × Nat} (hL : L ≤ 400) (h255 : ∀ i, T i ≤ 255) (hZ : Z.1.2 17 = 400) (hZ8 : Z.1.2 18 = 72) {i c n m k : Nat} {Mc Mr : az_M} (hk : k < 12) (hC : CSt T L 1 i c 0 n Mc) (hR : RB T L 1 i c m Mr) :
    (∃ Mc' j Mr', f_X5_readOrder_108 Z sp_G (nI k) Mc = some (0, Mc') ∧ f_X12_readOrder_171 sp_G (nI (8 * k)) Mr = some Mr' ∧ Mc'.1 15 4 = nI j ∧ j ≤ 400 ∧ cQ n (6 * k) Mc Mc' ∧ (Mr'.1 40 19 = 1 ∧ Mr'.1 40 18 = nI j ∧ rQb 69 Mr Mr'))
    ∨ ∃ Mc' Mr' i' c' n' m' tm φ, f_X5_readOrder_108 Z sp_G (nI k) Mc = some (1, Mc') ∧ f_X12_readOrder_171 sp_G (nI (8 * k)) Mr = some Mr' ∧ CSt T L 1 i' c' 0 n' Mc' ∧ RB T L 1 i' c' m' Mr' ∧ Mr'.1 40 21 = Mr.1 40 21 ∧ cQ n (6 * k) Mc Mc' ∧ rQ 69 m (8 * k + 5) Mr Mr' ∧ ((i ≤ i' ∧ n' + i ≤ n + i') ∧ n ≤ n' ∧ m ≤ m' ∧ c ≤ c' ∧ is01 φ) ∧ (1 ≤ tm ∧ tm ≤ 20) ∧ ((∀ j, j < 6 * k + 4 → j ≠ 6 * k + 1 → Mc'.1 18 j = Mc.1 18 j) ∧ Mc'.1 18 (6 * k + 1) = nI tm ∧ Mc'.1 18 (6 * k + 4) = nI n ∧ Mc'.1 18 (6 * k + 5) = nI n') ∧ (Mr'.1 69 (8 * k + 5) = nI m ∧ Mr'.1 69 (8 * k + 6) = nI m' ∧ Mr'.1 69 (8 * k + 7) = nI tm) ∧ cS0 28 (Mc'.1 17) n n' (c' - c) φ ∧ rS0 1 (Mr'.1 51) (Mr'.1 52) m m' (c' - c) φ := by
  unfold f_X5_readOrder_108 f_X5_readOrder_128 f_X5_readOrder_129
  rcases o_times hL h255 hZ8 hk hC hR with ⟨Mc', j, Mr', e1, e2, e3⟩ | ⟨X, Y, i1, tm, e1, e2, e3, e4, e5, e6, e7, ⟨t1, t2, t3⟩, ⟨d1, d2, d3⟩, d4, d5⟩
  · rw [e1, Option.bind_some, if_pos rfl, if_pos (Or.inl rfl)]
    exact Or.inl ⟨Mc', j, Mr', rfl, e2, e3⟩
  · rw [e1, Option.bind_some, if_neg (show ¬ (1 : Int32) = 0 by decide), e2, p_219 hk, if_pos e4.2.1.2.1, e4.2.1.2.2.2]
    have hY := e4.w 69 (8 * k + 5) (nI m) (by decide)
    have fY : ∀ m0, rQ 69 m0 (8 * k + 5) Y (az_i Y 69 (8 * k + 5) (nI m)) := fun m0 => rQ_w m0 _ (Or.inr rfl) (by omega)
    have y5 : (az_i Y 69 (8 * k + 5) (nI m)).1 69 (8 * k + 5) = nI m := by rw [gi, if_pos rfl, if_pos rfl]
    have y7 : (az_i Y 69 (8 * k + 5) (nI m)).1 69 (8 * k + 7) = nI tm := by rw [gi, if_pos rfl, if_neg (by omega)]; exact d4
    have yk : ∀ a, a ≠ 69 → (az_i Y 69 (8 * k + 5) (nI m)).1 a = Y.1 a := fun a p => gi_k p
    generalize az_i Y 69 (8 * k + 5) (nI m) = W at hY fY y5 y7 yk
    rcases j_if hL h255 hZ hZ8 (by decide) hk e3 hY with ⟨Mc', j, Mr', q1, q2, q3, q4, q5, q6⟩ | ⟨Mc', Mr', i', c', n', m', φ, q1, q2, q3, q4, q5, q6, ⟨⟨q7, q7n⟩, q8, q9, q10, q11⟩, ⟨u4, u5⟩, s1, s2⟩
    · rw [q1, Option.bind_some, if_pos rfl, if_pos (Or.inl rfl), q2, p_257 hk]
      exact Or.inl ⟨Mc', j, _, rfl, rfl, q3, q4, e6.trans q5, by rw [gi_k (by decide)]; exact q6.1, by rw [gi_k (by decide)]; exact q6.2.1, e7.tB ((fY 0).tB ((q6.2.2.q 69).trans (rQ_w 0 0 (Or.inr rfl) (by omega)).b))⟩
    · rw [q1, Option.bind_some, if_neg (show ¬ (1 : Int32) = 0 by decide), if_pos (Or.inr rfl), q2, p_257 hk, q4.2.1.2.2.2]
      have r69 : Mr'.1 69 = W.1 69 := q6.1 69 (by decide) (by decide) (by decide) (by decide) (by decide)
      refine Or.inr ⟨Mc', _, i', c', n', m', tm, φ, rfl, rfl, q3, q4.w 69 _ _ (by decide), ?_, e6.trans (q5.mono (Nat.le_refl _) (by omega)), (e7.mono (Nat.le_refl _) (by omega)).trans ((fY m).trans ((q6.q 69 _ (Or.inr rfl)).trans (rQ_w m _ (Or.inr rfl) (by omega)))), ⟨⟨by omega, by omega⟩, q8, q9, q10, q11⟩, ⟨t2, t3⟩, ⟨fun j hj hj2 => ?_, ?_, u4, u5⟩, ⟨?_, ?_, ?_⟩, s1, by rw [gi_k (by decide), gi_k (by decide)]; exact s2⟩
      · rw [gi_k (by decide), q6.2.1 21 (by decide) (by decide) (by decide) trivial trivial (by decide) (by decide) (by decide) (by decide), yk 40 (by decide), e5]
      · rw [q5.2.2.2.1 j (by omega), d2 j hj2]
      · rw [q5.2.2.2.1 _ (by omega)]; exact d3
      · rw [gi, if_pos rfl, if_neg (by omega), r69]; exact y5
      · rw [gi, if_pos rfl, if_pos rfl]
      · rw [gi, if_pos rfl, if_neg (by omega), r69]; exact y7
theorem o_sum {T : Nat → Nat} {L : Nat} {Z : az_S × Nat} (hL : L ≤ 400) (h255 : ∀ i, T i ≤ 255) (hZ : Z.1.2 17 = 400) {i c n m p : Nat} {Mc Mr : az_M} (hp : p + 1 < 96) (hC : CSt T L 1 i c 0 n Mc) (hR : RB T L 1 i c m Mr) :
    (∃ Mc' j Mr', f_X5_readSum Z sp_G 10 Mc = some (0, Mc') ∧ f_X12_readSum sp_G (nI p) Mr = some Mr' ∧ Mc'.1 15 4 = nI j ∧ j ≤ 400 ∧ cFr n Mc Mc' ∧ (Mr'.1 40 19 = 1 ∧ Mr'.1 40 18 = nI j ∧ rQb 69 Mr Mr'))
    ∨ ∃ Mc' Mr' i' c' n' m' φ, f_X5_readSum Z sp_G 10 Mc = some (1, Mc') ∧ f_X12_readSum sp_G (nI p) Mr = some Mr' ∧ CSt T L 1 i' c' 0 n' Mc' ∧ RB T L 1 i' c' m' Mr' ∧ Mr'.1 40 21 = Mr.1 40 21 ∧ cFr n Mc Mc' ∧ rQ 69 m p Mr Mr' ∧ ((i < i' ∧ n' + i ≤ n + i') ∧ n < n' ∧ m < m' ∧ c < c' ∧ sok 28 φ) ∧ (Mr'.1 69 p = nI m ∧ Mr'.1 69 (p + 1) = nI m' ∧ ∀ j, j ≠ p → j ≠ p + 1 → Mr'.1 69 j = Mr.1 69 j) ∧ cSeg 28 (Mc'.1 17) n n' (c' - c) φ ∧ rSeg 1 (Mr'.1 51) (Mr'.1 52) m m' (c' - c) φ := by
  have hY := hR.w 69 p (nI m) (by decide)
  have fY : ∀ m0, rQ 69 m0 p Mr (az_i Mr 69 p (nI m)) := fun m0 => rQ_w m0 _ (Or.inr rfl) (by omega)
  have y0 : (az_i Mr 69 p (nI m)).1 69 p = nI m := by rw [gi, if_pos rfl, if_pos rfl]
  have yj : ∀ j, j ≠ p → (az_i Mr 69 p (nI m)).1 69 j = Mr.1 69 j := fun j hj => by rw [gi, if_pos rfl, if_neg hj]
  have yk : (az_i Mr 69 p (nI m)).1 40 = Mr.1 40 := gi_k (by decide)
  unfold f_X12_readSum f_X12_readSum_22
  rw [if_neg (nI_in (by omega) (by omega)), n_cl (by omega), hR.2.1.2.2.2, if_pos hY.2.1.2.1, show nI p + 1 = nI (p + 1) from (nI_succ p).symm]
  generalize az_i Mr 69 p (nI m) = Y at hY fY y0 yj yk
  simp only [if_neg (nI_in (show p + 1 < 96 from hp) (show 96 < 2 ^ 31 by decide))]
  rw [n_cl (by omega)]
  rcases x_sum (Z := Z) hL h255 hZ (by decide) hC hY with ⟨Mc', j, Mr', e1, e2, e3, e4, e5, e6⟩ | ⟨Mc', Mr', i', c', n', m', φ, e1, e2, e3, e4, e5, e6, ⟨⟨e7, e7n⟩, e8, e9⟩, s1, s2⟩
  · rw [e1, e2, Option.bind_some]
    exact Or.inl ⟨Mc', j, _, rfl, rfl, e3, e4, e5, by rw [gi_k (by decide)]; exact e6.1, by rw [gi_k (by decide)]; exact e6.2.1, (fY 0).tB ((e6.2.2.q 69).trans (rQ_w 0 0 (Or.inr rfl) (by omega)).b)⟩
  · rw [e1, e2, Option.bind_some, e4.2.1.2.2.2]
    have r69 : Mr'.1 69 = Y.1 69 := e6.1 69 (by decide) (by decide) (by decide) (by decide) (by decide)
    refine Or.inr ⟨Mc', _, i', c', n', m', φ, rfl, rfl, e3, e4.w 69 _ _ (by decide), ?_, e5, (fY m).trans ((e6.q 69 _ (Or.inr rfl)).trans (rQ_w m _ (Or.inr rfl) (by omega))), ⟨⟨e7, e7n⟩, s1.1, s2.1, e8, e9⟩, ⟨?_, by rw [gi, if_pos rfl, if_pos rfl], fun j p1 p2 => ?_⟩, s1, by rw [gi_k (by decide), gi_k (by decide)]; exact s2⟩
    · rw [gi_k (by decide), e6.2.1 21 (by decide) (by decide) (by decide) trivial trivial (by decide) (by decide) (by decide) (by decide), yk]
    · rw [gi, if_pos rfl, if_neg (by omega), r69]; exact y0
    · rw [gi, if_pos rfl, if_neg p2, r69, yj j p1]
/-- an order: its act, how often, its sums, its test -/
abbrev sp_O : Type := Nat × Nat × (sp_E → Option Int32) × (sp_E → Option Int32) × (sp_E → Option Int32)
def ordOk (x : sp_O) : Prop := x.1 ≤ 2 ∧ (1 ≤ x.2.1 ∧ x.2.1 ≤ 20) ∧ sok 28 x.2.2.1 ∧ (x.1 = 2 ∨ sok 28 x.2.2.2.1) ∧ is01 x.2.2.2.2
def ordC (C D : Nat → Int32) (k n' : Nat) (x : sp_O) : Prop := ∃ a0 a1 a2 a3 kk kk' kk'', (D (6 * k) = nI x.1 ∧ D (6 * k + 1) = nI x.2.1 ∧ D (6 * k + 2) = nI a0 ∧ D (6 * k + 3) = nI a1 ∧ D (6 * k + 4) = nI a2 ∧ D (6 * k + 5) = nI a3) ∧ (a0 ≤ a1 ∧ a1 ≤ a2 ∧ a2 ≤ a3 ∧ a3 ≤ n') ∧ (kk ≤ 50 ∧ kk' ≤ 50 ∧ kk'' ≤ 50) ∧ cS0 28 C a0 a1 kk x.2.2.1 ∧ cS0 28 C a1 a2 kk' x.2.2.2.1 ∧ cS0 28 C a2 a3 kk'' x.2.2.2.2
def ordR (Op Ar D : Nat → Int32) (k m' : Nat) (x : sp_O) : Prop := ∃ b0 b1 b2 b3 kk kk' kk'', (D (8 * k) = nI x.1 ∧ D (8 * k + 1) = nI b0 ∧ D (8 * k + 2) = nI b1 ∧ D (8 * k + 3) = nI b1 ∧ D (8 * k + 4) = nI b2 ∧ D (8 * k + 5) = nI b2 ∧ D (8 * k + 6) = nI b3 ∧ D (8 * k + 7) = nI x.2.1) ∧ (b0 ≤ b1 ∧ b1 ≤ b2 ∧ b2 ≤ b3 ∧ b3 ≤ m') ∧ (kk ≤ 50 ∧ kk' ≤ 50 ∧ kk'' ≤ 50) ∧ rSeg 1 Op Ar b0 b1 kk x.2.2.1 ∧ (if x.1 = 2 then b1 = b2 ∧ x.2.2.2.1 = (fun _ => some 1) else rSeg 1 Op Ar b1 b2 kk' x.2.2.2.1) ∧ rS0 1 Op Ar b2 b3 kk'' x.2.2.2.2
theorem ordC.cong {C D C' D' : Nat → Int32} {k n' n'' : Nat} {x : sp_O} (h : ordC C D k n' x) (hn : n' ≤ n'') (hC : ∀ j, j < n' → C' j = C j) (hD : ∀ j, j < 6 * (k + 1) → D' j = D j) : ordC C' D' k n'' x := by
  obtain ⟨a0, a1, a2, a3, kk, kk', kk'', ⟨d0, d1, d2, d3, d4, d5⟩, ⟨b1, b2, b3, b4⟩, hk, s1, s2, s3⟩ := h
  exact ⟨a0, a1, a2, a3, kk, kk', kk'', ⟨by rw [hD _ (by omega)]; exact d0, by rw [hD _ (by omega)]; exact d1, by rw [hD _ (by omega)]; exact d2, by rw [hD _ (by omega)]; exact d3, by rw [hD _ (by omega)]; exact d4, by rw [hD _ (by omega)]; exact d5⟩, ⟨b1, b2, b3, by omega⟩, hk, s1.cong (fun j _ hj => hC j (by omega)), s2.cong (fun j _ hj => hC j (by omega)), s3.cong (fun j _ hj => hC j (by omega))⟩
theorem ordR.cong {Op Ar D Op' Ar' D' : Nat → Int32} {k n' n'' : Nat} {x : sp_O} (h : ordR Op Ar D k n' x) (hn : n' ≤ n'') (hC : ∀ j, j < n' → Op' j = Op j ∧ Ar' j = Ar j) (hD : ∀ j, j < 8 * (k + 1) → D' j = D j) : ordR Op' Ar' D' k n'' x := by
  obtain ⟨a0, a1, a2, a3, kk, kk', kk'', ⟨d0, d1, d2, d3, d4, d5, d6, d7⟩, ⟨b1, b2, b3, b4⟩, hk, s1, s2, s3⟩ := h
  refine ⟨a0, a1, a2, a3, kk, kk', kk'', ⟨by rw [hD _ (by omega)]; exact d0, by rw [hD _ (by omega)]; exact d1, by rw [hD _ (by omega)]; exact d2, by rw [hD _ (by omega)]; exact d3, by rw [hD _ (by omega)]; exact d4, by rw [hD _ (by omega)]; exact d5, by rw [hD _ (by omega)]; exact d6, by rw [hD _ (by omega)]; exact d7⟩, ⟨b1, b2, b3, by omega⟩, hk, s1.cong (fun j _ hj => hC j (by omega)), ?_, s3.cong (fun j _ hj => hC j (by omega))⟩
  by_cases h2 : x.1 = 2
  · rw [if_pos h2] at s2 ⊢; exact s2
  · rw [if_neg h2] at s2 ⊢; exact s2.cong (fun j _ hj => hC j (by omega))
