theorem j_ordC {T : Nat → Nat} {L : Nat} {Z : az_S × Nat} (hL : L ≤ 400) (h255 : ∀ i, T i ≤ 255) (hZ : Z.1.2 17 = 400) (hZ8 : Z.1.2 18 = 72) {i c n m k : Nat} {Mc Mr : az_M} (hk : k < 12) (hC : CSt T L 1 i c 0 n Mc) (hR : RB T L 1 i c m Mr) (h21 : Mr.1 40 21 = nI k) :
    JC T L 1 69 (fun C D k n x => ordOk x ∧ ordC C D k n x) ordR i c n m k Mc Mr (f_X5_readOrder Z sp_G (nI k) Mc) (f_X12_readOrder sp_G Mr) := by
  have hiL := hC.2.2.1
  unfold f_X5_readOrder
  rw [show f_X5_wordAmong sp_G 1 Mc = some (wx T L i 1) from p_wordC hL h255 hC.1.1 hC.1.2 hiL (by decide), Option.bind_some, r_ordHead hR]
  unfold f_X12_readOrder_43
  rcases wx_cases T L i 1 (by decide) with ⟨hw, -⟩ | ⟨j, hj1, hj2, -, hj4⟩
  · rw [if_pos hw, if_pos hw]
    unfold f_X12_readOrder_63 f_X12_readOrder_64
    rw [hR.mustBad, Option.bind_some, if_neg bad19]
    exact Or.inl ⟨Mc, i, _, rfl, rfl, hC.1.2.2.1, by omega, cQ.refl _ _ _, badM_bad.1, badM_bad.2.1, badM_bad.2.2.q 69⟩
  · have hj3 : j < 3 := hj1
    have tl := tnx_lt (T := T) (L := L) (i := i) (by omega)
    have nw : ¬ wx T L i 1 = -1 := by rw [hj4, n_nm1 (by omega)]; exact not_false
    rw [if_neg nw, if_neg nw, hj4, if_neg (by rw [h21, show (12 : Int32) = nI 12 from rfl, n_le (by omega) (by omega)]; omega)]
    -- the class, up to the sum
    rw [show f_X10_set Z 16 (nI k) 0 (nI j) Mc = some (az_i Mc 18 (6 * k + 0) (nI j)) from p_set hZ8 hk (j := 0) (by decide) _ _, Option.bind_some]
    have hX2 := hC.s18 (6 * k + 0) (nI j)
    have fX2 : cQ n (6 * k) Mc (az_i Mc 18 (6 * k + 0) (nI j)) := cQ_18 _ _ (by omega)
    have x0 : (az_i Mc 18 (6 * k + 0) (nI j)).1 18 (6 * k) = nI j := by rw [gi, if_pos rfl, if_pos (show 6 * k = 6 * k + 0 from rfl)]
    generalize az_i Mc 18 (6 * k + 0) (nI j) = X2 at hX2 fX2 x0
    rw [show f_X10_set Z 16 (nI k) 2 (X2.1 16 2) X2 = some (az_i X2 18 (6 * k + 2) (X2.1 16 2)) from p_set hZ8 hk (j := 2) (by decide) _ _, hX2.2.1.2.2.2, Option.bind_some]
    have hX3 := hX2.s18 (6 * k + 2) (nI n)
    have fX3 : cQ n (6 * k) Mc (az_i X2 18 (6 * k + 2) (nI n)) := fX2.trans (cQ_18 _ _ (by omega))
    have x30 : (az_i X2 18 (6 * k + 2) (nI n)).1 18 (6 * k) = nI j := by rw [gi, if_pos rfl, if_neg (by omega)]; exact x0
    have x32 : (az_i X2 18 (6 * k + 2) (nI n)).1 18 (6 * k + 2) = nI n := by rw [gi, if_pos rfl, if_pos rfl]
    generalize az_i X2 18 (6 * k + 2) (nI n) = X3 at hX3 fX3 x30 x32
    obtain ⟨Y, y1, y2, y3⟩ := hX3.next hL h255
    rw [y1, Option.bind_some]
    have fY : cQ n (6 * k) Mc Y := fX3.trans ((y3.fr n).q _)
    have y18 : Y.1 18 = X3.1 18 := y3.1 18 (by decide)
    -- the reference, up to the sum
    obtain ⟨Mr1, r1, r2, r3⟩ := hR.mustOK hL h255
    have r21 : Mr1.1 40 21 = nI k := by rw [r3.2.1 21 (by decide) (by decide) (by decide)]; exact h21
    have hA := (r2.c21 (nI (k + 1))).w 69 (8 * k) (nI j) (by decide)
    have fA : ∀ m0, rQ 69 m0 (8 * k) Mr (az_i (az_i Mr1 40 21 (nI (k + 1))) 69 (8 * k) (nI j)) := fun m0 => ((r3.fr m0).q 69 _ (Or.inr rfl)).trans ((rQ_21 m0 _ (Or.inr rfl)).trans (rQ_w m0 _ (Or.inr rfl) (by omega)))
    have a0 : (az_i (az_i Mr1 40 21 (nI (k + 1))) 69 (8 * k) (nI j)).1 69 (8 * k) = nI j := by rw [gi, if_pos rfl, if_pos rfl]
    have a21 : (az_i (az_i Mr1 40 21 (nI (k + 1))) 69 (8 * k) (nI j)).1 40 21 = nI (k + 1) := by rw [gi_k (by decide), gi, if_pos rfl, if_pos rfl]
    have ref : f_X12_readOrder_64 sp_G (nI j) 1 Mr = ((f_X12_readSum sp_G (nI (8 * k + 1)) (az_i (az_i Mr1 40 21 (nI (k + 1))) 69 (8 * k) (nI j))).bind fun q16 => if nI j = 2 then f_X12_readOrder_171 sp_G (nI (8 * k)) (az_i (az_i q16 69 (8 * k + 3) (q16.1 40 23)) 69 (8 * k + 4) (q16.1 40 23)) else (if q16.1 40 19 = 0 then (if nI j = 0 then f_X12_readOrder_158 sp_G (nI (8 * k)) 52 (az_i (az_i q16 69 (8 * k + 3) (q16.1 40 23)) 69 (8 * k + 4) (q16.1 40 23)) else f_X12_readOrder_158 sp_G (nI (8 * k)) 89 (az_i (az_i q16 69 (8 * k + 3) (q16.1 40 23)) 69 (8 * k + 4) (q16.1 40 23))) else f_X12_readOrder_164 sp_G (nI (8 * k)) (az_i (az_i q16 69 (8 * k + 3) (q16.1 40 23)) 69 (8 * k + 4) (q16.1 40 23)))) := by
      unfold f_X12_readOrder_64
      rw [r1, Option.bind_some, if_pos r2.2.1.2.1, r21, show (8 : Int32) * nI k = nI (8 * k) from n_mull 8 k, if_neg (nI_in (by omega) (by omega)), n_cl (by omega), show nI k + 1 = nI (k + 1) from (nI_succ k).symm, show nI (8 * k) + 1 = nI (8 * k + 1) from n_addr 1 _, show nI (8 * k) + 3 = nI (8 * k + 3) from n_addr 3 _, show nI (8 * k) + 4 = nI (8 * k + 4) from n_addr 4 _, n_cl (by omega), n_cl (by omega)]
      refine congrArg (fun f => (f_X12_readSum sp_G (nI (8 * k + 1)) (az_i (az_i Mr1 40 21 (nI (k + 1))) 69 (8 * k) (nI j))).bind f) (funext fun q16 => ?_)
      rw [if_neg (nIn (show 8 * k + 3 < 96 by omega) (by omega)), if_neg (nIn (show 8 * k + 4 < 96 by omega) (by omega)), gi_k (by decide), gi_k (by decide), gi_k (by decide)]
    rw [ref]
    generalize az_i (az_i Mr1 40 21 (nI (k + 1))) 69 (8 * k) (nI j) = A at hA fA a0 a21
    have e2i : (nI j = 2) = (j = 2) := by rw [show (2 : Int32) = nI 2 from rfl, n_eq (by omega) (by omega)]
    have e0i : (nI j = 0) = (j = 0) := by rw [show (0 : Int32) = nI 0 from rfl, n_eq (by omega) (by omega)]
    rcases o_sum (Z := Z) (p := 8 * k + 1) hL h255 hZ (by omega) y2 hA with ⟨Mc', j', Mr', e1, e2, e3, e4, e5, e6, e7, e8⟩ | ⟨Mc', Mr', i1, c1, n1, m1, φ1, e1, e2, e3, e4, e5, e6, e7, ⟨⟨b1, b2⟩, b3, b4, b5, b6⟩, ⟨d1, d2, d3⟩, s1, s2⟩
    · rw [e1, Option.bind_some, if_pos rfl, e2, Option.bind_some]
      have f2' : rQ 69 0 0 Mr' (az_i (az_i Mr' 69 (8 * k + 3) (Mr'.1 40 23)) 69 (8 * k + 4) (Mr'.1 40 23)) := (rQ_w 0 0 (Or.inr rfl) (by omega)).trans (rQ_w 0 0 (Or.inr rfl) (by omega))
      have h19 : (az_i (az_i Mr' 69 (8 * k + 3) (Mr'.1 40 23)) 69 (8 * k + 4) (Mr'.1 40 23)).1 40 19 = 1 := by rw [gi_k (by decide), gi_k (by decide)]; exact e6
      have h18 : (az_i (az_i Mr' 69 (8 * k + 3) (Mr'.1 40 23)) 69 (8 * k + 4) (Mr'.1 40 23)).1 40 18 = nI j' := by rw [gi_k (by decide), gi_k (by decide)]; exact e7
      rw [if_neg (show ¬ Mr'.1 40 19 = 0 by rw [e6]; decide)]
      generalize az_i (az_i Mr' 69 (8 * k + 3) (Mr'.1 40 23)) 69 (8 * k + 4) (Mr'.1 40 23) = B at f2' h19 h18
      by_cases h2 : nI j = 2
      · rw [if_pos h2]
        obtain ⟨M', u1, u2, u3, u4⟩ := bad_171 hk h19
        exact Or.inl ⟨Mc', j', M', rfl, u1, e3, e4, fY.trans (e5.q _), u2, by rw [u3]; exact h18, (fA 0).tB (e8.trans (f2'.tB u4))⟩
      · rw [if_neg h2]
        obtain ⟨M', u1, u2, u3, u4⟩ := bad_164 hk h19
        exact Or.inl ⟨Mc', j', M', rfl, u1, e3, e4, fY.trans (e5.q _), u2, by rw [u3]; exact h18, (fA 0).tB (e8.trans (f2'.tB u4))⟩
    · rw [e1, Option.bind_some, if_neg (show ¬ (1 : Int32) = 0 by decide), e2, Option.bind_some, if_pos e4.2.1.2.1, e4.2.1.2.2.2, show f_X10_set Z 16 (nI k) 3 (Mc'.1 16 2) Mc' = some (az_i Mc' 18 (6 * k + 3) (Mc'.1 16 2)) from p_set hZ8 hk (j := 3) (by decide) _ _, e3.2.1.2.2.2, Option.bind_some]
      have hc1 := e3.2.2.2.2.1
      have hi1 := e3.2.2.1
      have hV := e3.s18 (6 * k + 3) (nI n1)
      have fV : cQ n (6 * k) Mc (az_i Mc' 18 (6 * k + 3) (nI n1)) := fY.trans ((e6.q _).trans (cQ_18 _ _ (by omega)))
      have v18 : ∀ q, q ≠ 6 * k + 3 → (az_i Mc' 18 (6 * k + 3) (nI n1)).1 18 q = X3.1 18 q := fun q hq => by rw [gi, if_pos rfl, if_neg hq, e6.1 18 (by decide) (by decide) (by decide), y18]
      have v3 : (az_i Mc' 18 (6 * k + 3) (nI n1)).1 18 (6 * k + 3) = nI n1 := by rw [gi, if_pos rfl, if_pos rfl]
      have v17 : (az_i Mc' 18 (6 * k + 3) (nI n1)).1 17 = Mc'.1 17 := gi_k (by decide)
      generalize az_i Mc' 18 (6 * k + 3) (nI n1) = V at hV fV v18 v3 v17
      have hB := (e4.w 69 (8 * k + 3) (nI m1) (by decide)).w 69 (8 * k + 4) (nI m1) (by decide)
      have fB : rQ 69 m (8 * k) Mr (az_i (az_i Mr' 69 (8 * k + 3) (nI m1)) 69 (8 * k + 4) (nI m1)) := (fA m).trans ((e7.mono (Nat.le_refl _) (by omega)).trans ((rQ_w m _ (Or.inr rfl) (by omega)).trans (rQ_w m _ (Or.inr rfl) (by omega))))
      have b69 : ∀ q, q ≠ 8 * k + 3 → q ≠ 8 * k + 4 → (az_i (az_i Mr' 69 (8 * k + 3) (nI m1)) 69 (8 * k + 4) (nI m1)).1 69 q = Mr'.1 69 q := fun q p1 p2 => by rw [gi, if_pos rfl, if_neg p2, gi, if_pos rfl, if_neg p1]
      have b3' : (az_i (az_i Mr' 69 (8 * k + 3) (nI m1)) 69 (8 * k + 4) (nI m1)).1 69 (8 * k + 3) = nI m1 := by rw [gi, if_pos rfl, if_neg (by omega), gi, if_pos rfl, if_pos rfl]
      have b4' : (az_i (az_i Mr' 69 (8 * k + 3) (nI m1)) 69 (8 * k + 4) (nI m1)).1 69 (8 * k + 4) = nI m1 := by rw [gi, if_pos rfl, if_pos rfl]
      have bk : ∀ a, a ≠ 69 → (az_i (az_i Mr' 69 (8 * k + 3) (nI m1)) 69 (8 * k + 4) (nI m1)).1 a = Mr'.1 a := fun a p => by rw [gi_k p, gi_k p]
      generalize az_i (az_i Mr' 69 (8 * k + 3) (nI m1)) 69 (8 * k + 4) (nI m1) = B at hB fB b69 b3' b4' bk
      have B21 : B.1 40 21 = nI (k + 1) := by rw [bk 40 (by decide), e5]; exact a21
      have B0 : B.1 69 (8 * k) = nI j := by rw [b69 _ (by omega) (by omega), d3 _ (by omega) (by omega)]; exact a0
      have B1 : B.1 69 (8 * k + 1) = nI m := by rw [b69 _ (by omega) (by omega)]; exact d1
      have B2 : B.1 69 (8 * k + 2) = nI m1 := by rw [b69 _ (by omega) (by omega)]; exact d2
      by_cases h2 : nI j = 2
      · rw [if_pos h2, if_pos h2]
        rw [e2i] at h2
        exact o_end (j := j) (i0 := i) (c0 := c) (n1 := n1) (n0 := n) (m1 := m1) (m0 := m) (kk := c1 - c) (kk' := 0) (φ1 := φ1) (φ2 := fun _ => some 1) hL h255 hZ hZ8 hk (by omega) hV hB fV fB B21 ⟨⟨by omega, by omega⟩, ⟨by omega, Nat.le_refl _⟩, ⟨by omega, Nat.le_refl _⟩, by omega⟩ ⟨by omega, by omega⟩ ⟨by rw [v18 _ (by omega)]; exact x30, by rw [v18 _ (by omega)]; exact x32, v3⟩ ⟨B0, B1, B2, b3', b4'⟩ b6 (Or.inl h2) (Or.inr (by rw [v17]; exact s1)) (Or.inl ⟨rfl, rfl⟩) (by rw [bk 51 (by decide), bk 52 (by decide)]; exact s2) (by rw [if_pos h2]; exact ⟨rfl, rfl⟩)
      · rw [if_neg h2, if_neg h2]
        rw [e2i] at h2
        -- at, by
        have go : ∀ (a : Nat) (w : Int64) (v : List Nat), a < 11 → wtab a = [v] → w = lN (whash v) → JC T L 1 69 (fun C D k n x => ordOk x ∧ ordC C D k n x) ordR i c n m k Mc Mr (f_X5_readOrder_86 Z sp_G (nI k) a V) (f_X12_readOrder_158 sp_G (nI (8 * k)) w B) := by
          intro a w v ha hv hwv
          unfold f_X5_readOrder_86 f_X12_readOrder_158
          rw [show f_X5_wordAmong sp_G a V = some (wx T L i1 a) from p_wordC hL h255 hV.1.1 hV.1.2 hi1 ha, Option.bind_some, hwv, p_word1 ha hv hB.1.2, Option.bind_some]
          by_cases hw : wx T L i1 a = -1
          · rw [if_pos hw, if_pos hw, hB.mustBad, Option.bind_some]
            obtain ⟨M', u1, u2, u3, u4⟩ := bad_164 (M := badM B i1) hk badM_bad.1
            exact Or.inl ⟨V, i1, M', rfl, u1, hV.1.2.2.1, by omega, fV, u2, by rw [u3]; exact badM_bad.2.1, fB.tB ((badM_bad.2.2.q 69).trans u4)⟩
          · rw [if_neg hw, if_neg hw]
            have hk1 : tkd T L i1 = 1 := by
              rcases wx_cases T L i1 a ha with ⟨h, -⟩ | ⟨j, -, h, -⟩
              · exact absurd h hw
              · exact h
            have tl1 := tnx_lt (T := T) (L := L) (i := i1) (by omega)
            obtain ⟨V1, p1, p2, p3⟩ := hV.next hL h255
            obtain ⟨B', q1, q2, q3⟩ := hB.mustOK hL h255
            rw [p1, Option.bind_some, q1, Option.bind_some]
            unfold f_X12_readOrder_164
            rw [show nI (8 * k) + 3 = nI (8 * k + 3) from n_addr 3 _]
            have q69 : B'.1 69 = B.1 69 := q3.1 69 (by decide)
            have p18 : V1.1 18 = V.1 18 := p3.1 18 (by decide)
            rcases o_sum (Z := Z) (p := 8 * k + 3) hL h255 hZ (by omega) p2 q2 with ⟨Mc'', j', Mr'', g1, g2, g3, g4, g5, g6, g7, g8⟩ | ⟨Mc'', Mr'', i2, c2, n2, m2, φ2, g1, g2, g3, g4, g5, g6, g7, ⟨⟨l1, l2⟩, l3, l4, l5, l6⟩, ⟨w1, w2, w3⟩, t1, t2⟩
            · rw [g1, Option.bind_some, if_pos rfl, g2, Option.bind_some]
              obtain ⟨M', u1, u2, u3, u4⟩ := bad_171 hk g6
              exact Or.inl ⟨Mc'', j', M', rfl, u1, g3, g4, fV.trans (((p3.fr n).q _).trans ((g5.q _).mono (by omega) (Nat.le_refl _))), u2, by rw [u3]; exact g7, fB.tB (((q3.fr 0).q 69 0 (Or.inr rfl)).tB (g8.trans u4))⟩
            · rw [g1, Option.bind_some, if_neg (show ¬ (1 : Int32) = 0 by decide), g2, Option.bind_some]
              have hc2 := g3.2.2.2.2.1
              have m18 : Mc''.1 18 = V.1 18 := by rw [g6.1 18 (by decide) (by decide) (by decide), p18]
              refine o_end (j := j) (i0 := i) (c0 := c) (n1 := n1) (n0 := n) (m1 := m1) (m0 := m) (kk := c1 - c) (kk' := c2 - c1) (φ1 := φ1) (φ2 := φ2) hL h255 hZ hZ8 hk (by omega) g3 g4 (fV.trans (((p3.fr n).q _).trans ((g6.q _).mono (by omega) (Nat.le_refl _)))) (fB.trans (((q3.fr m).q 69 _ (Or.inr rfl)).trans (g7.mono (by omega) (by omega)))) ?_ ⟨⟨by omega, by omega⟩, ⟨by omega, by omega⟩, ⟨by omega, by omega⟩, by omega⟩ ⟨by omega, by omega⟩ ⟨by rw [m18, v18 _ (by omega)]; exact x30, by rw [m18, v18 _ (by omega)]; exact x32, by rw [m18]; exact v3⟩ ⟨?_, ?_, ?_, w1, w2⟩ b6 (Or.inr l6) (Or.inr (s1.cong (fun q _ hq => ?_))) (Or.inr t1) (s2.cong (fun q _ hq => ?_)) (by rw [if_neg h2]; exact t2)
              · rw [g5, q3.2.1 21 (by decide) (by decide) (by decide)]; exact B21
              · rw [w3 _ (by omega) (by omega), q69]; exact B0
              · rw [w3 _ (by omega) (by omega), q69]; exact B1
              · rw [w3 _ (by omega) (by omega), q69]; exact B2
              · rw [g6.2.2.1 q hq, p3.1 17 (by decide), v17]
              · rw [(g7.2.2.2.2.2.1 q hq).1, (g7.2.2.2.2.2.1 q hq).2, q3.1 51 (by decide), q3.1 52 (by decide), bk 51 (by decide), bk 52 (by decide)]; exact ⟨rfl, rfl⟩
        by_cases h0 : nI j = 0
        · rw [if_pos h0, if_pos h0]
          exact go 2 52 [97, 116] (by decide) rfl (by decide)
        · rw [if_neg h0, if_neg h0]
          exact go 3 89 [98, 121] (by decide) rfl (by decide)
