/-! BOTH READERS: an order -/
theorem r_ordHead {T : Nat → Nat} {L o i c m : Nat} {M : az_M} (h : RB T L o i c m M) : f_X12_readOrder sp_G M = f_X12_readOrder_43 sp_G (wx T L i 1) M := by
  have w0 := wt_let 1 (by decide) [102, 105, 114, 101] (by decide)
  have w1 := wt_let 1 (by decide) [100, 117, 101, 108] (by decide)
  have w2 := wt_let 1 (by decide) [114, 101, 115, 116] (by decide)
  unfold f_X12_readOrder wx
  rw [show (206405 : Int64) = lN (whash [102, 105, 114, 101]) by decide, p_wordR h.1.2 w0.2.2 w0.1, Option.bind_some, show (152748 : Int64) = lN (whash [100, 117, 101, 108]) by decide, p_wordR h.1.2 w1.2.2 w1.1, Option.bind_some, show (595572 : Int64) = lN (whash [114, 101, 115, 116]) by decide, p_wordR h.1.2 w2.2.2 w2.1, Option.bind_some, show wtab 1 = [[102, 105, 114, 101], [100, 117, 101, 108], [114, 101, 115, 116]] from rfl, wIx, wIx, wIx, wIx]
  by_cases h1 : tkd T L i = 1
  · rw [if_pos h1]
    by_cases e0 : tw T L i = [102, 105, 114, 101]
    · rw [if_pos (show _ ∧ _ from ⟨h1, e0⟩), if_neg (by decide), if_pos e0]; rfl
    · rw [if_neg (show ¬ (tkd T L i = 1 ∧ tw T L i = [102, 105, 114, 101]) from fun e => e0 e.2), if_pos rfl, if_neg e0]
      by_cases e1 : tw T L i = [100, 117, 101, 108]
      · rw [if_pos (show _ ∧ _ from ⟨h1, e1⟩), if_neg (by decide), if_pos e1]; rfl
      · rw [if_neg (show ¬ (tkd T L i = 1 ∧ tw T L i = [100, 117, 101, 108]) from fun e => e1 e.2), if_pos rfl, if_neg e1]
        by_cases e2 : tw T L i = [114, 101, 115, 116]
        · rw [if_pos (show _ ∧ _ from ⟨h1, e2⟩), if_neg (by decide), if_pos e2]; rfl
        · rw [if_neg (show ¬ (tkd T L i = 1 ∧ tw T L i = [114, 101, 115, 116]) from fun e => e2 e.2), if_pos rfl, if_neg e2]
  · rw [if_neg h1, if_neg (show ¬ (tkd T L i = 1 ∧ tw T L i = [102, 105, 114, 101]) from fun e => h1 e.1), if_pos rfl, if_neg (show ¬ (tkd T L i = 1 ∧ tw T L i = [100, 117, 101, 108]) from fun e => h1 e.1), if_pos rfl, if_neg (show ¬ (tkd T L i = 1 ∧ tw T L i = [114, 101, 115, 116]) from fun e => h1 e.1), if_pos rfl]
theorem o_end {T : Nat → Nat} {L : Nat} {Z : az_S × Nat} (hL : L ≤ 400) (h255 : ∀ i, T i ≤ 255) (hZ : Z.1.2 17 = 400) (hZ8 : Z.1.2 18 = 72) {i c n m k j i0 c0 n1 n0 m1 m0 kk kk' : Nat} {Mc0 Mr0 Mc Mr : az_M} {φ1 φ2 : sp_E → Option Int32} (hk : k < 12) (hj : j ≤ 2) (hC : CSt T L 1 i c 0 n Mc) (hR : RB T L 1 i c m Mr) (f1 : cQ n0 (6 * k) Mc0 Mc) (f2 : rQ 69 m0 (8 * k) Mr0 Mr) (h21 : Mr.1 40 21 = nI (k + 1)) (hb : (i0 < i ∧ n + i0 ≤ n0 + i) ∧ (n0 ≤ n1 ∧ n1 ≤ n) ∧ (m0 ≤ m1 ∧ m1 ≤ m) ∧ c0 ≤ c) (hkk : kk ≤ 50 ∧ kk' ≤ 50)
    (dC : Mc.1 18 (6 * k) = nI j ∧ Mc.1 18 (6 * k + 2) = nI n0 ∧ Mc.1 18 (6 * k + 3) = nI n1) (dR : Mr.1 69 (8 * k) = nI j ∧ Mr.1 69 (8 * k + 1) = nI m0 ∧ Mr.1 69 (8 * k + 2) = nI m1 ∧ Mr.1 69 (8 * k + 3) = nI m1 ∧ Mr.1 69 (8 * k + 4) = nI m)
    (o1 : sok 28 φ1) (o2 : j = 2 ∨ sok 28 φ2) (s1 : cS0 28 (Mc.1 17) n0 n1 kk φ1) (s2 : cS0 28 (Mc.1 17) n1 n kk' φ2) (r1 : rSeg 1 (Mr.1 51) (Mr.1 52) m0 m1 kk φ1) (r2 : if j = 2 then m1 = m ∧ φ2 = (fun _ => some 1) else rSeg 1 (Mr.1 51) (Mr.1 52) m1 m kk' φ2) :
    JC T L 1 69 (fun C D k n x => ordOk x ∧ ordC C D k n x) ordR i0 c0 n0 m0 k Mc0 Mr0 (f_X5_readOrder_108 Z sp_G (nI k) Mc) (f_X12_readOrder_171 sp_G (nI (8 * k)) Mr) := by
  rcases o_tail hL h255 hZ hZ8 hk hC hR with ⟨Mc', j', Mr', e1, e2, e3, e4, e5, e6, e7, e8⟩ | ⟨Mc', Mr', i', c', n', m', tm, φ, e1, e2, e3, e4, e5, e6, e7, ⟨⟨b1, b2⟩, b3, b4, b5, b6⟩, ⟨t1, t2⟩, ⟨d1, d2, d3, d4⟩, ⟨g5, g6, g7⟩, s3, r3⟩
  · exact Or.inl ⟨Mc', j', Mr', e1, e2, e3, e4, f1.trans (e5.mono (by omega) (Nat.le_refl _)), e6, e7, f2.tB e8⟩
  · have hc50 := e3.2.2.2.2.1
    refine Or.inr ⟨Mc', Mr', i', c', n', m', (j, tm, φ1, φ2, φ), e1, e2, e3, e4, by rw [e5]; exact h21, f1.trans (e6.mono (by omega) (Nat.le_refl _)), f2.trans (e7.mono (by omega) (by omega)), ⟨⟨by omega, by omega⟩, by omega, by omega, by omega⟩, ⟨⟨hj, ⟨t1, t2⟩, o1, o2, b6⟩, n0, n1, n, n', kk, kk', c' - c, ⟨?_, d2, ?_, ?_, d3, d4⟩, ⟨by omega, by omega, b3, Nat.le_refl _⟩, ⟨hkk.1, hkk.2, by omega⟩, s1.cong (fun q _ hq => e6.2.2.1 q (by omega)), s2.cong (fun q _ hq => e6.2.2.1 q (by omega)), s3⟩, m0, m1, m, m', kk, kk', c' - c, ⟨?_, ?_, ?_, ?_, ?_, g5, g6, g7⟩, ⟨by omega, by omega, b4, Nat.le_refl _⟩, ⟨hkk.1, hkk.2, by omega⟩, r1.cong (fun q _ hq => e7.2.2.2.2.2.1 q (by omega)), ?_, r3⟩
    · rw [d1 _ (by omega) (by omega)]; exact dC.1
    · rw [d1 _ (by omega) (by omega)]; exact dC.2.1
    · rw [d1 _ (by omega) (by omega)]; exact dC.2.2
    · rw [e7.2.2.2.2.2.2 _ (by omega)]; exact dR.1
    · rw [e7.2.2.2.2.2.2 _ (by omega)]; exact dR.2.1
    · rw [e7.2.2.2.2.2.2 _ (by omega)]; exact dR.2.2.1
    · rw [e7.2.2.2.2.2.2 _ (by omega)]; exact dR.2.2.2.1
    · rw [e7.2.2.2.2.2.2 _ (by omega)]; exact dR.2.2.2.2
    · show (if j = 2 then m1 = m ∧ φ2 = (fun _ => some 1) else rSeg 1 (Mr'.1 51) (Mr'.1 52) m1 m kk' φ2)
      by_cases h2 : j = 2
      · rw [if_pos h2] at r2 ⊢; exact r2
      · rw [if_neg h2] at r2 ⊢; exact r2.cong (fun q _ hq => e7.2.2.2.2.2.1 q (by omega))
