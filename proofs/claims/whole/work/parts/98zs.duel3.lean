/-! a duel's outcome is 0 .. 3 -/
theorem t_duel3 {Z : az_S × Nat} {B : Nat} {inF : Int32} {ls : Nat → sp_L} {M Mr : az_M} (D : Deed Z B inF ls M Mr) (hB : B + 8 ≤ 1000000000) (a1 a2 : Int32) : ∃ r M' Mr', f_X1_tryDuel Z sp_G a1 a2 M = some (r, M') ∧ f_X12_duelNow sp_G a1 a2 Mr = some (r, Mr') ∧ Out Z (B + 8) inF ls r M Mr M' Mr' ∧ (r = -1 ∨ r = -2 ∨ r = -3 ∨ r = 0 ∨ r = 1 ∨ r = 2 ∨ r = 3) := by
  obtain ⟨_, _, n, _, _, hn, _, _, _, _, n2, n42⟩ := D.nums
  have no : ∀ r, (r = -1 ∨ r = -2 ∨ r = -3) → ∀ M' Mr', sp_cf M M' → sp_fr Mr Mr' → f_X1_tryDuel Z sp_G a1 a2 M = some (r, M') → f_X12_duelNow sp_G a1 a2 Mr = some (r, Mr') → ∃ r M' Mr', f_X1_tryDuel Z sp_G a1 a2 M = some (r, M') ∧ f_X12_duelNow sp_G a1 a2 Mr = some (r, Mr') ∧ Out Z (B + 8) inF ls r M Mr M' Mr' ∧ (r = -1 ∨ r = -2 ∨ r = -3 ∨ r = 0 ∨ r = 1 ∨ r = 2 ∨ r = 3) :=
    fun r hr M' Mr' f g h1 h2 => ⟨r, M', Mr', h1, h2, Or.inl ⟨hr, f, g⟩, by rcases hr with h | h | h <;> simp [h]⟩
  rcases r_cases a2 0 1000000 (by decide) (by decide) with ⟨s, _, hs, rfl⟩ | ⟨hb, hi⟩
  · have hcls : f_X1_tryDuel Z sp_G a1 (nI s) M = ((f_X4_hasQuarrel 1 a1 M).bind fun q3 => (if q3 = 0 then some ((-2), M) else ((f_X8_canBeHad Z sp_G 1 a1 M).bind fun q6 => (if q6.1 = 0 then some ((-3), q6.2) else ((f_X3_keep 7 1 1 q6.2).bind fun q9 => ((f_X8_hold Z sp_G 1 a1 (az_i q9 19 0 (nI s))).bind fun q11 => some (q11.1, q11.2))))))) := by
      unfold f_X1_tryDuel
      exact i_good (lo := 0) (hi := 1000000) (Nat.zero_le s) hs (by decide)
    have href : f_X12_duelNow sp_G a1 (nI s) Mr = ((f_X12_isQuarrel a1 Mr).bind fun q4 => (if q4 = 0 then some ((-2), Mr) else ((f_X12_canHave sp_G a1 Mr).bind fun q7 => (if q7.1 = 0 then some ((-3), q7.2) else ((f_X12_remember sp_G 1 q7.2).bind fun q10 => ((f_X12_have sp_G a1 (az_l q10 40 41 (nI s).toInt64)).bind fun q12 => some (q12.1, q12.2))))))) := by
      unfold f_X12_duelNow
      rw [show f_X12_in (nI s).toInt64 0 1000000 Mr = some 1 from g_in (Nat.zero_le s) hs (by decide) Mr, Option.bind_some, if_neg (by decide)]
    rcases v_cases a1 (n := n) (by omega) with ⟨q, hq, rfl⟩ | ⟨hb, hr⟩
    · have hq' : q < (M.1 2 25).toNatClampNeg := by rw [n2, n_cl (by omega)]; exact hq
      obtain ⟨M1, f1, g1⟩ := p_canBeHad D.cls hq'
      obtain ⟨M2, f2, g2⟩ := r_canHave D.ref hq'
      have D1 := D.asked g1 g2
      rw [p_hasQuarrel1 n2 (by omega) hq, Option.bind_some, if_neg (by decide), f1, Option.bind_some] at hcls
      rw [p_isQuarrel1 n42 (by omega) hq, Option.bind_some, if_neg (by decide), f2, Option.bind_some] at href
      by_cases hh : sp_had (sp_law inF ls) (M.1 2) q = 0
      · rw [if_pos hh] at hcls href
        exact no (-3) (by simp) _ _ g1 g2 hcls href
      · rw [if_neg hh] at hcls href
        obtain ⟨M3, M4, k1, k2, D2, e2, dc2, dr2, kk, k3⟩ := D1.keep (v := 1) (by decide)
        rw [show f_X3_keep 7 1 1 M1 = some M3 from k1, Option.bind_some] at hcls
        rw [show f_X12_remember sp_G 1 M2 = some M4 from k2, Option.bind_some, nI_64 (by omega)] at href
        have e12 : M3.1 2 = M.1 2 := e2.trans (g1.1 2 (by decide) (by decide))
        have P3 : Pair Z B 1 inF ls (M3.1 2) (az_i M3 19 0 (nI s)) (az_l M4 40 41 (lI s)) :=
          ⟨D2.cls.hc (by decide) ⟨fun k _ h _ _ => gi_k h, rfl⟩ (gi_k (by decide)) D2.cls.rg D2.cls.hB, D2.ref.fd (sp_fd_seed M4 (lI s)) D2.ref.pr D2.ref.rg D2.ref.hB, D2.wl⟩
        obtain ⟨r, M5, M6, N', s', a1, a2, a3, a4, a5, a6, a7, a8, a9⟩ := P3.hold (s := s) (q := q) (by decide) (by rw [e12]; exact hq') (by rw [gi, if_pos rfl, if_pos rfl]) (by rw [gl, if_pos rfl, if_pos rfl]) (by omega) hB
        rw [a1] at hcls
        rw [a2] at href
        have b5 : ∀ k, k ≠ 14 → k ≠ 19 → k ≠ 20 → k ≠ 2 → M5.1 k = M3.1 k := fun k h1 h2 h3 h4 => (a5.1 k h1 h2 h3 h4).trans (gi_k h2)
        have r5 : M5.1 2 = N' := a4.cls.row
        have fd6 := (sp_fd_seed M4 (lI s)).trans a6
        refine ⟨r, M5, M6, hcls, href, Or.inr ⟨?_, ⟨?_, ?_, ?_, ?_⟩, ?_, ?_⟩, Or.inr (Or.inr (Or.inr a3))⟩
        · rcases a3 with rfl | rfl | rfl | rfl <;> decide
        · rw [r5]; exact a4.cls
        · rw [r5]; exact a4.ref
        · rw [b5 7 (by decide) (by decide) (by decide) (by decide), b5 8 (by decide) (by decide) (by decide) (by decide), b5 9 (by decide) (by decide) (by decide) (by decide), fd6.2.1 8 (by decide) (by decide), fd6.1 46 (by decide) (by decide), fd6.1 45 (by decide) (by decide)]
          exact D2.past.mono (by omega)
        · rw [r5]; exact a4.wl
        · exact g1.dc.trans (dc2.trans ⟨fun k h2 h7 h8 h9 h14 h19 h20 => b5 k h14 h19 h20 h2, a5.2⟩)
        · exact g2.fq.dr.trans (dr2.trans fd6.dr)
    · rw [p_hasQuarrel0 (by rw [show M.1 (1 + 1) 25 = nI n from n2]; exact hb), Option.bind_some, if_pos rfl] at hcls
      rw [p_isQuarrel0 (by rw [n42]; exact hr), Option.bind_some, if_pos rfl] at href
      exact no (-2) (by simp) M Mr (sp_cf.refl M) (sp_fr.refl Mr) hcls href
  · refine no (-1) (by simp) M Mr (sp_cf.refl M) (sp_fr.refl Mr) ?_ ?_
    · unfold f_X1_tryDuel f_X1_tryDuel_10
      exact i_bad (lo := 0) (hi := 1000000) hb
    · unfold f_X12_duelNow
      rw [show f_X12_in a2.toInt64 0 1000000 Mr = some 0 from hi Mr]
      rfl
