/-! DEEDS once more: what was kept of old stays -/
theorem Deed.keep45 {Z : az_S × Nat} {B : Nat} {inF : Int32} {ls : Nat → sp_L} {M Mr Mr' : az_M} (D : Deed Z B inF ls M Mr) {v : Nat} (h : f_X12_remember sp_G (nI v) Mr = some Mr') : ∀ j, 2400 ≤ j → Mr'.1 45 j = Mr.1 45 j := by
  obtain ⟨e, c, he, hc, e1, e2, e3⟩ := D.past.nat
  obtain ⟨M2, d', f3, i1, i2, i3, i4, i5⟩ := p_rem e3 hc (nI v)
  rw [f3] at h
  injection h with h
  subst h
  intro j hj
  rcases i5 with ⟨a, -, -, b⟩ | ⟨a, -, -, b⟩
  · rw [b, cpy_out (by omega)]
  · rw [b, cpy_out (by omega), cpy_out (by omega)]
theorem t_fire5 {Z : az_S × Nat} {B : Nat} {inF : Int32} {ls : Nat → sp_L} {M Mr : az_M} (D : Deed Z B inF ls M Mr) (hB : B + 1 ≤ 1000000000) (a1 a2 : Int32) : ∃ r M' Mr', f_X1_tryFire Z sp_G a1 a2 M = some (r, M') ∧ f_X12_fireNow sp_G a1 a2 Mr = some (r, Mr') ∧ Out Z (B + 1) inF ls r M Mr M' Mr' ∧ ∀ j, 2400 ≤ j → Mr'.1 45 j = Mr.1 45 j := by
  obtain ⟨l, n, _, hl, hn, _, l2, l42, n2, n42, _, _⟩ := D.nums
  have no : ∀ r, (r = -1 ∨ r = -2 ∨ r = -3) → ∀ M' Mr', sp_cf M M' → sp_fr Mr Mr' → f_X1_tryFire Z sp_G a1 a2 M = some (r, M') → f_X12_fireNow sp_G a1 a2 Mr = some (r, Mr') → ∃ r M' Mr', f_X1_tryFire Z sp_G a1 a2 M = some (r, M') ∧ f_X12_fireNow sp_G a1 a2 Mr = some (r, Mr') ∧ Out Z (B + 1) inF ls r M Mr M' Mr' ∧ ∀ j, 2400 ≤ j → Mr'.1 45 j = Mr.1 45 j :=
    fun r hr M' Mr' f g h1 h2 => ⟨r, M', Mr', h1, h2, Or.inl ⟨hr, f, g⟩, fun j _ => by rw [g.1 45 (by decide)]⟩
  rcases v_cases a1 (n := n) (by omega) with ⟨k, hk, rfl⟩ | ⟨hb, hr⟩
  · rcases v_cases a2 (n := l) (by omega) with ⟨q, hq, rfl⟩ | ⟨hb, hr⟩
    · have hk' : k < 10 := by omega
      have hq' : q < 12 := by omega
      obtain ⟨c1, c2⟩ := D.can
      obtain ⟨M1, f1, g1⟩ := c_ask D.cls (h := 4) (by decide) hq' (p := nI k) (Or.inr ⟨k, hk', rfl⟩) (fun h => absurd h (by decide))
      obtain ⟨M2, f2, g2, g3⟩ := r_barred D.ref hq' hk'
      have D1 := D.asked g1 g2
      have f1' : f_X8_ask Z sp_G 1 4 (nI k) (nI q) M = _ := f1
      have hcls : f_X1_tryFire Z sp_G (nI k) (nI q) M = (if sp_can (M.1 2) = 0 then some (-3, M) else if sp_hurt (M.1 2) k = 0 then (if sp_ask (sp_law inF ls) (M.1 2) 4 (nI k) (nI q) = 0 then ((f_X3_keep 7 1 0 M1).bind fun q16 => ((f_X8_shoot Z sp_G 1 (nI k) (nI q) q16).bind fun q18 => some ((q18.1 2 0), q18))) else some (-3, M1)) else some (-3, M)) := by
        unfold f_X1_tryFire f_X1_tryFire_63
        rw [p_hasPerson1 n2 (by omega) hk, Option.bind_some, if_neg (by decide), p_hasPlace1 l2 (by omega) hq, Option.bind_some, if_neg (by decide), c1, Option.bind_some, p_isHurt hk', Option.bind_some, f1', Option.bind_some]
      have href : f_X12_fireNow sp_G (nI k) (nI q) Mr = (if sp_hurt (M.1 2) k = 0 then (if sp_ask (sp_law inF ls) (M.1 2) 4 (nI k) (nI q) = 0 then (if sp_can (M.1 2) = 0 then some (-3, M2) else ((f_X12_remember sp_G 0 M2).bind fun q16 => ((f_X12_ofPerson (nI k) 1 q16).bind fun q18 => ((f_X12_shoot sp_G q18 (nI q) q16).bind fun q20 => ((f_X12_bulletOf 0 q20).bind fun q22 => some (q22, q20)))))) else some (-3, M2)) else some (-3, Mr)) := by
        unfold f_X12_fireNow f_X12_fireNow_43
        have c3 := p_canFire' D1.ref.pr
        rw [show M1.1 2 = M.1 2 from g1.1 2 (by decide) (by decide)] at c3
        rw [p_isPerson1 n42 (by omega) hk, Option.bind_some, if_neg (by decide), p_isPlace1 l42 (by omega) hq, Option.bind_some, if_neg (by decide), r_isHurt hk' D.ref.pr, Option.bind_some, f2, Option.bind_some, c3, Option.bind_some]
      have r3 : (-3 : Int32) = -1 ∨ (-3 : Int32) = -2 ∨ (-3 : Int32) = -3 := by simp
      by_cases x1 : sp_hurt (M.1 2) k = 0
      · by_cases x2 : sp_ask (sp_law inF ls) (M.1 2) 4 (nI k) (nI q) = 0
        · by_cases x3 : sp_can (M.1 2) = 0
          · rw [if_pos x3] at hcls
            rw [if_pos x1, if_pos x2, if_pos x3] at href
            exact no _ r3 _ _ (sp_cf.refl M) g2 hcls href
          · rw [if_neg x3, if_pos x1, if_pos x2] at hcls
            rw [if_pos x1, if_pos x2, if_neg x3] at href
            obtain ⟨M3, M4, k1, k2, D2, e2, dc2, dr2, _, _⟩ := D1.keep (v := 0) (by decide)
            obtain ⟨c, hc, hc1⟩ := p_court D2.cls.rg hk'
            obtain ⟨M5, M6, s1, s2, D3, e3, dc3, fq3, _⟩ := D2.shoot hB hk' hq' hc hc1
            obtain ⟨w, hw, _, hw2⟩ := D3.cls.rg.1.1.nat (by decide) (by decide)
            refine ⟨M5.1 2 0, M5, M6, ?_, ?_, Or.inr ⟨by rw [hw]; exact nI_pos' (by omega), D3, g1.dc.trans (dc2.trans dc3), g2.fq.dr.trans (dr2.trans fq3.dr)⟩, fun j hj => by rw [fq3.1 45 (by decide) (by decide), D1.keep45 k2 j hj, g2.1 45 (by decide)]⟩
            · rw [hcls, show f_X3_keep 7 1 0 M1 = some M3 from k1, Option.bind_some, s1, Option.bind_some]
            · rw [href, show f_X12_remember sp_G 0 M2 = some M4 from k2, Option.bind_some, show f_X12_ofPerson (nI k) 1 M4 = some (M4.1 42 (65 + 3 * k + 1)) from p_ofPerson (w := 1) hk' (by decide) M4, Option.bind_some, show M4.1 42 (65 + 3 * k + 1) = nI c by rw [show 65 + 3 * k + 1 = 66 + 3 * k by omega, ← (D2.ref.pr.2.2.2.2.2.1 k hk').2.1]; exact hc, s2, Option.bind_some, show f_X12_bulletOf 0 M6 = some (M6.1 42 11) from p_bulletOf (k := 0) (by decide) M6, Option.bind_some, ← D3.ref.pr.1.1]
        · rw [if_pos x1, if_neg x2] at hcls
          rw [if_pos x1, if_neg x2] at href
          by_cases x3 : sp_can (M.1 2) = 0
          · rw [if_pos x3] at hcls
            exact no _ r3 _ _ (sp_cf.refl M) g2 hcls href
          · rw [if_neg x3] at hcls
            exact no _ r3 _ _ g1 g2 hcls href
      · rw [if_neg x1] at hcls href
        by_cases x3 : sp_can (M.1 2) = 0
        · rw [if_pos x3] at hcls
          exact no _ r3 _ _ (sp_cf.refl M) (sp_fr.refl Mr) hcls href
        · rw [if_neg x3] at hcls
          exact no _ r3 _ _ (sp_cf.refl M) (sp_fr.refl Mr) hcls href
    · refine no (-2) (by simp) M Mr (sp_cf.refl M) (sp_fr.refl Mr) ?_ ?_
      · unfold f_X1_tryFire
        rw [p_hasPerson1 n2 (by omega) hk, Option.bind_some, if_neg (by decide), p_hasPlace0 (by rw [show M.1 (1 + 1) 23 = nI l from l2]; exact hb)]
        rfl
      · unfold f_X12_fireNow
        rw [p_isPerson1 n42 (by omega) hk, Option.bind_some, if_neg (by decide), p_isPlace0 (by rw [l42]; exact hr)]
        rfl
  · refine no (-2) (by simp) M Mr (sp_cf.refl M) (sp_fr.refl Mr) ?_ ?_
    · unfold f_X1_tryFire
      rw [p_hasPerson0 (by rw [show M.1 (1 + 1) 24 = nI n from n2]; exact hb)]
      rfl
    · unfold f_X12_fireNow
      rw [p_isPerson0 (by rw [n42]; exact hr)]
      rfl
theorem t_duel5 {Z : az_S × Nat} {B : Nat} {inF : Int32} {ls : Nat → sp_L} {M Mr : az_M} (D : Deed Z B inF ls M Mr) (hB : B + 8 ≤ 1000000000) (a1 a2 : Int32) : ∃ r M' Mr', f_X1_tryDuel Z sp_G a1 a2 M = some (r, M') ∧ f_X12_duelNow sp_G a1 a2 Mr = some (r, Mr') ∧ Out Z (B + 8) inF ls r M Mr M' Mr' ∧ (r = -1 ∨ r = -2 ∨ r = -3 ∨ r = 0 ∨ r = 1 ∨ r = 2 ∨ r = 3) ∧ ∀ j, 2400 ≤ j → Mr'.1 45 j = Mr.1 45 j := by
  obtain ⟨_, _, n, _, _, hn, _, _, _, _, n2, n42⟩ := D.nums
  have no : ∀ r, (r = -1 ∨ r = -2 ∨ r = -3) → ∀ M' Mr', sp_cf M M' → sp_fr Mr Mr' → f_X1_tryDuel Z sp_G a1 a2 M = some (r, M') → f_X12_duelNow sp_G a1 a2 Mr = some (r, Mr') → ∃ r M' Mr', f_X1_tryDuel Z sp_G a1 a2 M = some (r, M') ∧ f_X12_duelNow sp_G a1 a2 Mr = some (r, Mr') ∧ Out Z (B + 8) inF ls r M Mr M' Mr' ∧ (r = -1 ∨ r = -2 ∨ r = -3 ∨ r = 0 ∨ r = 1 ∨ r = 2 ∨ r = 3) ∧ ∀ j, 2400 ≤ j → Mr'.1 45 j = Mr.1 45 j :=
    fun r hr M' Mr' f g h1 h2 => ⟨r, M', Mr', h1, h2, Or.inl ⟨hr, f, g⟩, by rcases hr with h | h | h <;> simp [h], fun j _ => by rw [g.1 45 (by decide)]⟩
  rcases r_cases a2 0 1000000 (by decide) (by decide) with ⟨s, _, hs, rfl⟩ | ⟨hb, hi⟩
  · have hcls : f_X1_tryDuel Z sp_G a1 (nI s) M = ((f_X4_hasQuarrel 1 a1 M).bind fun q3 => (if q3 = 0 then some ((-2), M) else ((f_X8_canBeHad Z sp_G 1 a1 M).bind fun q6 => (if q6.1 = 0 then some ((-3), q6.2) else ((f_X3_keep 7 1 1 q6.2).bind fun q9 => ((f_X8_hold Z sp_G 1 a1 (az_i q9 19 0 (nI s))).bind fun q11 => some (q11.1, q11.2))))))) := by
      unfold f_X1_tryDuel
      exact i_good (lo := 0) (hi := 1000000) (Nat.zero_le s) hs (by decide)
    have href : f_X12_duelNow sp_G a1 (nI s) Mr = ((f_X12_isQuarrel a1 Mr).bind fun q4 => (if q4 = 0 then some ((-2), Mr) else ((f_X12_canHave sp_G a1 Mr).bind fun q7 => (if q7.1 = 0 then some ((-3), q7.2) else ((f_X12_remember sp_G 1 q7.2).bind fun q10 => ((f_X12_have sp_G a1 (az_l q10 40 41 (nI s).toInt64)).bind fun q12 => some (q12.1, q12.2))))))) := by
      unfold f_X12_duelNow
      rw [show f_X12_in (nI s).toInt64 0 1000000 Mr = some 1 from g_in (Nat.zero_le s) hs (by decide) Mr, Option.bind_some, if_neg (by decide)]
    rcases v_cases a1 (n := n) (by omega) with ⟨q, hq, rfl⟩ | ⟨hb, hr⟩
    · have hq' : q < (M.1 2 25).toNatClampNeg := by rw [n2, n_cl (by omega)]; exact hq
      obtain ⟨M1, f1, g1⟩ := p_canBeHad D.cls hq'
      obtain ⟨M2, f2, g2⟩ := r_canHave D.ref hq'
      have D1 := D.asked g1 g2
      rw [p_hasQuarrel1 n2 (by omega) hq, Option.bind_some, if_neg (by decide), f1, Option.bind_some] at hcls
      rw [p_isQuarrel1 n42 (by omega) hq, Option.bind_some, if_neg (by decide), f2, Option.bind_some] at href
      by_cases hh : sp_had (sp_law inF ls) (M.1 2) q = 0
      · rw [if_pos hh] at hcls href
        exact no (-3) (by simp) _ _ g1 g2 hcls href
      · rw [if_neg hh] at hcls href
        obtain ⟨M3, M4, k1, k2, D2, e2, dc2, dr2, kk, k3⟩ := D1.keep (v := 1) (by decide)
        rw [show f_X3_keep 7 1 1 M1 = some M3 from k1, Option.bind_some] at hcls
        rw [show f_X12_remember sp_G 1 M2 = some M4 from k2, Option.bind_some, nI_64 (by omega)] at href
        have e12 : M3.1 2 = M.1 2 := e2.trans (g1.1 2 (by decide) (by decide))
        have P3 : Pair Z B 1 inF ls (M3.1 2) (az_i M3 19 0 (nI s)) (az_l M4 40 41 (lI s)) :=
          ⟨D2.cls.hc (by decide) ⟨fun k _ h _ _ => gi_k h, rfl⟩ (gi_k (by decide)) D2.cls.rg D2.cls.hB, D2.ref.fd (sp_fd_seed M4 (lI s)) D2.ref.pr D2.ref.rg D2.ref.hB, D2.wl⟩
        obtain ⟨r, M5, M6, N', s', a1, a2, a3, a4, a5, a6, a7, a8, a9⟩ := P3.hold (s := s) (q := q) (by decide) (by rw [e12]; exact hq') (by rw [gi, if_pos rfl, if_pos rfl]) (by rw [gl, if_pos rfl, if_pos rfl]) (by omega) hB
        rw [a1] at hcls
        rw [a2] at href
        have b5 : ∀ k, k ≠ 14 → k ≠ 19 → k ≠ 20 → k ≠ 2 → M5.1 k = M3.1 k := fun k h1 h2 h3 h4 => (a5.1 k h1 h2 h3 h4).trans (gi_k h2)
        have r5 : M5.1 2 = N' := a4.cls.row
        have fd6 := (sp_fd_seed M4 (lI s)).trans a6
        refine ⟨r, M5, M6, hcls, href, Or.inr ⟨?_, ⟨?_, ?_, ?_, ?_⟩, ?_, ?_⟩, Or.inr (Or.inr (Or.inr a3)), fun j hj => by rw [fd6.1 45 (by decide) (by decide), D1.keep45 k2 j hj, g2.1 45 (by decide)]⟩
        · rcases a3 with rfl | rfl | rfl | rfl <;> decide
        · rw [r5]; exact a4.cls
        · rw [r5]; exact a4.ref
        · rw [b5 7 (by decide) (by decide) (by decide) (by decide), b5 8 (by decide) (by decide) (by decide) (by decide), b5 9 (by decide) (by decide) (by decide) (by decide), fd6.2.1 8 (by decide) (by decide), fd6.1 46 (by decide) (by decide), fd6.1 45 (by decide) (by decide)]
          exact D2.past.mono (by omega)
        · rw [r5]; exact a4.wl
        · exact g1.dc.trans (dc2.trans ⟨fun k h2 h7 h8 h9 h14 h19 h20 => b5 k h14 h19 h20 h2, a5.2⟩)
        · exact g2.fq.dr.trans (dr2.trans fd6.dr)
    · rw [p_hasQuarrel0 (by rw [show M.1 (1 + 1) 25 = nI n from n2]; exact hb), Option.bind_some, if_pos rfl] at hcls
      rw [p_isQuarrel0 (by rw [n42]; exact hr), Option.bind_some, if_pos rfl] at href
      exact no (-2) (by simp) M Mr (sp_cf.refl M) (sp_fr.refl Mr) hcls href
  · refine no (-1) (by simp) M Mr (sp_cf.refl M) (sp_fr.refl Mr) ?_ ?_
    · unfold f_X1_tryDuel f_X1_tryDuel_10
      exact i_bad (lo := 0) (hi := 1000000) hb
    · unfold f_X12_duelNow
      rw [show f_X12_in a2.toInt64 0 1000000 Mr = some 0 from hi Mr]
      rfl
theorem t_rest5 {Z : az_S × Nat} {B : Nat} {inF : Int32} {ls : Nat → sp_L} {M Mr : az_M} (D : Deed Z B inF ls M Mr) (a1 : Int32) : ∃ r M' Mr', f_X1_tryRest a1 M = some (r, M') ∧ f_X12_restNow sp_G a1 Mr = some (r, Mr') ∧ Out Z B inF ls r M Mr M' Mr' ∧ ∀ j, 2400 ≤ j → Mr'.1 45 j = Mr.1 45 j := by
  rcases r_cases a1 1 99 (by decide) (by decide) with ⟨n, hn1, hn2, rfl⟩ | ⟨hb, hi⟩
  · obtain ⟨M1, Mr1, f1, f3, D1, n1, dc, dr, k1, m2⟩ := D.keep (v := 2) (by decide)
    obtain ⟨d, hd, _, hd2⟩ := D.cls.rg.2.1.1.nat (by decide) (by decide)
    obtain ⟨r, hr, _, hr2⟩ := D.cls.rg.1.2.2.1.nat (by decide) (by decide)
    have pr := D1.ref.pr
    rw [n1] at pr
    have hd1 : Mr1.1 42 6 = nI d := (pr.2.1 0 (by decide)).symm.trans hd
    have hr1 : Mr1.1 42 13 = nI r := pr.1.2.2.1.symm.trans hr
    have f4 := p_goDays (n := n) hd1 hr1 (by omega) (by omega) (by omega)
    have f2 : f_X1_tryRest (nI n) M = some (nI (d + min n (999 - d)), ro M1 2 (dN (M.1 2) d r n)) := by
      unfold f_X1_tryRest
      rw [show f_X3_keep 7 1 2 M = some M1 from f1, Option.bind_some, p_passDays, n1, sp_days_nat hd hr (by omega) (by omega) (by omega)]
      exact (i_good (lo := 1) (hi := 99) hn1 hn2 (by decide)).trans rfl
    have fd : sp_fd Mr1 (ro Mr1 42 (dR (Mr1.1 42) d r n)) := (sp_fd.refl Mr1).row (fun j hj => by unfold dR; rw [up_ne (by omega), up_ne (by omega)])
    have pr' := dN_pr pr D.cls.rg.q7 d r n
    have rg' := dN_rg D.cls.rg (d := d) (r := r) (by omega) (by omega) n
    refine ⟨nI (d + min n (999 - d)), _, ro Mr1 42 (dR (Mr1.1 42) d r n), f2, ?_, Or.inr ⟨nI_pos' (by omega), ⟨?_, ?_, ?_, ?_⟩, dc.trans ⟨fun k h2 _ _ _ _ _ _ => ro_ne h2, rfl⟩, dr.trans fd.dr⟩, fun j hj => by rw [ro_ne (by decide), D.keep45 f3 j hj]⟩
    · unfold f_X12_restNow
      rw [show f_X12_in (nI n).toInt64 1 99 _ = some 1 from g_in hn1 hn2 (by decide) _, Option.bind_some, if_neg (by decide), show f_X12_remember sp_G 2 Mr = some Mr1 from f3, Option.bind_some, f4, Option.bind_some]
      rw [show f_X12_term 0 (ro Mr1 42 (dR (Mr1.1 42) d r n)) = some (nI (d + min n (999 - d))) from p_term (k := 0) (by decide) _, Option.bind_some]
    · rw [ro_eq]
      exact D1.cls.to (ro_ne (by decide)) (fun k hk => ro_ne (by omega)) rfl (ro_eq _ _ _) rg' D.cls.hB (by decide)
    · rw [ro_eq]
      exact D1.ref.fd fd (by rw [ro_eq]; exact pr') rg' D.cls.hB
    · exact D1.past
    · rw [ro_eq]; exact D.wl
  · refine ⟨-1, M, Mr, ?_, ?_, Or.inl ⟨Or.inl rfl, sp_cf.refl M, sp_fr.refl Mr⟩, fun _ _ => rfl⟩
    · unfold f_X1_tryRest f_X1_tryRest_11
      exact i_bad (lo := 1) (hi := 99) hb
    · unfold f_X12_restNow
      rw [show f_X12_in a1.toInt64 1 99 Mr = some 0 from hi _]; rfl
