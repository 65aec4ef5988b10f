/-! fire -/
def Out (Z : az_S × Nat) (B : Nat) (inF : Int32) (ls : Nat → sp_L) (r : Int32) (M Mr M' Mr' : az_M) : Prop :=
  ((r = -1 ∨ r = -2 ∨ r = -3) ∧ sp_cf M M' ∧ sp_fr Mr Mr') ∨ (0 ≤ r ∧ Deed Z B inF ls M' Mr' ∧ sp_dc M M' ∧ sp_dr Mr Mr')
theorem Deed.swap {Z : az_S × Nat} {B : Nat} {inF : Int32} {ls : Nat → sp_L} {M Mr X : az_M} (D : Deed Z B inF ls M Mr) (h42 : X.1 42 = Mr.1 42) (h20 : X.1 40 20 = Mr.1 40 20) (h8 : X.1 40 8 = Mr.1 40 8) (h45 : X.1 45 = Mr.1 45) (h46 : X.1 46 = Mr.1 46) : Deed Z B inF ls M X := by
  obtain ⟨c, ⟨r1, r2, r3, r4, r5⟩, p, w⟩ := D
  exact ⟨c, ⟨by rw [h42]; exact r1, by rw [h20]; exact r2, by rw [h42]; exact r3, r4, r5⟩, by rw [h8, h45, h46]; exact p, w⟩
theorem Deed.nums {Z : az_S × Nat} {B : Nat} {inF : Int32} {ls : Nat → sp_L} {M Mr : az_M} (D : Deed Z B inF ls M Mr) : ∃ l n k, l ≤ 12 ∧ n ≤ 10 ∧ k ≤ 7 ∧ M.1 2 23 = nI l ∧ Mr.1 42 0 = nI l ∧ M.1 2 24 = nI n ∧ Mr.1 42 1 = nI n ∧ M.1 2 25 = nI k ∧ Mr.1 42 2 = nI k := by
  have pr := D.ref.pr
  have rg := D.cls.rg
  obtain ⟨l, hl, _, hl2⟩ := rg.2.2.2.1.1.nat (by decide) (by decide)
  obtain ⟨n, hn, _, hn2⟩ := rg.2.2.2.1.2.1.nat (by decide) (by decide)
  obtain ⟨k, hk, _, hk2⟩ := rg.2.2.2.1.2.2.1.nat (by decide) (by decide)
  exact ⟨l, n, k, by omega, by omega, by omega, hl, pr.2.2.2.1.1.symm.trans hl, hn, pr.2.2.2.1.2.1.symm.trans hn, hk, pr.2.2.2.1.2.2.1.symm.trans hk⟩
theorem Deed.can {Z : az_S × Nat} {B : Nat} {inF : Int32} {ls : Nat → sp_L} {M Mr : az_M} (D : Deed Z B inF ls M Mr) : f_X4_canBeFired 1 M = some (sp_can (M.1 2)) ∧ f_X12_canFire Mr = some (sp_can (M.1 2)) := ⟨p_canBeFired 1 M, p_canFire' D.ref.pr⟩
theorem t_fire {Z : az_S × Nat} {B : Nat} {inF : Int32} {ls : Nat → sp_L} {M Mr : az_M} (D : Deed Z B inF ls M Mr) (hB : B + 1 ≤ 1000000000) (a1 a2 : Int32) : ∃ r M' Mr', f_X1_tryFire Z sp_G a1 a2 M = some (r, M') ∧ f_X12_fireNow sp_G a1 a2 Mr = some (r, Mr') ∧ Out Z (B + 1) inF ls r M Mr M' Mr' := by
  obtain ⟨l, n, _, hl, hn, _, l2, l42, n2, n42, _, _⟩ := D.nums
  have no : ∀ r, (r = -1 ∨ r = -2 ∨ r = -3) → ∀ M' Mr', sp_cf M M' → sp_fr Mr Mr' → f_X1_tryFire Z sp_G a1 a2 M = some (r, M') → f_X12_fireNow sp_G a1 a2 Mr = some (r, Mr') → ∃ r M' Mr', f_X1_tryFire Z sp_G a1 a2 M = some (r, M') ∧ f_X12_fireNow sp_G a1 a2 Mr = some (r, Mr') ∧ Out Z (B + 1) inF ls r M Mr M' Mr' :=
    fun r hr M' Mr' f g h1 h2 => ⟨r, M', Mr', h1, h2, Or.inl ⟨hr, f, g⟩⟩
  rcases v_cases a1 (n := n) (by omega) with ⟨k, hk, rfl⟩ | ⟨hb, hr⟩
  · rcases v_cases a2 (n := l) (by omega) with ⟨q, hq, rfl⟩ | ⟨hb, hr⟩
    · have hk' : k < 10 := by omega
      have hq' : q < 12 := by omega
      obtain ⟨c1, c2⟩ := D.can
      obtain ⟨M1, f1, g1⟩ := c_ask D.cls (h := 4) (by decide) hq' (p := nI k) (Or.inr ⟨k, hk', rfl⟩) (fun h => absurd h (by decide))
      obtain ⟨M2, f2, g2, g3⟩ := r_barred D.ref hq' hk'
      have D1 := D.asked g1 g2
      have f1' : f_X8_ask Z sp_G 1 4 (nI k) (nI q) M = _ := f1
      have hcls : f_X1_tryFire Z sp_G (nI k) (nI q) M = (if sp_can (M.1 2) = 0 then some (-3, M) else if sp_hurt (M.1 2) k = 0 then (if sp_ask (sp_law inF ls) (M.1 2) 4 (nI k) (nI q) = 0 then ((f_X3_keep 7 1 0 M1).bind fun q16 => ((f_X8_shoot Z sp_G 1 (nI k) (nI q) q16).bind fun q18 => some ((q18.1 2 0), q18))) else some (-3, M1)) else some (-3, M)) := by
        unfold f_X1_tryFire f_X1_tryFire_63
        rw [p_hasPerson1 n2 (by omega) hk, Option.bind_some, if_neg (by decide), p_hasPlace1 l2 (by omega) hq, Option.bind_some, if_neg (by decide), c1, Option.bind_some, p_isHurt hk', Option.bind_some, f1', Option.bind_some]
      have href : f_X12_fireNow sp_G (nI k) (nI q) Mr = (if sp_hurt (M.1 2) k = 0 then (if sp_ask (sp_law inF ls) (M.1 2) 4 (nI k) (nI q) = 0 then (if sp_can (M.1 2) = 0 then some (-3, M2) else ((f_X12_remember sp_G 0 M2).bind fun q16 => ((f_X12_ofPerson (nI k) 1 q16).bind fun q18 => ((f_X12_shoot sp_G q18 (nI q) q16).bind fun q20 => ((f_X12_bulletOf 0 q20).bind fun q22 => some (q22, q20)))))) else some (-3, M2)) else some (-3, Mr)) := by
        unfold f_X12_fireNow f_X12_fireNow_43
        have c3 := p_canFire' D1.ref.pr
        rw [show M1.1 2 = M.1 2 from g1.1 2 (by decide) (by decide)] at c3
        rw [p_isPerson1 n42 (by omega) hk, Option.bind_some, if_neg (by decide), p_isPlace1 l42 (by omega) hq, Option.bind_some, if_neg (by decide), r_isHurt hk' D.ref.pr, Option.bind_some, f2, Option.bind_some, c3, Option.bind_some]
      have r3 : (-3 : Int32) = -1 ∨ (-3 : Int32) = -2 ∨ (-3 : Int32) = -3 := by simp
      by_cases x1 : sp_hurt (M.1 2) k = 0
      · by_cases x2 : sp_ask (sp_law inF ls) (M.1 2) 4 (nI k) (nI q) = 0
        · by_cases x3 : sp_can (M.1 2) = 0
          · rw [if_pos x3] at hcls
            rw [if_pos x1, if_pos x2, if_pos x3] at href
            exact no _ r3 _ _ (sp_cf.refl M) g2 hcls href
          · rw [if_neg x3, if_pos x1, if_pos x2] at hcls
            rw [if_pos x1, if_pos x2, if_neg x3] at href
            obtain ⟨M3, M4, k1, k2, D2, e2, dc2, dr2, _, _⟩ := D1.keep (v := 0) (by decide)
            obtain ⟨c, hc, hc1⟩ := p_court D2.cls.rg hk'
            obtain ⟨M5, M6, s1, s2, D3, e3, dc3, fq3, _⟩ := D2.shoot hB hk' hq' hc hc1
            obtain ⟨w, hw, _, hw2⟩ := D3.cls.rg.1.1.nat (by decide) (by decide)
            refine ⟨M5.1 2 0, M5, M6, ?_, ?_, Or.inr ⟨by rw [hw]; exact nI_pos' (by omega), D3, g1.dc.trans (dc2.trans dc3), g2.fq.dr.trans (dr2.trans fq3.dr)⟩⟩
            · rw [hcls, show f_X3_keep 7 1 0 M1 = some M3 from k1, Option.bind_some, s1, Option.bind_some]
            · rw [href, show f_X12_remember sp_G 0 M2 = some M4 from k2, Option.bind_some, show f_X12_ofPerson (nI k) 1 M4 = some (M4.1 42 (65 + 3 * k + 1)) from p_ofPerson (w := 1) hk' (by decide) M4, Option.bind_some, show M4.1 42 (65 + 3 * k + 1) = nI c by rw [show 65 + 3 * k + 1 = 66 + 3 * k by omega, ← (D2.ref.pr.2.2.2.2.2.1 k hk').2.1]; exact hc, s2, Option.bind_some, show f_X12_bulletOf 0 M6 = some (M6.1 42 11) from p_bulletOf (k := 0) (by decide) M6, Option.bind_some, ← D3.ref.pr.1.1]
        · rw [if_pos x1, if_neg x2] at hcls
          rw [if_pos x1, if_neg x2] at href
          by_cases x3 : sp_can (M.1 2) = 0
          · rw [if_pos x3] at hcls
            exact no _ r3 _ _ (sp_cf.refl M) g2 hcls href
          · rw [if_neg x3] at hcls
            exact no _ r3 _ _ g1 g2 hcls href
      · rw [if_neg x1] at hcls href
        by_cases x3 : sp_can (M.1 2) = 0
        · rw [if_pos x3] at hcls
          exact no _ r3 _ _ (sp_cf.refl M) (sp_fr.refl Mr) hcls href
        · rw [if_neg x3] at hcls
          exact no _ r3 _ _ (sp_cf.refl M) (sp_fr.refl Mr) hcls href
    · refine no (-2) (by simp) M Mr (sp_cf.refl M) (sp_fr.refl Mr) ?_ ?_
      · unfold f_X1_tryFire
        rw [p_hasPerson1 n2 (by omega) hk, Option.bind_some, if_neg (by decide), p_hasPlace0 (by rw [show M.1 (1 + 1) 23 = nI l from l2]; exact hb)]
        rfl
      · unfold f_X12_fireNow
        rw [p_isPerson1 n42 (by omega) hk, Option.bind_some, if_neg (by decide), p_isPlace0 (by rw [l42]; exact hr)]
        rfl
  · refine no (-2) (by simp) M Mr (sp_cf.refl M) (sp_fr.refl Mr) ?_ ?_
    · unfold f_X1_tryFire
      rw [p_hasPerson0 (by rw [show M.1 (1 + 1) 24 = nI n from n2]; exact hb)]
      rfl
    · unfold f_X12_fireNow
      rw [p_isPerson0 (by rw [n42]; exact hr)]
      rfl
theorem ke_rf {M M' : az_M} (f : sp_fr M M') (v : Int32) (j : Nat) : sp_ke (p_rf M v j) (p_rf M' v j) := by
  have r : ∀ k, k ≠ 40 → (p_rf M' v j).1 k = (p_rf M v j).1 k := by
    intro k hk
    unfold p_rf
    by_cases h41 : k = 41
    · subst h41; rw [az_i_ro, ro_eq, az_i_ro _ 41, ro_eq, gi_k (by decide), gi_k (by decide), f.1 41 (by decide)]
    · rw [gi_k h41, gi_k hk, gi_k h41, gi_k hk, f.1 k hk]
  refine ⟨fun k h => r k (by omega), fun j _ => by rw [r 45 (by decide)], fun j _ => by rw [r 0 (by decide)], fun j _ => by rw [r 3 (by decide)], by rw [r 5 (by decide)], fun j _ => by rw [r 7 (by decide)], by rw [r 28 (by decide)], fun j _ => by rw [r 34 (by decide)], fun i h => ?_, fun k h => f.2.2.1 k (by omega) (by omega) (by omega), f.2.2.2.2⟩
  show (az_i (az_i M' 40 1 v) 41 j (M'.1 41 j + 1)).1 40 i = (az_i (az_i M 40 1 v) 41 j (M.1 41 j + 1)).1 40 i
  rw [gi_k (show 40 ≠ 41 by decide), gi_k (show 40 ≠ 41 by decide), gi, gi, if_pos rfl, if_pos rfl, f.2.1 i (by omega) (by omega)]
theorem az_Inv.refused {m : Nat} {Z : az_S × Nat} {M M' Mr : az_M} {v : Int32} {j j' : Nat} (h : az_Inv m Z M) (f : sp_cf M M') (g : sp_fr (az_i (p_rc M' v j) 40 0 0) Mr) (hj : (j = 0 ∧ j' = 1) ∨ (j = 1 ∧ j' = 2) ∨ (j = 2 ∧ j' = 3) ∨ (j = 3 ∧ j' = 5) ∨ (j = 4 ∧ j' = 6)) : az_Inv (m + 1) Z (p_rf Mr v j') :=
  ((h.ke (ke_cf f)).refuse (v := v) (j := j) (j' := j') hj).ke (ke_rf g v j')
theorem p_settleDeed1 (M : az_M) : f_X11_settleDeed (-1) M = some (-1, p_rc M (-1) 0) := by
  unfold f_X11_settleDeed; rw [if_neg (by decide), p_refuse1]; rfl
theorem p_settleDeed2 (M : az_M) : f_X11_settleDeed (-2) M = some (-2, p_rc M (-2) 1) := by
  unfold f_X11_settleDeed; rw [if_neg (by decide), p_refuse2]; rfl
theorem p_settleDeed3 (M : az_M) : f_X11_settleDeed (-3) M = some (-3, p_rc M (-3) 2) := by
  unfold f_X11_settleDeed; rw [if_neg (by decide), p_refuse3]; rfl
theorem az_Inv.deed0 {m : Nat} {Z : az_S × Nat} {M : az_M} (h : az_Inv m Z M) (hm : m < 512) : ∃ ls, Deed Z (sp_B m + 999) (M.1 3 2) ls M M := by
  obtain ⟨g1, g2, g3, ⟨ls, g4, g4b⟩, g5, g6, g7, g8, g9, g10, g11⟩ := h
  have hB : sp_B m + 999 ≤ 1000000000 := by unfold sp_B; omega
  have hle : sp_B m ≤ sp_B m + 999 := by omega
  exact ⟨ls, ⟨⟨_, g4⟩, rfl, rfl, g3.2.mono hle, hB, by decide⟩, ⟨⟨M.1, M.2.2 4, M.1 3 1, g4⟩, g11.1, g3.1, g3.2.mono hle, hB⟩, g8.mono hle, g3.2.wl⟩
/-- a call that is one deed -/
theorem az_Inv.call {m : Nat} {Z : az_S × Nat} {M : az_M} (h : az_Inv m Z M) (hm : m < 512) {fc fr : az_M → Option (Int32 × az_M)} {k : Nat} (hk : k ≤ 1000)
    (T : ∀ inF ls Mr, Deed Z (sp_B m + 999) inF ls M Mr → ∃ r M' Mr', fc M = some (r, M') ∧ fr Mr = some (r, Mr') ∧ Out Z (sp_B m + 999 + k) inF ls r M Mr M' Mr') :
    ∃ (r : Int32) (M1 M2 : az_M), ((fc M).bind fun q1 => ((f_X11_settleDeed q1.1 q1.2).bind fun q3 => some (q3.1, q3.2))) = some (r, M1) ∧ ((fr (az_i M1 40 0 0)).bind fun q1 => ((f_X12_tell q1.1 q1.2).bind fun q3 => some (q3.1, q3.2))) = some (r, M2) ∧ az_Inv (m + 1) Z M2 := by
  obtain ⟨ls, D⟩ := h.deed0 hm
  obtain ⟨r, M', Mr0, hc, _, out0⟩ := T _ ls M D
  have dc : sp_dc M M' := by
    rcases out0 with ⟨_, f, _⟩ | ⟨_, _, dc, _⟩
    · exact f.dc
    · exact dc
  have sw : ∀ X : az_M, (∀ k, k ≠ 0 → k ≠ 12 → k ≠ 34 → k ≠ 40 → X.1 k = M'.1 k) → (∀ j, j ≠ 0 → X.1 40 j = M'.1 40 j) → Deed Z (sp_B m + 999) (M.1 3 2) ls M X := by
    intro X h1 h2
    have e : ∀ k, k ≠ 2 → k ≠ 7 → k ≠ 8 → k ≠ 9 → k ≠ 14 → k ≠ 19 → k ≠ 20 → M'.1 k = M.1 k := dc.1
    exact D.swap (by rw [h1 42 (by decide) (by decide) (by decide) (by decide), e 42 (by decide) (by decide) (by decide) (by decide) (by decide) (by decide) (by decide)]) (by rw [h2 20 (by decide), e 40 (by decide) (by decide) (by decide) (by decide) (by decide) (by decide) (by decide)]) (by rw [h2 8 (by decide), e 40 (by decide) (by decide) (by decide) (by decide) (by decide) (by decide) (by decide)]) (by rw [h1 45 (by decide) (by decide) (by decide) (by decide), e 45 (by decide) (by decide) (by decide) (by decide) (by decide) (by decide) (by decide)]) (by rw [h1 46 (by decide) (by decide) (by decide) (by decide), e 46 (by decide) (by decide) (by decide) (by decide) (by decide) (by decide) (by decide)])
  have go : ∀ X, Deed Z (sp_B m + 999) (M.1 3 2) ls M X → ∃ Mr', fr X = some (r, Mr') ∧ Out Z (sp_B m + 999 + k) (M.1 3 2) ls r M X M' Mr' := by
    intro X DX
    obtain ⟨r', M'', Mr', hc', hr', out⟩ := T _ ls X DX
    have e := hc.symm.trans hc'
    injection e with e
    injection e with e1 e2
    subst e1 e2
    exact ⟨Mr', hr', out⟩
  rw [hc, Option.bind_some]
  by_cases hr : 0 ≤ r
  · obtain ⟨Mr', hr', out⟩ := go (az_i (az_i (az_i M' 0 12 0) 34 13 0) 40 0 0) (sw _ (fun k h0 h12 h34 h40 => by rw [gi_k h40, gi_k h34, gi_k h0]) (fun j hj => by rw [gi, if_pos rfl, if_neg hj, gi_k (by decide), gi_k (by decide)]))
    have out' : Deed Z (sp_B m + 999 + k) (M.1 3 2) ls M' Mr' ∧ sp_dr (az_i (az_i (az_i M' 0 12 0) 34 13 0) 40 0 0) Mr' := by
      rcases out with ⟨hr2, _⟩ | ⟨_, D', _, dr⟩
      · exfalso
        rcases hr2 with rfl | rfl | rfl
        · exact absurd hr (by decide)
        · exact absurd hr (by decide)
        · exact absurd hr (by decide)
      · exact ⟨D', dr⟩
    have hle : sp_B m + 999 + k ≤ sp_B (m + 1) := by unfold sp_B; omega
    refine ⟨r, _, _, by rw [p_settleDeed0 hr]; rfl, ?_, h.deed dc out'.2 out'.1.ref.pr (out'.1.cls.rg.mono hle) (out'.1.past.mono hle)⟩
    rw [hr', Option.bind_some, p_tell hr]; rfl
  · have neg : ∀ (v : Int32) (j j' : Nat), r = v → ¬ 0 ≤ v → ((j = 0 ∧ j' = 1) ∨ (j = 1 ∧ j' = 2) ∨ (j = 2 ∧ j' = 3) ∨ (j = 3 ∧ j' = 5) ∨ (j = 4 ∧ j' = 6)) → f_X11_settleDeed v M' = some (v, p_rc M' v j) → (∀ X, f_X12_tell v X = some (v, p_rf X v j')) → sp_cf M M' →
        ∃ (r' : Int32) (M1 M2 : az_M), ((f_X11_settleDeed r M').bind fun q3 => some (q3.1, q3.2)) = some (r', M1) ∧ ((fr (az_i M1 40 0 0)).bind fun q1 => ((f_X12_tell q1.1 q1.2).bind fun q3 => some (q3.1, q3.2))) = some (r', M2) ∧ az_Inv (m + 1) Z M2 := by
      intro v j j' hv hneg hj hs ht hcf
      obtain ⟨Mr', hr', out⟩ := go (az_i (p_rc M' v j) 40 0 0) (sw _ (fun k h0 h12 h34 h40 => by unfold p_rc; rw [gi_k h40, gi_k h12, gi_k h0]) (fun i hi => by unfold p_rc; rw [gi, if_pos rfl, if_neg hi, gi_k (by decide), gi_k (by decide)]))
      have fr' : sp_fr (az_i (p_rc M' v j) 40 0 0) Mr' := by
        rcases out with ⟨_, _, g⟩ | ⟨h0, _⟩
        · exact g
        · exact absurd (hv ▸ h0) hneg
      refine ⟨v, _, _, by rw [hv, hs]; rfl, ?_, h.refused hcf fr' hj⟩
      rw [hr', Option.bind_some, hv, ht]; rfl
    rcases out0 with ⟨hr2, f, _⟩ | ⟨h0, _⟩
    · rcases hr2 with e | e | e
      · exact neg (-1) 0 1 e (by decide) (by simp) (p_settleDeed1 M') p_tell1 f
      · exact neg (-2) 1 2 e (by decide) (by simp) (p_settleDeed2 M') p_tell2 f
      · exact neg (-3) 2 3 e (by decide) (by simp) (p_settleDeed3 M') p_tell3 f
    · exact absurd h0 hr
theorem ob_fire : Ob_fire az_Inv sp_G := by
  intro m Z M a1 a2 hm h
  exact h.call hm (fc := f_X1_tryFire Z sp_G a1 a2) (fr := f_X12_fireNow sp_G a1 a2) (k := 1) (by decide) (fun inF ls Mr D => t_fire D (by unfold sp_B; omega) a1 a2)
