/-! RUNNING ORDERS: how often, and all of them -/
def rFail (x1 : Int32) (c : Nat) (M : az_M) : Option (Int32 × az_M) := (f_X12_giveBack sp_G x1 M).bind fun q34 => (f_X12_tell (-3) (az_i q34 40 55 (nI c))).bind fun q36 => some (q36.1, q36.2)
def cFail (c : Nat) (M : az_M) : Option (Int32 × az_M) := (f_X1_giveUp (az_i M 0 15 (nI c))).bind fun q14 => (f_X11_refuse (-3) q14).bind fun q16 => some (q16.1, q16.2)
theorem o_clause {Z : az_S × Nat} {inF x1 : Int32} {ls : Nat → sp_L} {k n m : Nat} {x : sp_O} {K : Int32 → Int32 → az_M → Option (Int32 × az_M)} (z17 : Z.1.2 17 = 400) (z18 : Z.1.2 18 = 72) (z27 : Z.1.2 27 = 28) (hk : k < 12) (hn : n ≤ 400) (hm : m ≤ 400) (ok : ordOk x) : ∀ (d i F F' B s : Nat) (w : Int32) (Mc Mr : az_M), i + d = x.2.1 → d < F → d < F' → B + 8 * d ≤ 1000000000 → s + d ≤ 240 → ordC (Mc.1 17) (Mc.1 18) k n x → ordR (Mr.1 51) (Mr.1 52) (Mr.1 69) k m x → oSt Z B inF ls s w Mc Mr →
    (∃ Mc' Mr', f_X1_runClause_10 Z sp_G 16 F (nI k) (nI x.2.1) (nI i) Mc = some (0, Mc') ∧ f_X12_orders_150 sp_G K F' x1 (nI k) (nI i) Mr = rFail x1 k Mr' ∧ sp_oc Mc Mc' ∧ sp_or Mr Mr') ∨ ∃ Mc' Mr' s' w', f_X1_runClause_10 Z sp_G 16 F (nI k) (nI x.2.1) (nI i) Mc = some (1, Mc') ∧ f_X12_orders_150 sp_G K F' x1 (nI k) (nI i) Mr = K x1 (nI (k + 1)) Mr' ∧ oSt Z (B + 8 * d) inF ls s' w' Mc' Mr' ∧ s' ≤ s + d ∧ sp_oc Mc Mc' ∧ sp_or Mr Mr' := by
  have ht := ok.2.1.2
  intro d
  induction d with
  | zero =>
    intro i F F' B s w Mc Mr hi hF hF' hB hs oc orr h
    obtain ⟨F, rfl⟩ : ∃ G, F = G + 1 := ⟨F - 1, by omega⟩
    obtain ⟨F', rfl⟩ : ∃ G, F' = G + 1 := ⟨F' - 1, by omega⟩
    have h7 : Mr.1 69 (8 * k + 7) = nI x.2.1 := by
      obtain ⟨b0, b1, b2, b3, kk, kk', kk'', d, _⟩ := orr
      exact d.2.2.2.2.2.2.2
    refine Or.inr ⟨Mc, Mr, s, w, ?_, ?_, h, by omega, sp_oc.refl _, sp_or.refl _⟩
    · rw [f_X1_runClause_10, if_pos (by rw [n_le (by omega) (by omega)]; omega)]
    · rw [f_X12_orders_150, show (8 : Int32) * nI k = nI (8 * k) from n_mull 8 k, show nI (8 * k) + 7 = nI (8 * k + 7) from n_addr 7 _, if_neg (nI_in (by omega) (by decide)), n_cl (by omega), h7, if_pos (by rw [n_le (by omega) (by omega)]; omega), show nI k + 1 = nI (k + 1) from (nI_succ k).symm]
  | succ d ih =>
    intro i F F' B s w Mc Mr hi hF hF' hB hs oc orr h
    obtain ⟨F, rfl⟩ : ∃ G, F = G + 1 := ⟨F - 1, by omega⟩
    obtain ⟨F', rfl⟩ : ∃ G, F' = G + 1 := ⟨F' - 1, by omega⟩
    have h7 : Mr.1 69 (8 * k + 7) = nI x.2.1 := by
      obtain ⟨b0, b1, b2, b3, kk, kk', kk'', d, _⟩ := orr
      exact d.2.2.2.2.2.2.2
    have hno : ¬ nI x.2.1 ≤ nI i := by rw [n_le (by omega) (by omega)]; omega
    have href : f_X12_orders_150 sp_G K (F' + 1) x1 (nI k) (nI i) Mr = ((f_X12_run sp_G (nI (8 * k)) Mr).bind fun q31 => (if 0 ≤ q31.1 then f_X12_orders_150 sp_G K F' x1 (nI k) (nI (i + 1)) q31.2 else rFail x1 k q31.2)) := by
      rw [f_X12_orders_150, show (8 : Int32) * nI k = nI (8 * k) from n_mull 8 k, show nI (8 * k) + 7 = nI (8 * k + 7) from n_addr 7 _, if_neg (nI_in (by omega) (by decide)), n_cl (by omega), h7, if_neg hno, show nI i + 1 = nI (i + 1) from (nI_succ i).symm]
      rfl
    rcases o_turn (F := F) z17 z18 z27 hk hn hm (by omega) (by omega) ok oc orr h hno with ⟨Mc', Mr', a1, a2, a3, a4⟩ | ⟨Mc', Mr', s', w', a1, a2, a3, a4, a5, a6⟩
    · refine Or.inl ⟨Mc', Mr', a1, ?_, a3, a4⟩
      rw [href, a2, Option.bind_some, if_neg (show ¬ (0 : Int32) ≤ -3 by decide)]
    · rw [a1, show nI i + 1 = nI (i + 1) from (nI_succ i).symm, href, a2, Option.bind_some, if_pos (show (0 : Int32) ≤ 0 by decide)]
      rcases ih (i + 1) F F' (B + 8) s' w' Mc' Mr' (by omega) (by omega) (by omega) (by omega) (by omega) (by rw [a5.1 17 (by decide) (by decide) (by decide) (by decide) (by decide) (by decide) (by decide) (by decide) (by decide), a5.1 18 (by decide) (by decide) (by decide) (by decide) (by decide) (by decide) (by decide) (by decide) (by decide)]; exact oc) (by rw [a6.1 51 (by decide) (by decide) (by decide) (by decide), a6.1 52 (by decide) (by decide) (by decide) (by decide), a6.1 69 (by decide) (by decide) (by decide) (by decide)]; exact orr) a3 with ⟨Mc'', Mr'', b1, b2, b3, b4⟩ | ⟨Mc'', Mr'', s'', w'', b1, b2, b3, b4, b5, b6⟩
      · exact Or.inl ⟨Mc'', Mr'', b1, b2, a5.trans b3, a6.trans b4⟩
      · exact Or.inr ⟨Mc'', Mr'', s'', w'', b1, b2, by rw [show B + 8 * (d + 1) = B + 8 + 8 * d by omega]; exact b3, by omega, a5.trans b5, a6.trans b6⟩
theorem o_all {Z : az_S × Nat} {inF x1 : Int32} {ls : Nat → sp_L} {n m : Nat} {l : List sp_O} (z17 : Z.1.2 17 = 400) (z18 : Z.1.2 18 = 72) (z27 : Z.1.2 27 = 28) (hn : n ≤ 400) (hm : m ≤ 400) (hl : l.length ≤ 12) : ∀ (d k F F' B s : Nat) (w : Int32) (Mc Mr : az_M), k + d = l.length → d < F → d < F' → B + 160 * d ≤ 1000000000 → s + 20 * d ≤ 240 → (∀ (c : Nat) (x : sp_O), l[c]? = some x → (ordOk x ∧ ordC (Mc.1 17) (Mc.1 18) c n x) ∧ ordR (Mr.1 51) (Mr.1 52) (Mr.1 69) c m x) → Mc.1 16 3 = nI l.length → Mr.1 40 21 = nI l.length → oSt Z B inF ls s w Mc Mr →
    (∃ c Mc' Mr', c < 12 ∧ f_X11_orders_49 Z sp_G F (nI k) Mc = cFail c Mc' ∧ f_X12_orders_140 sp_G F' x1 (nI k) Mr = rFail x1 c Mr' ∧ sp_oc Mc Mc' ∧ sp_or Mr Mr') ∨ ∃ Mc' Mr' s' w', f_X11_orders_49 Z sp_G F (nI k) Mc = some (nI s', az_i (az_i Mc' 0 12 0) 34 13 0) ∧ f_X12_orders_140 sp_G F' x1 (nI k) Mr = some (nI s', az_i Mr' 40 1 0) ∧ oSt Z (B + 160 * d) inF ls s' w' Mc' Mr' ∧ s' ≤ s + 20 * d ∧ sp_oc Mc Mc' ∧ sp_or Mr Mr' := by
  intro d
  induction d with
  | zero =>
    intro k F F' B s w Mc Mr hi hF hF' hB hs hc h16 h21 h
    obtain ⟨F, rfl⟩ : ∃ G, F = G + 1 := ⟨F - 1, by omega⟩
    obtain ⟨F', rfl⟩ : ∃ G, F' = G + 1 := ⟨F' - 1, by omega⟩
    refine Or.inr ⟨Mc, Mr, s, w, ?_, ?_, h, by omega, sp_oc.refl _, sp_or.refl _⟩
    · rw [f_X11_orders_49, h16, if_pos (by rw [n_le (by omega) (by omega)]; omega), p_settle, Option.bind_some, h.2.1.1]
    · rw [f_X12_orders_140, h21, if_pos (by rw [n_le (by omega) (by omega)]; omega), h.2.1.2, p_tell (nI_pos' (by omega)), Option.bind_some]
  | succ d ih =>
    intro k F F' B s w Mc Mr hi hF hF' hB hs hc h16 h21 h
    obtain ⟨F, rfl⟩ : ∃ G, F = G + 1 := ⟨F - 1, by omega⟩
    obtain ⟨F', rfl⟩ : ∃ G, F' = G + 1 := ⟨F' - 1, by omega⟩
    have hk : k < l.length := by omega
    obtain ⟨⟨ok, oc⟩, orr⟩ := hc k l[k] (List.getElem?_eq_getElem hk)
    obtain ⟨x, hx⟩ : ∃ x, x = l[k] := ⟨_, rfl⟩
    rw [← hx] at ok oc orr
    have ht := ok.2.1
    have d1 : Mc.1 18 (6 * k + 1) = nI x.2.1 := by
      obtain ⟨a0, a1, a2, a3, kk, kk', kk'', d, _⟩ := oc
      exact d.2.1
    have hcls : f_X11_orders_49 Z sp_G (F + 1) (nI k) Mc = ((f_X1_runClause_10 Z sp_G 16 sp_G (nI k) (nI x.2.1) (nI 0) Mc).bind fun q11 => (if q11.1 = 0 then cFail k q11.2 else f_X11_orders_49 Z sp_G F (nI (k + 1)) q11.2)) := by
      rw [f_X11_orders_49, h16, if_neg (by rw [n_le (by omega) (by omega)]; omega), show nI k + 1 = nI (k + 1) from (nI_succ k).symm]
      unfold f_X1_runClause
      rw [show f_X10_get Z 16 (nI k) 1 Mc = some (Mc.1 18 (6 * k + 1)) from p_get16 (j := 1) z18 (by omega) (by decide) Mc, Option.bind_some, d1]
      rfl
    have href : f_X12_orders_140 sp_G (F' + 1) x1 (nI k) Mr = f_X12_orders_150 sp_G (f_X12_orders_140 sp_G F') sp_G x1 (nI k) (nI 0) Mr := by
      rw [f_X12_orders_140, h21, if_neg (by rw [n_le (by omega) (by omega)]; omega)]
      rfl
    rw [hcls, href]
    rcases o_clause (K := f_X12_orders_140 sp_G F') (x1 := x1) z17 z18 z27 (by omega) hn hm ok x.2.1 0 sp_G sp_G B s w Mc Mr (by omega) (by unfold sp_G; omega) (by unfold sp_G; omega) (by omega) (by omega) oc orr h with ⟨Mc', Mr', a1, a2, a3, a4⟩ | ⟨Mc', Mr', s', w', a1, a2, a3, a4, a5, a6⟩
    · rw [a1, a2, Option.bind_some, if_pos rfl]
      exact Or.inl ⟨k, Mc', Mr', by omega, rfl, rfl, a3, a4⟩
    · rw [a1, a2, Option.bind_some, if_neg (show ¬ (1 : Int32) = 0 by decide)]
      have e17 : Mc'.1 17 = Mc.1 17 := a5.1 17 (by decide) (by decide) (by decide) (by decide) (by decide) (by decide) (by decide) (by decide) (by decide)
      have e18 : Mc'.1 18 = Mc.1 18 := a5.1 18 (by decide) (by decide) (by decide) (by decide) (by decide) (by decide) (by decide) (by decide) (by decide)
      have e16 : Mc'.1 16 = Mc.1 16 := a5.1 16 (by decide) (by decide) (by decide) (by decide) (by decide) (by decide) (by decide) (by decide) (by decide)
      have st : oSt Z (B + 160) inF ls s' w' Mc' Mr' := ⟨a3.1.mono (by omega) (by omega), a3.2⟩
      rcases ih (k + 1) F F' (B + 160) s' w' Mc' Mr' (by omega) (by omega) (by omega) (by omega) (by omega) (by rw [e17, e18, a6.1 51 (by decide) (by decide) (by decide) (by decide), a6.1 52 (by decide) (by decide) (by decide) (by decide), a6.1 69 (by decide) (by decide) (by decide) (by decide)]; exact hc) (by rw [e16]; exact h16) (by rw [a6.2.1 21 (by decide) (by decide) (by decide) (by decide) (by decide) (by decide)]; exact h21) st with ⟨c, Mc'', Mr'', b0, b1, b2, b3, b4⟩ | ⟨Mc'', Mr'', s'', w'', b1, b2, b3, b4, b5, b6⟩
      · exact Or.inl ⟨c, Mc'', Mr'', b0, b1, b2, a5.trans b3, a6.trans b4⟩
      · exact Or.inr ⟨Mc'', Mr'', s'', w'', b1, b2, by rw [show B + 160 * (d + 1) = B + 160 + 160 * d by omega]; exact b3, by omega, a5.trans b5, a6.trans b6⟩
