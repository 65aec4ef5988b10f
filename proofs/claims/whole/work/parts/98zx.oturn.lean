/-! RUNNING ORDERS: one turn of both -/
def sp_oc (M M' : az_M) : Prop := (∀ k, k ≠ 2 → k ≠ 7 → k ≠ 8 → k ≠ 9 → k ≠ 14 → k ≠ 19 → k ≠ 20 → k ≠ 21 → k ≠ 27 → M'.1 k = M.1 k) ∧ M'.2 = M.2
theorem sp_oc.refl (M : az_M) : sp_oc M M := ⟨fun _ _ _ _ _ _ _ _ _ _ => rfl, rfl⟩
theorem sp_oc.trans {M M' M'' : az_M} (h : sp_oc M M') (g : sp_oc M' M'') : sp_oc M M'' := ⟨fun k a b c d e f i j l => (g.1 k a b c d e f i j l).trans (h.1 k a b c d e f i j l), g.2.trans h.2⟩
theorem sp_dc.oc {M M' : az_M} (h : sp_dc M M') : sp_oc M M' := ⟨fun k a b c d e f i _ _ => h.1 k a b c d e f i, h.2⟩
theorem sp_wf.oc {M M' : az_M} (h : sp_wf M M') : sp_oc M M' := ⟨fun k _ _ _ _ e _ _ _ l => h.1 k e l, h.2⟩
def sp_or (M M' : az_M) : Prop := (∀ k, k ≠ 40 → k ≠ 42 → k ≠ 45 → k ≠ 46 → M'.1 k = M.1 k) ∧ (∀ j, j ≠ 8 → j ≠ 34 → j ≠ 38 → j ≠ 53 → j ≠ 54 → j ≠ 56 → M'.1 40 j = M.1 40 j) ∧ (∀ k, k ≠ 40 → k ≠ 58 → k ≠ 59 → k ≠ 60 → M'.2.1 k = M.2.1 k) ∧ M'.2.2 = M.2.2 ∧ (∀ j, j = 4 ∨ j = 5 ∨ 150 ≤ j → M'.1 42 j = M.1 42 j) ∧ ∀ j, 2400 ≤ j → M'.1 45 j = M.1 45 j
theorem sp_or.refl (M : az_M) : sp_or M M := ⟨fun _ _ _ _ _ => rfl, fun _ _ _ _ _ _ _ => rfl, fun _ _ _ _ _ => rfl, rfl, fun _ _ => rfl, fun _ _ => rfl⟩
theorem sp_or.trans {M M' M'' : az_M} (h : sp_or M M') (g : sp_or M' M'') : sp_or M M'' :=
  ⟨fun k a b c d => (g.1 k a b c d).trans (h.1 k a b c d), fun j a b c d e f => (g.2.1 j a b c d e f).trans (h.2.1 j a b c d e f), fun k a b c d => (g.2.2.1 k a b c d).trans (h.2.2.1 k a b c d), g.2.2.2.1.trans h.2.2.2.1, fun j hj => (g.2.2.2.2.1 j hj).trans (h.2.2.2.2.1 j hj), fun j hj => (g.2.2.2.2.2 j hj).trans (h.2.2.2.2.2 j hj)⟩
theorem sp_dr.orr {M M' : az_M} (h : sp_dr M M') (h5 : ∀ j, 2400 ≤ j → M'.1 45 j = M.1 45 j) : sp_or M M' := ⟨h.1, fun j a b c _ _ _ => h.2.1 j a b c, fun k a b _ d => h.2.2.1 k a b d, h.2.2.2.1, h.2.2.2.2, h5⟩
theorem sp_rr.orr {M M' : az_M} (h : sp_rr M M') : sp_or M M' := ⟨fun k a _ _ _ => h.1 k a, fun j _ _ c _ _ f => h.2.1 j c f, fun k a _ c d => h.2.2.1 k a c d, h.2.2.2, fun j _ => by rw [h.1 42 (by decide)], fun j _ => by rw [h.1 45 (by decide)]⟩
theorem Deed.to {Z : az_S × Nat} {B : Nat} {inF : Int32} {ls : Nat → sp_L} {M M' Mr Mr' : az_M} (D : Deed Z B inF ls M Mr) (f : ∀ k, k = 2 ∨ k = 3 ∨ k = 7 ∨ k = 8 ∨ k = 9 ∨ 71 ≤ k → M'.1 k = M.1 k) (f2 : M'.2.2 = M.2.2) (h42 : Mr'.1 42 = Mr.1 42) (h20 : Mr'.1 40 20 = Mr.1 40 20) (h8 : Mr'.1 40 8 = Mr.1 40 8) (h45 : Mr'.1 45 = Mr.1 45) (h46 : Mr'.1 46 = Mr.1 46) : Deed Z B inF ls M' Mr' := by
  obtain ⟨c, r, p, w⟩ := D.swap h42 h20 h8 h45 h46
  have r2 : M'.1 2 = M.1 2 := f 2 (by omega)
  refine ⟨?_, ?_, ?_, ?_⟩
  · rw [r2]
    exact ClsAt.to c (f 3 (by omega)) (fun k hk => f k (by omega)) f2 r2 D.cls.rg D.cls.hB (by decide)
  · rw [r2]; exact r
  · rw [f 7 (by omega), f 8 (by omega), f 9 (by omega)]; exact p
  · rw [r2]; exact w
theorem Out.mono {Z : az_S × Nat} {B B' : Nat} {inF : Int32} {ls : Nat → sp_L} {r : Int32} {M Mr M' Mr' : az_M} (h : Out Z B inF ls r M Mr M' Mr') (hB : B ≤ B') (hB' : B' ≤ 1000000000) : Out Z B' inF ls r M Mr M' Mr' := by
  rcases h with h | ⟨a, b, c, d⟩
  · exact Or.inl h
  · exact Or.inr ⟨a, b.mono hB hB', c, d⟩
/-- orders being run: both at the same -/
def oSt (Z : az_S × Nat) (B : Nat) (inF : Int32) (ls : Nat → sp_L) (s : Nat) (w : Int32) (M Mr : az_M) : Prop := Deed Z B inF ls M Mr ∧ (M.1 21 0 = nI s ∧ Mr.1 40 53 = nI s) ∧ (M.1 21 1 = w ∧ Mr.1 40 54 = w) ∧ (-1 ≤ w.toInt ∧ w.toInt ≤ 3)
theorem o_done {Z : az_S × Nat} {B : Nat} {inF : Int32} {ls : Nat → sp_L} {r w tm xi : Int32} {Mc Mr Q3 Q M' Mr' : az_M} {k a s : Nat} {K : Int32 → Int32 → Int32 → az_M → Option (Int32 × az_M)} (hk : k < 12) (ha : a ≤ 2) (out : Out Z B inF ls r Q3 Q M' Mr') (k45 : ∀ j, 2400 ≤ j → Mr'.1 45 j = Q.1 45 j) (f : sp_wf Mc Q3) (g : sp_rr Mr Q) (h69 : Mr.1 69 (8 * k) = nI a) (hs : Mc.1 21 0 = nI s ∧ Mr.1 40 53 = nI s) (hw : Mc.1 21 1 = w ∧ Mr.1 40 54 = w) (wr : -1 ≤ w.toInt ∧ w.toInt ≤ 3) (hr : a = 1 → r.toInt ≤ 3) :
    (∃ Mc' Mr2, f_X1_runClause_162 Z sp_G 16 K (nI k) tm xi (nI a) r M' = some (0, Mc') ∧ f_X12_run_189 sp_G (nI (8 * k)) r Mr' = some (-3, Mr2) ∧ sp_oc Mc Mc' ∧ sp_or Mr Mr2) ∨ ∃ Mc' Mr2 w', f_X1_runClause_162 Z sp_G 16 K (nI k) tm xi (nI a) r M' = K (nI k) tm (xi + 1) Mc' ∧ f_X12_run_189 sp_G (nI (8 * k)) r Mr' = some (0, Mr2) ∧ oSt Z B inF ls (s + 1) w' Mc' Mr2 ∧ sp_oc Mc Mc' ∧ sp_or Mr Mr2 := by
  unfold f_X1_runClause_162 f_X12_run_189
  rcases out with ⟨hn, cf, fr⟩ | ⟨h0, D', dc, dr⟩
  · have hneg : ¬ 0 ≤ r := by rcases hn with rfl | rfl | rfl <;> decide
    rw [if_neg hneg, if_neg hneg]
    exact Or.inl ⟨M', Mr', rfl, rfl, f.oc.trans cf.dc.oc, g.orr.trans (fr.fq.dr.orr k45)⟩
  · have m21 : M'.1 21 = Mc.1 21 := by rw [dc.1 21 (by decide) (by decide) (by decide) (by decide) (by decide) (by decide) (by decide), f.1 21 (by decide) (by decide)]
    have r53 : Mr'.1 40 53 = nI s := by rw [dr.2.1 53 (by decide) (by decide) (by decide), g.2.1 53 (by decide) (by decide)]; exact hs.2
    have r54 : Mr'.1 40 54 = w := by rw [dr.2.1 54 (by decide) (by decide) (by decide), g.2.1 54 (by decide) (by decide)]; exact hw.2
    have r69 : Mr'.1 69 (8 * k) = nI a := by rw [dr.1 69 (by decide) (by decide) (by decide) (by decide), g.1 69 (by decide)]; exact h69
    have step : ∀ v, f_X1_runClause_187 Z sp_G 16 K (nI k) tm xi v M' = K (nI k) tm (xi + 1) (az_i (az_i M' 21 1 v) 21 0 (nI (s + 1))) := fun v => by
      unfold f_X1_runClause_187 f_X1_runClause_200
      rw [gi, if_pos rfl, if_neg (by decide), m21, hs.1, ← nI_succ]
    have stepR : ∀ v, f_X12_run_219 sp_G v Mr' = some (0, az_i (az_i Mr' 40 54 v) 40 53 (nI (s + 1))) := fun v => by
      unfold f_X12_run_219
      rw [gi, if_pos rfl, if_neg (by decide), r53, ← nI_succ]
    have fin : ∀ v : Int32, -1 ≤ v.toInt → v.toInt ≤ 3 → oSt Z B inF ls (s + 1) v (az_i (az_i M' 21 1 v) 21 0 (nI (s + 1))) (az_i (az_i Mr' 40 54 v) 40 53 (nI (s + 1))) ∧ sp_oc Mc (az_i (az_i M' 21 1 v) 21 0 (nI (s + 1))) ∧ sp_or Mr (az_i (az_i Mr' 40 54 v) 40 53 (nI (s + 1))) := by
      intro v v1 v2
      refine ⟨⟨D'.to (fun k hk => by rw [gi_k (by omega), gi_k (by omega)]) rfl ?_ ?_ ?_ ?_ ?_, ⟨?_, ?_⟩, ⟨?_, ?_⟩, v1, v2⟩, ?_, ?_⟩
      · rw [gi_k (by decide), gi_k (by decide)]
      · rw [gi, if_pos rfl, if_neg (by decide), gi, if_pos rfl, if_neg (by decide)]
      · rw [gi, if_pos rfl, if_neg (by decide), gi, if_pos rfl, if_neg (by decide)]
      · rw [gi_k (by decide), gi_k (by decide)]
      · rw [gi_k (by decide), gi_k (by decide)]
      · rw [gi, if_pos rfl, if_pos rfl]
      · rw [gi, if_pos rfl, if_pos rfl]
      · rw [gi, if_pos rfl, if_neg (by decide), gi, if_pos rfl, if_pos rfl]
      · rw [gi, if_pos rfl, if_neg (by decide), gi, if_pos rfl, if_pos rfl]
      · exact f.oc.trans (dc.oc.trans ⟨fun k _ _ _ _ _ _ _ h21 _ => by rw [gi_k h21, gi_k h21], rfl⟩)
      · refine g.orr.trans ((dr.orr k45).trans ⟨fun k h40 _ _ _ => by rw [gi_k h40, gi_k h40], fun j _ _ _ h53 h54 _ => by rw [gi, if_pos rfl, if_neg h53, gi, if_pos rfl, if_neg h54], fun _ _ _ _ _ => rfl, rfl, fun j _ => by rw [gi_k (by decide), gi_k (by decide)], fun j _ => by rw [gi_k (by decide), gi_k (by decide)]⟩)
    have e1 : (nI a = 1) = (a = 1) := by rw [show (1 : Int32) = nI 1 from rfl, n_eq (by omega) (by omega)]
    rw [if_pos h0, if_pos h0, if_neg (nI_in (by omega) (by decide)), n_cl (by omega), r69]
    right
    by_cases h1 : nI a = 1
    · rw [if_pos h1, if_pos h1, step, stepR]
      have hr0 : 0 ≤ r.toInt := by rw [Int32.le_iff_toInt_le] at h0; exact h0
      obtain ⟨b1, b2, b3⟩ := fin r (by omega) (hr (e1 ▸ h1))
      exact ⟨_, _, r, rfl, rfl, b1, b2, b3⟩
    · rw [if_neg h1, if_neg h1, step, stepR, m21, hw.1, r54]
      obtain ⟨b1, b2, b3⟩ := fin w wr.1 wr.2
      exact ⟨_, _, w, rfl, rfl, b1, b2, b3⟩
theorem o_turn {Z : az_S × Nat} {B : Nat} {inF : Int32} {ls : Nat → sp_L} {w tm xi : Int32} {Mc Mr : az_M} {k n m s F : Nat} {x : sp_O} (z17 : Z.1.2 17 = 400) (z18 : Z.1.2 18 = 72) (z27 : Z.1.2 27 = 28) (hk : k < 12) (hn : n ≤ 400) (hm : m ≤ 400) (hB : B + 8 ≤ 1000000000) (hs : s ≤ 240) (ok : ordOk x) (oc : ordC (Mc.1 17) (Mc.1 18) k n x) (orr : ordR (Mr.1 51) (Mr.1 52) (Mr.1 69) k m x) (h : oSt Z B inF ls s w Mc Mr) (hx : ¬ tm ≤ xi) :
    (∃ Mc' Mr', f_X1_runClause_10 Z sp_G 16 (F + 1) (nI k) tm xi Mc = some (0, Mc') ∧ f_X12_run sp_G (nI (8 * k)) Mr = some (-3, Mr') ∧ sp_oc Mc Mc' ∧ sp_or Mr Mr') ∨ ∃ Mc' Mr' s' w', f_X1_runClause_10 Z sp_G 16 (F + 1) (nI k) tm xi Mc = f_X1_runClause_10 Z sp_G 16 F (nI k) tm (xi + 1) Mc' ∧ f_X12_run sp_G (nI (8 * k)) Mr = some (0, Mr') ∧ oSt Z (B + 8) inF ls s' w' Mc' Mr' ∧ s' ≤ s + 1 ∧ sp_oc Mc Mc' ∧ sp_or Mr Mr' := by
  obtain ⟨D, hs', hw', wr⟩ := h
  obtain ⟨pl, pp, _, hl, hp, _, l2, _, p2, _, _, _⟩ := D.nums
  obtain ⟨Q1, Q3, e, he, f1, f3, hc⟩ := c_turn (F := F) z17 z18 z27 hk hn oc l2 p2 hl hp hx
  rw [hc]
  have he' : ∀ j, j < 28 → e j = ow (Mc.1 2) pl pp (Mr.1 40 53) (Mr.1 40 54) j := by rw [hs'.2, hw'.2, ← hs'.1, ← hw'.1]; exact he
  have hBc := D.cls.hB
  have hin : ∀ j, j < 28 → -1000000000 ≤ (e j).toInt ∧ (e j).toInt ≤ 1000000000 := fun j hj => by
    rw [he j hj]
    refine ow_in D.cls.rg hBc hl hp (by rw [hs'.1, n_int (by omega)]; omega) (by rw [hw'.1]; omega) (fun p hp => ?_) (fun p hp => ?_) j hj
    · have := (D.cls.rg.2.2.2.2.2.1 p hp).2.2; unfold sp_in at this ⊢; omega
    · have := (D.cls.rg.2.2.2.2.1 p hp).2.2.2; unfold sp_in at this ⊢; omega
  have nb : ∀ u : Int32, -1000000000 ≤ u.toInt ∧ u.toInt ≤ 1000000000 → ¬ sp_enc (some u) = -2147483648 := fun u hu => by
    show ¬ u = -2147483648
    intro hh
    rw [hh] at hu
    exact absurd hu.1 (by decide)
  rcases r_turn hk hm ok.2.2.2.2 orr D.ref.h20 D.ref.pr l2 p2 hl hp he' with ⟨t, Q, q1, q2⟩ | ⟨t, tn, Q, q1, q2⟩ | ⟨t, u, v, Q, hu, hv, q1, q2⟩
  · rw [if_pos t]
    refine Or.inr ⟨Q1, Q, s, w, rfl, q2, ⟨(D.to (fun k hk => f1.1 k (by omega) (by omega)) (by rw [f1.2]) (q1.1 42 (by decide)) (q1.2.1 20 (by decide) (by decide)) (q1.2.1 8 (by decide) (by decide)) (q1.1 45 (by decide)) (q1.1 46 (by decide))).mono (by omega) hB, ⟨?_, ?_⟩, ⟨?_, ?_⟩, wr⟩, by omega, f1.oc, q1.orr⟩
    · rw [f1.1 21 (by decide) (by decide)]; exact hs'.1
    · rw [q1.2.1 53 (by decide) (by decide)]; exact hs'.2
    · rw [f1.1 21 (by decide) (by decide)]; exact hw'.1
    · rw [q1.2.1 54 (by decide) (by decide)]; exact hw'.2
  · rw [if_neg t]
    refine Or.inl ⟨Q3, Q, ?_, q2, f3.oc, q1.orr⟩
    rcases tn with tn | tn
    · rw [tn, if_pos (show sp_enc none = -2147483648 from rfl)]
    · rw [tn, if_pos (show sp_enc none = -2147483648 from rfl), ite_self]
  · have hv1 : ¬ sp_enc (some v) = -2147483648 := by
      rcases ok.2.2.2.1 with h2 | h2
      · obtain ⟨b0, b1, b2, b3, kk, kk', kk'', _, _, _, _, s2, _⟩ := orr
        rw [if_pos h2] at s2
        rw [s2.2] at hv
        injection hv with hv
        rw [← hv]; decide
      · exact nb v (h2 e v hin hv)
    rw [if_neg t, hu, hv, if_neg (nb u (ok.2.2.1 e u hin hu)), if_neg hv1, q2]
    have h69 : Mr.1 69 (8 * k) = nI x.1 := by
      obtain ⟨b0, b1, b2, b3, kk, kk', kk'', d, _⟩ := orr
      exact d.1
    have DQ : Deed Z B inF ls Q3 Q := D.to (fun k hk => f3.1 k (by omega) (by omega)) (by rw [f3.2]) (q1.1 42 (by decide)) (q1.2.1 20 (by decide) (by decide)) (q1.2.1 8 (by decide) (by decide)) (q1.1 45 (by decide)) (q1.1 46 (by decide))
    unfold rDeed
    show (∃ Mc' Mr', (if nI x.1 = 0 then ((f_X1_tryFire Z sp_G u v Q3).bind fun q35 => f_X1_runClause_162 Z sp_G 16 (f_X1_runClause_10 Z sp_G 16 F) (nI k) tm xi (nI x.1) q35.1 q35.2) else if nI x.1 = 1 then ((f_X1_tryDuel Z sp_G u v Q3).bind fun q33 => f_X1_runClause_162 Z sp_G 16 (f_X1_runClause_10 Z sp_G 16 F) (nI k) tm xi (nI x.1) q33.1 q33.2) else ((f_X1_tryRest u Q3).bind fun q31 => f_X1_runClause_162 Z sp_G 16 (f_X1_runClause_10 Z sp_G 16 F) (nI k) tm xi (nI x.1) q31.1 q31.2)) = some (0, Mc') ∧ _ ∧ _ ∧ _) ∨ ∃ Mc' Mr' s' w', (if nI x.1 = 0 then ((f_X1_tryFire Z sp_G u v Q3).bind fun q35 => f_X1_runClause_162 Z sp_G 16 (f_X1_runClause_10 Z sp_G 16 F) (nI k) tm xi (nI x.1) q35.1 q35.2) else if nI x.1 = 1 then ((f_X1_tryDuel Z sp_G u v Q3).bind fun q33 => f_X1_runClause_162 Z sp_G 16 (f_X1_runClause_10 Z sp_G 16 F) (nI k) tm xi (nI x.1) q33.1 q33.2) else ((f_X1_tryRest u Q3).bind fun q31 => f_X1_runClause_162 Z sp_G 16 (f_X1_runClause_10 Z sp_G 16 F) (nI k) tm xi (nI x.1) q31.1 q31.2)) = _ ∧ _ ∧ _ ∧ _
    have e0 : (nI x.1 = 0) = (x.1 = 0) := by rw [show (0 : Int32) = nI 0 from rfl, n_eq (by have := ok.1; omega) (by omega)]
    have e1 : (nI x.1 = 1) = (x.1 = 1) := by rw [show (1 : Int32) = nI 1 from rfl, n_eq (by have := ok.1; omega) (by omega)]
    by_cases h0 : nI x.1 = 0
    · obtain ⟨r, M', Mr', d1, d2, out, k45⟩ := t_fire5 DQ (by omega) u v
      rw [if_pos h0, if_pos h0, d1, d2, Option.bind_some, Option.bind_some]
      rcases o_done (tm := tm) (xi := xi) (K := f_X1_runClause_10 Z sp_G 16 F) hk ok.1 (out.mono (by omega) hB) k45 f3 q1 h69 hs' hw' wr (fun h => absurd h (by have : x.1 = 0 := e0 ▸ h0; omega)) with h | ⟨Mc', Mr2, w', a1, a2, a3, a4⟩
      · exact Or.inl h
      · exact Or.inr ⟨Mc', Mr2, s + 1, w', a1, a2, a3, Nat.le_refl _, a4⟩
    · rw [if_neg h0, if_neg h0]
      by_cases h1 : nI x.1 = 1
      · obtain ⟨r, M', Mr', d1, d2, out, rr, k45⟩ := t_duel5 DQ hB u v
        rw [if_pos h1, if_pos h1, d1, d2, Option.bind_some, Option.bind_some]
        rcases o_done (tm := tm) (xi := xi) (K := f_X1_runClause_10 Z sp_G 16 F) hk ok.1 out k45 f3 q1 h69 hs' hw' wr (fun _ => by rcases rr with rfl | rfl | rfl | rfl | rfl | rfl | rfl <;> decide) with h | ⟨Mc', Mr2, w', a1, a2, a3, a4⟩
        · exact Or.inl h
        · exact Or.inr ⟨Mc', Mr2, s + 1, w', a1, a2, a3, Nat.le_refl _, a4⟩
      · obtain ⟨r, M', Mr', d1, d2, out, k45⟩ := t_rest5 DQ u
        rw [if_neg h1, if_neg h1, d1, d2, Option.bind_some, Option.bind_some]
        rcases o_done (tm := tm) (xi := xi) (K := f_X1_runClause_10 Z sp_G 16 F) hk ok.1 (out.mono (by omega) hB) k45 f3 q1 h69 hs' hw' wr (fun h => absurd (by rw [e1]; exact h) h1) with h | ⟨Mc', Mr2, w', a1, a2, a3, a4⟩
        · exact Or.inl h
        · exact Or.inr ⟨Mc', Mr2, s + 1, w', a1, a2, a3, Nat.le_refl _, a4⟩
