/-! RUNNING ORDERS: the reference, up to the deed -/
def sp_rr (M M' : az_M) : Prop := (∀ k, k ≠ 40 → M'.1 k = M.1 k) ∧ (∀ j, j ≠ 38 → j ≠ 56 → M'.1 40 j = M.1 40 j) ∧ (∀ k, k ≠ 40 → k ≠ 59 → k ≠ 60 → M'.2.1 k = M.2.1 k) ∧ M'.2.2 = M.2.2
theorem sp_rr.trans {M M' M'' : az_M} (h : sp_rr M M') (g : sp_rr M' M'') : sp_rr M M'' := ⟨fun k a => (g.1 k a).trans (h.1 k a), fun j a b => (g.2.1 j a b).trans (h.2.1 j a b), fun k a b c => (g.2.2.1 k a b c).trans (h.2.2.1 k a b c), g.2.2.2.trans h.2.2.2⟩
theorem sp_rs.rr {M M' : az_M} (h : sp_rs M M') : sp_rr M M' := ⟨h.1, fun j a b => by
  by_cases hj : j = 20
  · rw [hj]; exact h.2.2.1
  · exact h.2.1 j hj a b, fun k a _ c => h.2.2.2.1 k a c, h.2.2.2.2.2⟩
theorem rr_w6 (M : az_M) (a b c d e f : Int32) : sp_rr M (rw6 M a b c d e f) := by
  unfold rw6
  refine ⟨fun k hk => gi_k hk, fun j _ h56 => ?_, fun k _ h59 _ => ?_, rfl⟩
  · rw [gi, if_pos rfl, if_neg h56]; rfl
  · show (az_l (az_l (az_l (az_l (az_l (az_l M 59 1 a.toInt64) 59 2 b.toInt64) 59 3 c.toInt64) 59 4 d.toInt64) 59 5 e.toInt64) 59 6 f.toInt64).2.1 k = _
    rw [gl_k h59, gl_k h59, gl_k h59, gl_k h59, gl_k h59, gl_k h59]
theorem rEnv_ext {e e' : sp_E} {M : az_M} (he : ∀ j, j < 28 → e j = e' j) (h : rEnv 1 e' M) : rEnv 1 e M := by
  rcases h with ⟨h, _⟩ | ⟨_, h1, ⟨n, a1, a2, a3⟩, n', b1, b2, b3⟩
  · exact absurd h (by decide)
  · exact Or.inr ⟨rfl, fun j hj => by rw [h1 j hj, he j (by omega)], ⟨n, a1, a2, fun p hp => by rw [he _ (by omega)]; exact a3 p hp⟩, n', b1, b2, fun p hp => by rw [he _ (by omega)]; exact b3 p hp⟩
theorem rEnv_rs {e : sp_E} {M M' : az_M} (he : rEnv 1 e M) (h : sp_rs M M') : rEnv 1 e M' := by
  unfold rEnv at he ⊢
  rw [h.1 42 (by decide), h.2.2.2.1 59 (by decide) (by decide), h.2.2.2.1 58 (by decide) (by decide)]
  exact he
theorem r_sumBad {p : Int32} {M : az_M} (h : M.1 40 56 = 1) : f_X12_sumOf sp_G p M = some (0, M) := by
  unfold f_X12_sumOf f_X12_sumOf_24
  rw [if_neg (by rw [h]; decide)]
theorem r_sumNone {p b : Nat} {M : az_M} (hp : p + 1 < 96) (h : M.1 40 56 = 0) (d1 : M.1 69 p = nI b) (d2 : M.1 69 (p + 1) = nI b) : f_X12_sumOf sp_G (nI p) M = some (0, M) := by
  unfold f_X12_sumOf f_X12_sumOf_24
  rw [if_pos h, show nI p + 1 = nI (p + 1) from (nI_succ p).symm, if_neg (nI_in (by omega) (by decide)), if_neg (nI_in (by omega) (by decide)), n_cl (by omega), n_cl (by omega), d1, d2, if_pos rfl]
def rDeed (k : Nat) (a : Nat) (u v : Int32) (Q : az_M) : Option (Int32 × az_M) := if nI a = 0 then ((f_X12_fireNow sp_G u v Q).bind fun q29 => f_X12_run_189 sp_G (nI (8 * k)) q29.1 q29.2) else if nI a = 1 then ((f_X12_duelNow sp_G u v Q).bind fun q27 => f_X12_run_189 sp_G (nI (8 * k)) q27.1 q27.2) else ((f_X12_restNow sp_G u Q).bind fun q25 => f_X12_run_189 sp_G (nI (8 * k)) q25.1 q25.2)
/-- the two sums, then the deed -/
theorem r_119 {Mr : az_M} {k m : Nat} {x : sp_O} {e : sp_E} (hk : k < 12) (hm : m ≤ 400) (orr : ordR (Mr.1 51) (Mr.1 52) (Mr.1 69) k m x) (h20 : Mr.1 40 20 = 0) (h56 : Mr.1 40 56 = 0) (he : rEnv 1 e Mr) :
    ((x.2.2.1 e = none ∨ x.2.2.2.1 e = none) ∧ ∃ Q, sp_rr Mr Q ∧ f_X12_run_119 sp_G (nI (8 * k)) Mr = some (-3, Q)) ∨ ∃ u v Q, x.2.2.1 e = some u ∧ x.2.2.2.1 e = some v ∧ sp_rr Mr Q ∧ f_X12_run_119 sp_G (nI (8 * k)) Mr = rDeed k x.1 u v Q := by
  obtain ⟨b0, b1, b2, b3, kk, kk', kk'', ⟨d0, d1, d2, d3, d4, d5, d6, d7⟩, ⟨c1, c2, c3, c4⟩, ⟨k1, k2, k3⟩, s1, s2, s3⟩ := orr
  obtain ⟨v1, Q1, e1, e2, e3, e4⟩ := r_sumOf (p := 8 * k + 1) (by omega) s1 k1 (by omega) h20 h56 d1 d2 (fun j _ _ => ⟨rfl, rfl⟩) he
  have q69 : Q1.1 69 = Mr.1 69 := e4.1 69 (by decide)
  unfold f_X12_run_119
  rw [show nI (8 * k) + 1 = nI (8 * k + 1) from n_addr 1 _, show nI (8 * k) + 3 = nI (8 * k + 3) from n_addr 3 _, e1, Option.bind_some]
  cases h1 : x.2.2.1 e with
  | none =>
    rw [r_sumBad (e2 h1), Option.bind_some, if_neg (by rw [e2 h1]; decide)]
    exact Or.inl ⟨Or.inl rfl, Q1, e4.rr, rfl⟩
  | some u =>
    obtain ⟨f56, fv⟩ := e3 u h1
    have fin : ∀ (v2 : Int64) (Q2 : az_M) (v : Int32), sp_rr Mr Q2 → Q2.1 40 56 = 0 → Q2.1 69 (8 * k) = nI x.1 → (x.1 = 2 ∨ v2.toInt32 = v) → (if (Q2.1 40 56) = 0 then (if nI (8 * k) < 0 ∨ 96 ≤ (nI (8 * k)).toNatClampNeg then none else (if (Q2.1 69 (nI (8 * k)).toNatClampNeg) = 0 then ((f_X12_fireNow sp_G v1.toInt32 v2.toInt32 Q2).bind fun q29 => f_X12_run_189 sp_G (nI (8 * k)) q29.1 q29.2) else (if nI (8 * k) < 0 ∨ 96 ≤ (nI (8 * k)).toNatClampNeg then none else (if (Q2.1 69 (nI (8 * k)).toNatClampNeg) = 1 then ((f_X12_duelNow sp_G v1.toInt32 v2.toInt32 Q2).bind fun q27 => f_X12_run_189 sp_G (nI (8 * k)) q27.1 q27.2) else ((f_X12_restNow sp_G v1.toInt32 Q2).bind fun q25 => f_X12_run_189 sp_G (nI (8 * k)) q25.1 q25.2))))) else some ((-3), Q2)) = rDeed k x.1 u v Q2 := by
      intro v2 Q2 v _ g56 g69 gv
      rw [if_pos g56, if_neg (nI_in (by omega) (by decide)), if_neg (nI_in (by omega) (by decide)), n_cl (by omega), g69, fv, i_6432]
      unfold rDeed
      rcases gv with gv | gv
      · rw [gv, if_neg (show ¬ nI 2 = 0 by decide), if_neg (show ¬ nI 2 = 1 by decide), if_neg (show ¬ nI 2 = 0 by decide), if_neg (show ¬ nI 2 = 1 by decide)]
      · rw [gv]
    by_cases h2 : x.1 = 2
    · rw [if_pos h2] at s2
      obtain ⟨rfl, s2⟩ := s2
      rw [r_sumNone (p := 8 * k + 3) (by omega) f56 (by rw [q69]; exact d3) (by rw [q69]; exact d4), Option.bind_some]
      exact Or.inr ⟨u, 1, Q1, rfl, by rw [s2], e4.rr, fin 0 Q1 1 e4.rr f56 (by rw [q69]; exact d0) (Or.inl h2)⟩
    · rw [if_neg h2] at s2
      obtain ⟨v2, Q2, g1, g2, g3, g4⟩ := r_sumOf (p := 8 * k + 3) (by omega) s2 k2 (by omega) (by rw [e4.2.2.1]; exact h20) f56 (by rw [q69]; exact d3) (by rw [q69]; exact d4) (fun j _ _ => ⟨by rw [e4.1 51 (by decide)], by rw [e4.1 52 (by decide)]⟩) (rEnv_rs he e4)
      rw [g1, Option.bind_some]
      have r2 := e4.rr.trans g4.rr
      cases h3 : x.2.2.2.1 e with
      | none =>
        rw [if_neg (by rw [g2 h3]; decide)]
        exact Or.inl ⟨Or.inr rfl, Q2, r2, rfl⟩
      | some v =>
        obtain ⟨w56, wv⟩ := g3 v h3
        exact Or.inr ⟨u, v, Q2, rfl, rfl, r2, fin v2 Q2 v r2 w56 (by rw [g4.1 69 (by decide), q69]; exact d0) (Or.inr (by rw [wv, i_6432]))⟩
theorem r_turn {N : Nat → Int32} {Mr : az_M} {k m pl pp : Nat} {x : sp_O} {e : sp_E} (hk : k < 12) (hm : m ≤ 400) (ok : is01 x.2.2.2.2) (orr : ordR (Mr.1 51) (Mr.1 52) (Mr.1 69) k m x) (h20 : Mr.1 40 20 = 0) (pr : sp_pr N (Mr.1 42)) (h23 : N 23 = nI pl) (h24 : N 24 = nI pp) (hl : pl ≤ 12) (hp : pp ≤ 10) (he : ∀ j, j < 28 → e j = ow N pl pp (Mr.1 40 53) (Mr.1 40 54) j) :
    (sp_enc (x.2.2.2.2 e) ≤ 0 ∧ ∃ Q, sp_rr Mr Q ∧ f_X12_run sp_G (nI (8 * k)) Mr = some (0, Q)) ∨ (¬ sp_enc (x.2.2.2.2 e) ≤ 0 ∧ (x.2.2.1 e = none ∨ x.2.2.2.1 e = none) ∧ ∃ Q, sp_rr Mr Q ∧ f_X12_run sp_G (nI (8 * k)) Mr = some (-3, Q)) ∨ (¬ sp_enc (x.2.2.2.2 e) ≤ 0 ∧ ∃ u v Q, x.2.2.1 e = some u ∧ x.2.2.2.1 e = some v ∧ sp_rr Mr Q ∧ f_X12_run sp_G (nI (8 * k)) Mr = rDeed k x.1 u v Q) := by
  rw [p_runHead hk]
  obtain ⟨W, hW⟩ : ∃ W, W = rw6 Mr (Mr.1 42 6) (Mr.1 42 11) (Mr.1 42 12) (Mr.1 42 13) (Mr.1 40 53) (Mr.1 40 54) := ⟨_, rfl⟩
  have w1 : sp_rr Mr W := by rw [hW]; exact rr_w6 _ _ _ _ _ _ _
  have w56 : W.1 40 56 = 0 := by rw [hW]; rfl
  have wE : rEnv 1 e W := by
    refine rEnv_ext he (o_env (by rw [w1.1 42 (by decide)]; exact pr) h23 h24 hl hp ?_)
    have := rw6_59 Mr (Mr.1 42 6) (Mr.1 42 11) (Mr.1 42 12) (Mr.1 42 13) (Mr.1 40 53) (Mr.1 40 54)
    rw [← hW, ← pr.2.1 0 (by decide), ← pr.1.1, ← pr.1.2.1, ← pr.1.2.2.1] at this
    exact this
  rw [← hW]
  have o2 : ordR (W.1 51) (W.1 52) (W.1 69) k m x := by rw [w1.1 51 (by decide), w1.1 52 (by decide), w1.1 69 (by decide)]; exact orr
  have w20 : W.1 40 20 = 0 := by rw [w1.2.1 20 (by decide) (by decide)]; exact h20
  have go : ∀ Q, sp_rr Mr Q → ordR (Q.1 51) (Q.1 52) (Q.1 69) k m x → Q.1 40 20 = 0 → Q.1 40 56 = 0 → rEnv 1 e Q → ((x.2.2.1 e = none ∨ x.2.2.2.1 e = none) ∧ ∃ Q', sp_rr Mr Q' ∧ f_X12_run_119 sp_G (nI (8 * k)) Q = some (-3, Q')) ∨ ∃ u v Q', x.2.2.1 e = some u ∧ x.2.2.2.1 e = some v ∧ sp_rr Mr Q' ∧ f_X12_run_119 sp_G (nI (8 * k)) Q = rDeed k x.1 u v Q' := by
    intro Q h1 h2 h3 h4 h5
    rcases r_119 hk hm h2 h3 h4 h5 with ⟨a, Q', b, c⟩ | ⟨u, v, Q', a, b, c, d⟩
    · exact Or.inl ⟨a, Q', h1.trans b, c⟩
    · exact Or.inr ⟨u, v, Q', a, b, h1.trans c, d⟩
  obtain ⟨b0, b1, b2, b3, kk, kk', kk'', ⟨d0, d1, d2, d3, d4, d5, d6, d7⟩, ⟨c1, c2, c3, c4⟩, ⟨k1, k2, k3⟩, s1, s2, s3⟩ := o2
  rw [d5, d6]
  rcases s3 with ⟨rfl, s3⟩ | s3
  · rw [if_pos (by rw [n_le (by omega) (by omega)]; omega)]
    have t1 : ¬ sp_enc (x.2.2.2.2 e) ≤ 0 := by rw [s3]; exact (by decide : ¬ sp_enc (some 1) ≤ 0)
    rcases go W w1 (by rw [w1.1 51 (by decide), w1.1 52 (by decide), w1.1 69 (by decide)]; exact orr) w20 w56 wE with h | h
    · exact Or.inr (Or.inl ⟨t1, h⟩)
    · exact Or.inr (Or.inr ⟨t1, h⟩)
  · have hlt := s3.1
    rw [if_neg (by rw [n_le (by omega) (by omega)]; omega)]
    obtain ⟨v, Q, e1, e2, e3, e4⟩ := r_sumOf (p := 8 * k + 5) (by omega) s3 k3 (by omega) w20 w56 d5 d6 (fun j _ _ => ⟨rfl, rfl⟩) wE
    rw [e1, Option.bind_some]
    have rQ1 := w1.trans e4.rr
    unfold f_X12_run_117
    cases ht : x.2.2.2.2 e with
    | none =>
      rw [if_neg (by rw [e2 ht]; decide)]
      exact Or.inl ⟨by decide, Q, rQ1, rfl⟩
    | some t =>
      obtain ⟨g56, gv⟩ := e3 t ht
      rw [if_pos g56, gv]
      rcases ok e t ht with rfl | rfl
      · rw [if_pos (show (Int32.toInt64 0) = 0 by decide)]
        exact Or.inl ⟨by decide, Q, rQ1, rfl⟩
      · rw [if_neg (show ¬ (Int32.toInt64 1) = 0 by decide)]
        have t1 : ¬ sp_enc (some 1) ≤ 0 := by decide
        rcases go Q rQ1 (by rw [rQ1.1 51 (by decide), rQ1.1 52 (by decide), rQ1.1 69 (by decide)]; exact orr) (by rw [rQ1.2.1 20 (by decide) (by decide)]; exact h20) g56 (rEnv_rs wE e4) with h | h
        · exact Or.inr (Or.inl ⟨t1, h⟩)
        · exact Or.inr (Or.inr ⟨t1, h⟩)
