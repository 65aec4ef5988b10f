/-! RUNNING ORDERS: the class, up to the deed -/
def sp_wf (M M' : az_M) : Prop := (∀ k, k ≠ 14 → k ≠ 27 → M'.1 k = M.1 k) ∧ M'.2 = M.2
theorem c_ext {wl : Nat} {C : Nat → Int32} {a b kk : Nat} {φ : sp_E → Option Int32} {e e' : sp_E} (h : e = e') : φ e = φ e' := by rw [h]
theorem c_turn {Z : az_S × Nat} {Mc : az_M} {k n pl pp F : Nat} {x : sp_O} {tm xi : Int32} (z17 : Z.1.2 17 = 400) (z18 : Z.1.2 18 = 72) (z27 : Z.1.2 27 = 28) (hk : k < 12) (hn : n ≤ 400) (oc : ordC (Mc.1 17) (Mc.1 18) k n x) (h23 : Mc.1 2 23 = nI pl) (h24 : Mc.1 2 24 = nI pp) (hl : pl ≤ 12) (hp : pp ≤ 10) (hx : ¬ tm ≤ xi) : ∃ Q1 Q3 e, (∀ j, j < 28 → e j = ow (Mc.1 2) pl pp (Mc.1 21 0) (Mc.1 21 1) j) ∧ sp_wf Mc Q1 ∧ sp_wf Mc Q3 ∧ f_X1_runClause_10 Z sp_G 16 (F + 1) (nI k) tm xi Mc = (if sp_enc (x.2.2.2.2 e) ≤ 0 then f_X1_runClause_10 Z sp_G 16 F (nI k) tm (xi + 1) Q1 else if sp_enc (x.2.2.1 e) = -2147483648 then some (0, Q3) else if sp_enc (x.2.2.2.1 e) = -2147483648 then some (0, Q3) else if nI x.1 = 0 then ((f_X1_tryFire Z sp_G (sp_enc (x.2.2.1 e)) (sp_enc (x.2.2.2.1 e)) Q3).bind fun q35 => f_X1_runClause_162 Z sp_G 16 (f_X1_runClause_10 Z sp_G 16 F) (nI k) tm xi (nI x.1) q35.1 q35.2) else if nI x.1 = 1 then ((f_X1_tryDuel Z sp_G (sp_enc (x.2.2.1 e)) (sp_enc (x.2.2.2.1 e)) Q3).bind fun q33 => f_X1_runClause_162 Z sp_G 16 (f_X1_runClause_10 Z sp_G 16 F) (nI k) tm xi (nI x.1) q33.1 q33.2) else ((f_X1_tryRest (sp_enc (x.2.2.1 e)) Q3).bind fun q31 => f_X1_runClause_162 Z sp_G 16 (f_X1_runClause_10 Z sp_G 16 F) (nI k) tm xi (nI x.1) q31.1 q31.2)) := by
  obtain ⟨a0, a1, a2, a3, kk, kk', kk'', ⟨d0, d1, d2, d3, d4, d5⟩, ⟨b1, b2, b3, b4⟩, ⟨k1, k2, k3⟩, s1, s2, s3⟩ := oc
  obtain ⟨W, w1, w2, w3, w4⟩ := p_words h23 h24 hl hp
  have W17 : W.1 17 = Mc.1 17 := w3 17 (by decide)
  have W18 : W.1 18 = Mc.1 18 := w3 18 (by decide)
  obtain ⟨Q1, r1, r2, r3⟩ := c_mean (Z := Z) (t := 16) (a3 := 27) s3 (by show a3 ≤ Z.1.2 17; omega) (by show Z.1.2 17 ≤ 400; omega) z27 (by decide) (by decide) k3 (M := W) (fun j _ _ => by show W.1 17 j = _; rw [W17])
  obtain ⟨Q2, t1, t2, t3⟩ := c_mean (Z := Z) (t := 16) (a3 := 27) s1 (by show a1 ≤ Z.1.2 17; omega) (by show Z.1.2 17 ≤ 400; omega) z27 (by decide) (by decide) k1 (M := Q1) (fun j _ _ => by show Q1.1 17 j = _; rw [r2 17 (by decide), W17])
  obtain ⟨Q3, u1, u2, u3⟩ := c_mean (Z := Z) (t := 16) (a3 := 27) s2 (by show a2 ≤ Z.1.2 17; omega) (by show Z.1.2 17 ≤ 400; omega) z27 (by decide) (by decide) k2 (M := Q2) (fun j _ _ => by show Q2.1 17 j = _; rw [t2 17 (by decide), r2 17 (by decide), W17])
  have e2 : Q1.1 27 = W.1 27 := r2 27 (by decide)
  have e3 : Q2.1 27 = W.1 27 := (t2 27 (by decide)).trans e2
  rw [e2] at t1
  rw [e3] at u1
  have g : ∀ (M : az_M), M.1 18 = Mc.1 18 → ∀ j, j < 6 → f_X10_get Z 16 (nI k) (nI j) M = some (Mc.1 18 (6 * k + j)) := fun M hM j hj => by rw [p_get16 z18 hk hj, hM]
  have q18 : Q1.1 18 = Mc.1 18 := (r2 18 (by decide)).trans W18
  have q28 : Q2.1 18 = Mc.1 18 := (t2 18 (by decide)).trans q18
  refine ⟨Q1, Q3, W.1 27, w2, ⟨fun q p1 p2 => by rw [r2 q p1, w3 q p2], by rw [r3, w4]⟩, ⟨fun q p1 p2 => by rw [u2 q p1, t2 q p1, r2 q p1, w3 q p2], by rw [u3, t3, r3, w4]⟩, ?_⟩
  rw [f_X1_runClause_10, if_neg hx, w1, Option.bind_some, show f_X10_get Z 16 (nI k) 4 W = some (Mc.1 18 (6 * k + 4)) from g W W18 4 (by decide), Option.bind_some, show f_X10_get Z 16 (nI k) 5 W = some (Mc.1 18 (6 * k + 5)) from g W W18 5 (by decide), Option.bind_some, d4, d5, r1, Option.bind_some]
  unfold f_X1_runClause_200 f_X1_runClause_121
  rw [show f_X10_get Z 16 (nI k) 0 Q1 = some (Mc.1 18 (6 * k)) from g Q1 q18 0 (by decide), Option.bind_some, show f_X10_get Z 16 (nI k) 2 Q1 = some (Mc.1 18 (6 * k + 2)) from g Q1 q18 2 (by decide), Option.bind_some, show f_X10_get Z 16 (nI k) 3 Q1 = some (Mc.1 18 (6 * k + 3)) from g Q1 q18 3 (by decide), Option.bind_some, d0, d2, d3, t1, Option.bind_some, show f_X10_get Z 16 (nI k) 3 Q2 = some (Mc.1 18 (6 * k + 3)) from g Q2 q28 3 (by decide), Option.bind_some, show f_X10_get Z 16 (nI k) 4 Q2 = some (Mc.1 18 (6 * k + 4)) from g Q2 q28 4 (by decide), Option.bind_some, d3, d4, u1, Option.bind_some]
