/-! BOTH READERS: whole expressions -/
/-- the reference between two expressions -/
def RB (T : Nat → Nat) (L o i c m : Nat) (M : az_M) : Prop := (Tr T L M ∧ tokR T L i M) ∧ (M.1 40 20 = nI o ∧ M.1 40 19 = 0 ∧ M.1 40 26 = nI c ∧ M.1 40 23 = nI m) ∧ (i ≤ L ∧ m ≤ i ∧ c ≤ 50) ∧ RWk M
theorem RSt.rb {T : Nat → Nat} {L o i c b m : Nat} {P : List (Nat × Nat)} {M : az_M} (h : RSt T L o i c b m P M) : RB T L o i c m M := by
  obtain ⟨h1, ⟨k1, k2, k3, k4, k5, k6⟩, h3, ⟨b1, b2, b3, b4⟩, h5⟩ := h
  exact ⟨h1, ⟨k1, k2, k3, k5⟩, ⟨b1, by omega, b3⟩, h5⟩
theorem RB.st {T : Nat → Nat} {L o i c m : Nat} {M : az_M} (h : RB T L o i c m M) : RSt T L o i c 0 m [] (az_i (az_i M 40 29 0) 40 30 0) := by
  obtain ⟨⟨h1, h2⟩, ⟨k1, k2, k3, k5⟩, ⟨b1, b2, b3⟩, h5⟩ := h
  have fr : rFr 0 M (az_i (az_i M 40 29 0) 40 30 0) := (rFr_40 0 (by simp)).trans (rFr_40 0 (by simp))
  have e : ∀ j, j ≠ 29 → j ≠ 30 → (az_i (az_i M 40 29 0) 40 30 0).1 40 j = M.1 40 j := fun j a b => by rw [gi, if_pos rfl, if_neg b, gi, if_pos rfl, if_neg a]
  exact ⟨⟨h1.fr fr, by unfold tokR; rw [e 16 (by decide) (by decide), e 14 (by decide) (by decide), e 15 (by decide) (by decide)]; exact h2⟩, ⟨by rw [e 20 (by decide) (by decide)]; exact k1, by rw [e 19 (by decide) (by decide)]; exact k2, by rw [e 26 (by decide) (by decide)]; exact k3, by rw [gi, if_pos rfl, if_pos rfl]; rfl, by rw [e 23 (by decide) (by decide)]; exact k5, by rw [gi, if_pos rfl, if_neg (by decide), gi, if_pos rfl, if_pos rfl]; rfl⟩, ⟨trivial, fun x hx => (by cases hx)⟩, ⟨b1, b2, b3, by omega⟩, h5.fr fr⟩
theorem RB.next {T : Nat → Nat} {L o i c m : Nat} {M : az_M} (hL : L ≤ 400) (h255 : ∀ i, T i ≤ 255) (h : RB T L o i c m M) : ∃ M', f_X12_next sp_G M = some M' ∧ RB T L o (tnx T L i) c m M' ∧ rF0 M M' := by
  obtain ⟨⟨h1, h2⟩, ⟨k1, k2, k3, k5⟩, ⟨b1, b2, b3⟩, rw⟩ := h
  obtain ⟨M', a1, a2, a3⟩ := r_next hL h255 h1 (tto_le (T := T) b1).2 h2.2.2.1
  have tl := tnx_le (T := T) b1
  have fj := fun j (x : j ≠ 14) (y : j ≠ 15) (z : j ≠ 16) => a3.2.1 j x y z
  exact ⟨M', a1, ⟨⟨h1.rF a3, a2⟩, ⟨by rw [fj 20 (by decide) (by decide) (by decide)]; exact k1, by rw [fj 19 (by decide) (by decide) (by decide)]; exact k2, by rw [fj 26 (by decide) (by decide) (by decide)]; exact k3, by rw [fj 23 (by decide) (by decide) (by decide)]; exact k5⟩, ⟨tl.2, by omega, b3⟩, rw.fr (a3.fr 0)⟩, a3⟩
theorem RB.mustOK {T : Nat → Nat} {L o i c m : Nat} {M : az_M} (hL : L ≤ 400) (h255 : ∀ i, T i ≤ 255) (h : RB T L o i c m M) : ∃ M', f_X12_must sp_G 1 M = some M' ∧ RB T L o (tnx T L i) c m M' ∧ rF0 M M' := by
  obtain ⟨M', a1, a2, a3⟩ := h.next hL h255
  refine ⟨M', ?_, a2, a3⟩
  unfold f_X12_must f_X12_must_24 f_X12_must_35
  rw [h.2.1.2.1, if_pos rfl, if_neg (by decide), if_pos rfl, a1]; rfl
theorem RB.mustBad {T : Nat → Nat} {L o i c m : Nat} {M : az_M} (h : RB T L o i c m M) : f_X12_must sp_G 0 M = some (badM M i) := by
  unfold f_X12_must f_X12_must_24 f_X12_must_35 badM
  have e : (az_i M 40 19 1).1 40 14 = nI i := by rw [gi, if_pos rfl, if_neg (by decide)]; exact h.1.2.2.1
  rw [h.2.1.2.1, if_pos rfl, if_pos rfl, e, if_neg]
  rw [gi, if_pos rfl, if_neg (by decide), gi, if_pos rfl, if_pos rfl]; decide
theorem badM_bad {M : az_M} {j : Nat} : rBad j M (badM M j) := by
  unfold badM
  exact ⟨by rw [gi, if_pos rfl, if_neg (by decide), gi, if_pos rfl, if_pos rfl], by rw [gi, if_pos rfl, if_pos rfl], fun k a _ _ _ _ => by rw [gi_k a, gi_k a], fun j _ _ _ p q _ _ _ _ => by rw [gi, if_pos rfl, if_neg p, gi, if_pos rfl, if_neg q], fun _ _ => rfl, fun _ _ => rfl, rfl⟩
/-- both readers, at an expression's end -/
def XB (n : Nat) (Mc Mr : az_M) (res : Option (Int32 × az_M)) (resR : Option az_M) : Prop := ∃ Mc' j Mr', res = some (0, Mc') ∧ resR = some Mr' ∧ Mc'.1 15 4 = nI j ∧ j ≤ 400 ∧ cFr n Mc Mc' ∧ rBad j Mr Mr'
def XG (T : Nat → Nat) (L o i c n m : Nat) (ok : (sp_E → Option Int32) → Prop) (Mc Mr : az_M) (res : Option (Int32 × az_M)) (resR : Option az_M) : Prop := ∃ Mc' Mr' i' c' n' m' φ, res = some (1, Mc') ∧ resR = some Mr' ∧ CSt T L o i' c' 0 n' Mc' ∧ RB T L o i' c' m' Mr' ∧ cFr n Mc Mc' ∧ rFr m Mr Mr' ∧ ((i < i' ∧ n' + i ≤ n + i') ∧ c < c' ∧ ok φ) ∧ cSeg (WL o) (Mc'.1 17) n n' (c' - c) φ ∧ rSeg o (Mr'.1 51) (Mr'.1 52) m m' (c' - c) φ
theorem x_sum {T : Nat → Nat} {L o : Nat} {Z : az_S × Nat} (hL : L ≤ 400) (h255 : ∀ i, T i ≤ 255) (hZ : Z.1.2 17 = 400) (ho : o ≤ 1) {i c n m : Nat} {Mc Mr : az_M} (hC : CSt T L o i c 0 n Mc) (hR : RB T L o i c m Mr) : XB n Mc Mr (f_X5_readSum Z sp_G 10 Mc) (f_X12_readExpression sp_G 0 Mr) ∨ XG T L o i c n m (sok (WL o)) Mc Mr (f_X5_readSum Z sp_G 10 Mc) (f_X12_readExpression sp_G 0 Mr) := by
  have hS := hR.st
  have f0 : ∀ m, rFr m Mr (az_i (az_i Mr 40 29 0) 40 30 0) := fun m => (rFr_40 m (by simp)).trans (rFr_40 m (by simp))
  unfold f_X12_readExpression f_X12_readExpression_19
  rw [if_pos rfl]
  generalize az_i (az_i Mr 40 29 0) 40 30 0 = Mr0 at hS f0
  rcases h_sum (Z := Z) hL h255 hZ ho 10 0 (by omega) (by omega) i c n m [] Mc Mr0 0 hC hS (Or.inl rfl) with ⟨Mc', j, Mr', K, e1, e2, e3, e4, e5, e6, e7⟩ | ⟨Mc', i', c', n', φ, Mr', m', q, K, e1, e2, e3, ⟨⟨e4, e4n⟩, e5, e6, e7⟩, e8, g1, ⟨gK, gm⟩, g3, g4, g5, g6⟩
  · exact Or.inl ⟨Mc', j, Mr', e1, (congrArg (fun F => f_X12_readExpression_20 sp_G F 0 1 Mr0) (show sp_G = (sp_G - K) + K by show 1000000 = 1000000 - K + K; omega)).trans (e5 _), e2, e3, e4, e7.1, e7.2.1, (f0 0).tB e7.2.2⟩
  · have hi' := g3.2.2.2.1.1
    obtain ⟨Mr4, m4, t1, t2, t3, t4, t5⟩ := g3.settle hL 1 m (by decide) (fun x hx => by have := bd_arith (g5 x hx); omega) (Or.inl rfl) (fun x hx e => by have := (g5 x hx).2; omega) gm
    have fin : f_X12_readExpression_20 sp_G sp_G 0 1 Mr0 = some Mr4 := by
      have hF : sp_G = (sp_G - K - 2 + 1 + 1) + K := by show 1000000 = 1000000 - K - 2 + 1 + 1 + K; omega
      have : f_X12_readExpression_20 sp_G (sp_G - K - 2 + 1 + 1 + K) 0 1 Mr0 = some Mr4 := by
        rw [g1, r_turn3 g3.2.1.2.1, p_noOp h255 g3 e6]
        unfold f_X12_behindSum_71
        rw [if_pos rfl, p_inner g3.2.2.1.1 g3.2.2.1.2 g3.2.1.2.2.2.2.2 (by have := g3.2.2.2.1.2.1; omega), Option.bind_some, innV_arith g5, innV, if_neg (by decide), if_pos rfl, if_pos rfl, Option.bind_some, f_X12_readExpression_20, if_pos g3.2.1.2.1, if_pos rfl]
        unfold f_X12_readExpression_76
        rw [show f_X12_settle sp_G 1 Mr' = some Mr4 from t1]; rfl
      exact (congrArg (fun F => f_X12_readExpression_20 sp_G F 0 1 Mr0) hF).trans this
    rw [← t3] at g6
    exact Or.inr ⟨Mc', Mr4, i', c', n', m4, φ, e1, fin, e2, t2.rb, e3, (f0 m).trans (g4.trans t4), ⟨⟨e4, e4n⟩, e5, e7⟩, e8, g6⟩
theorem x_test {T : Nat → Nat} {L o : Nat} {Z : az_S × Nat} (hL : L ≤ 400) (h255 : ∀ i, T i ≤ 255) (hZ : Z.1.2 17 = 400) (ho : o ≤ 1) {i c n m : Nat} {Mc Mr : az_M} (hC : CSt T L o i c 0 n Mc) (hR : RB T L o i c m Mr) : XB n Mc Mr (f_X5_readTest Z sp_G 10 Mc) (f_X12_readExpression sp_G 1 Mr) ∨ XG T L o i c n m is01 Mc Mr (f_X5_readTest Z sp_G 10 Mc) (f_X12_readExpression sp_G 1 Mr) := by
  have hS := hR.st
  have f0 : ∀ m, rFr m Mr (az_i (az_i Mr 40 29 0) 40 30 0) := fun m => (rFr_40 m (by simp)).trans (rFr_40 m (by simp))
  unfold f_X12_readExpression f_X12_readExpression_19
  rw [if_neg (by decide)]
  generalize az_i (az_i Mr 40 29 0) 40 30 0 = Mr0 at hS f0
  rcases h_test (Z := Z) hL h255 hZ ho 10 0 (by omega) (by omega) i c n m [] Mc Mr0 hC hS (Or.inl rfl) (by rw [innV]; decide) with ⟨Mc', j, Mr', K, e1, e2, e3, e4, e5, e6, e7⟩ | ⟨Mc', i', c', n', φ, e1, e6, e2, e3, ⟨⟨e4, e4n⟩, e5, e7⟩, e8, Mr', m', q, K, g1, ⟨gK, gm⟩, g3, g4, g5, g6⟩
  · exact Or.inl ⟨Mc', j, Mr', e1, (congrArg (fun F => f_X12_readExpression_20 sp_G F 1 0 Mr0) (show sp_G = (sp_G - K) + K by show 1000000 = 1000000 - K + K; omega)).trans (e5 _), e2, e3, e4, e7.1, e7.2.1, (f0 0).tB e7.2.2⟩
  · have hi' := g3.2.2.2.1.1
    obtain ⟨Mr4, m4, t1, t2, t3, t4, t5⟩ := g3.settle hL 1 m (by decide) (fun x hx => (g5 x hx).2) (Or.inl rfl) (fun x hx e => (g5 x hx).1.2 e) gm
    have fin : f_X12_readExpression_20 sp_G sp_G 1 0 Mr0 = some Mr4 := by
      have hF : sp_G = (sp_G - K - 2 + 1 + 1) + K := by show 1000000 = 1000000 - K - 2 + 1 + 1 + K; omega
      have : f_X12_readExpression_20 sp_G (sp_G - K - 2 + 1 + 1 + K) 1 0 Mr0 = some Mr4 := by
        rw [g1, r_turn2 g3.2.1.2.1, p_noAnd g3 hL e6, innV_lt (fun x hx => (g5 x hx).1.1), innV, if_pos rfl, Option.bind_some, f_X12_readExpression_20, if_pos g3.2.1.2.1, if_pos rfl]
        unfold f_X12_readExpression_76
        rw [show f_X12_settle sp_G 1 Mr' = some Mr4 from t1]; rfl
      exact (congrArg (fun F => f_X12_readExpression_20 sp_G F 1 0 Mr0) hF).trans this
    rw [← t3] at g6
    exact Or.inr ⟨Mc', Mr4, i', c', n', m4, φ, e1, fin, e2, t2.rb, e3, (f0 m).trans (g4.trans t4), ⟨⟨e4, e4n⟩, e5, e7⟩, e8, g6⟩
