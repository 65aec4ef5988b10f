/-! BOTH READERS: a part -/
def CSt (T : Nat → Nat) (L o i c b n : Nat) (M : az_M) : Prop := (Tc T L M ∧ tokC T L i M) ∧ (M.1 15 2 = nI o ∧ M.1 15 7 = nI c ∧ M.1 15 8 = nI b ∧ M.1 16 2 = nI n) ∧ (i ≤ L ∧ n ≤ i ∧ c ≤ 50 ∧ b ≤ 8)
def cFr (n : Nat) (M M' : az_M) : Prop := (∀ k, k ≠ 15 → k ≠ 16 → k ≠ 17 → M'.1 k = M.1 k) ∧ (∀ j, j ≠ 2 → M'.1 16 j = M.1 16 j) ∧ (∀ j, j < n → M'.1 17 j = M.1 17 j) ∧ M'.1 15 2 = M.1 15 2 ∧ M'.2 = M.2
theorem cFr.refl (n : Nat) (M : az_M) : cFr n M M := ⟨fun _ _ _ _ => rfl, fun _ _ => rfl, fun _ _ => rfl, rfl, rfl⟩
theorem cFr.trans {n : Nat} {M M' M'' : az_M} (h : cFr n M M') (g : cFr n M' M'') : cFr n M M'' := ⟨fun k a b c => (g.1 k a b c).trans (h.1 k a b c), fun j a => (g.2.1 j a).trans (h.2.1 j a), fun j a => (g.2.2.1 j a).trans (h.2.2.1 j a), g.2.2.2.1.trans h.2.2.2.1, g.2.2.2.2.trans h.2.2.2.2⟩
theorem cFr.mono {n n' : Nat} {M M' : az_M} (h : cFr n M M') (hn : n' ≤ n) : cFr n' M M' := ⟨h.1, h.2.1, fun j hj => h.2.2.1 j (by omega), h.2.2.2.1, h.2.2.2.2⟩
theorem cF0.fr {M M' : az_M} (h : cF0 M M') (n : Nat) : cFr n M M' := ⟨fun k a _ _ => h.1 k a, fun j _ => by rw [h.1 16 (by decide)], fun j _ => by rw [h.1 17 (by decide)], h.2.1 2 (by decide) (by decide) (by decide) (by decide), h.2.2⟩
theorem cFr_15 {M : az_M} {j : Nat} {v : Int32} (n : Nat) (h : j ≠ 2) : cFr n M (az_i M 15 j v) := ⟨fun k a _ _ => gi_k a, fun i _ => by rw [gi_k (by decide)], fun i _ => by rw [gi_k (by decide)], by rw [gi, if_pos rfl, if_neg (fun e => h e.symm)], rfl⟩
theorem CSt.next {T : Nat → Nat} {L o i c b n : Nat} {M : az_M} (hL : L ≤ 400) (h255 : ∀ i, T i ≤ 255) (h : CSt T L o i c b n M) : ∃ M', f_X5_nextToken sp_G M = some M' ∧ CSt T L o (tnx T L i) c b n M' ∧ cF0 M M' := by
  obtain ⟨⟨h1, h2⟩, ⟨k1, k2, k3, k4⟩, b1, b2, b3, b4⟩ := h
  obtain ⟨M', a1, a2, a3⟩ := c_next hL h255 h1 (tto_le (T := T) b1).2 h2.2.2.1
  have tl := tnx_le (T := T) b1
  have fj := fun j (x : j ≠ 3) (y : j ≠ 4) (z : j ≠ 5) (w : j ≠ 6) => a3.2.1 j x y z w
  exact ⟨M', a1, ⟨⟨h1.cF (fun k hk => a3.1 k (by omega)), a2⟩, ⟨by rw [fj 2 (by decide) (by decide) (by decide) (by decide)]; exact k1, by rw [fj 7 (by decide) (by decide) (by decide) (by decide)]; exact k2, by rw [fj 8 (by decide) (by decide) (by decide) (by decide)]; exact k3, by rw [a3.1 16 (by decide)]; exact k4⟩, tl.2, by omega, b3, b4⟩, a3⟩
/-- one number of the reader's new -/
theorem CSt.put {T : Nat → Nat} {L o i c b n c' b' j : Nat} {v : Int32} {M : az_M} (h : CSt T L o i c b n M) (hj : (j = 7 ∧ v = nI c' ∧ b' = b ∧ c' ≤ 50) ∨ (j = 8 ∧ v = nI b' ∧ c' = c ∧ b' ≤ 8)) : CSt T L o i c' b' n (az_i M 15 j v) := by
  obtain ⟨⟨h1, h2⟩, ⟨k1, k2, k3, k4⟩, b1, b2, b3, b4⟩ := h
  have e : ∀ i', i' ≠ j → (az_i M 15 j v).1 15 i' = M.1 15 i' := fun i' hi => by rw [gi, if_pos rfl, if_neg hi]
  have e' : (az_i M 15 j v).1 15 j = v := by rw [gi, if_pos rfl, if_pos rfl]
  rcases hj with ⟨rfl, rfl, rfl, hc⟩ | ⟨rfl, rfl, rfl, hb⟩
  · exact ⟨⟨h1.cF (fun k hk => gi_k (by omega)), by unfold tokC; rw [e 3 (by decide), e 4 (by decide), e 5 (by decide), e 6 (by decide)]; exact h2⟩, ⟨by rw [e 2 (by decide)]; exact k1, e', by rw [e 8 (by decide)]; exact k3, by rw [gi_k (by decide)]; exact k4⟩, b1, b2, hc, b4⟩
  · exact ⟨⟨h1.cF (fun k hk => gi_k (by omega)), by unfold tokC; rw [e 3 (by decide), e 4 (by decide), e 5 (by decide), e 6 (by decide)]; exact h2⟩, ⟨by rw [e 2 (by decide)]; exact k1, by rw [e 7 (by decide)]; exact k2, e', by rw [gi_k (by decide)]; exact k4⟩, b1, b2, b3, hb⟩
theorem c_add {Z : az_S × Nat} (hZ : Z.1.2 17 = 400) {T : Nat → Nat} {L o i c b n s w : Nat} {M : az_M} (hL : L ≤ 400) (h : CSt T L o i c b n M) (hn : n < i) (hs : s < 16) (hw : w ≤ 100000) : ∃ M', f_X10_addStep Z 16 (nI s) (nI w) M = some M' ∧ CSt T L o i c b (n + 1) M' ∧ cFr n M M' ∧ M'.1 17 = up (M.1 17) n (nI (w * 16 + s)) := by
  obtain ⟨⟨h1, h2⟩, ⟨k1, k2, k3, k4⟩, b1, b2, b3, b4⟩ := h
  have hv : (nI w <<< (4 &&& 31)) ||| nI s = nI (w * 16 + s) := by
    rw [show (4 : Int32) = nI 4 from rfl, c_shl w (by decide), c_or (s := 4) (by omega)]; exact congrArg nI (by show 2 ^ 4 * w + s = _; omega)
  have e16 : (az_i M 17 n (nI (w * 16 + s))).1 16 2 + 1 = nI (n + 1) := by rw [gi_k (by decide), k4]; exact (nI_succ n).symm
  refine ⟨az_i (az_i M 17 n (nI (w * 16 + s))) 16 2 (nI (n + 1)), ?_, ⟨⟨h1.cF (fun k hk => by rw [gi_k (by omega), gi_k (by omega)]), by unfold tokC; rw [gi_k (by decide), gi_k (by decide)]; exact h2⟩, ⟨by rw [gi_k (by decide), gi_k (by decide)]; exact k1, by rw [gi_k (by decide), gi_k (by decide)]; exact k2, by rw [gi_k (by decide), gi_k (by decide)]; exact k3, by rw [gi, if_pos rfl, if_pos rfl]⟩, b1, by omega, b3, b4⟩, ⟨fun k _ a b => by rw [gi_k a, gi_k b], fun j hj => by rw [gi, if_pos rfl, if_neg hj, gi_k (by decide)], fun j hj => by rw [gi_k (by decide), gi, if_pos rfl, if_neg (by omega)], by rw [gi_k (by decide), gi_k (by decide)], rfl⟩, by rw [gi_k (by decide), az_i_ro, ro_eq]⟩
  unfold f_X10_addStep f_X10_addStep_36
  rw [k4, show Int32.ofNat (Z.1.2 (16 + 1)) = nI (Z.1.2 17) from rfl, hZ, if_neg (by rw [n_le (by omega) (by omega)]; omega), n_cl (by omega), if_neg (nIn (by omega) (by omega)), hv, show (16 + 1 : Nat) = 17 from rfl, e16]
/-- numbers: the class's and the reference's -/
theorem num_rel (T : Nat → Nat) (L : Nat) : ∀ (e p a a' : Nat), (a = a' ∨ (1000 < a ∧ 1000 < a')) → (tnum T L 1000 e p a = tnum T L 1000000 e p a' ∨ (1000 < tnum T L 1000 e p a ∧ 1000 < tnum T L 1000000 e p a')) := by
  intro e
  induction e with
  | zero => intro p a a' h; exact h
  | succ e ih =>
    intro p a a' h
    rw [tnum, tnum]
    by_cases hk : tkd T L p = 2
    · rw [if_pos hk, if_pos hk]
      refine ih _ _ _ ?_
      rcases h with rfl | ⟨h1, h2⟩
      · by_cases ha : a ≤ 1000
        · rw [if_pos ha, if_pos (by omega)]; exact Or.inl rfl
        · rw [if_neg ha]
          right
          split <;> omega
      · right
        rw [if_neg (by omega)]
        split <;> omega
    · rw [if_neg hk, if_neg hk]; exact h
def numC (T : Nat → Nat) (L i : Nat) : Nat := tnum T L 1000 (L - i) i 0
theorem numC_le (T : Nat → Nat) (L i : Nat) (h255 : ∀ i, T i ≤ 255) : numC T L i ≤ 10300 := tnum_le T L 1000 h255 _ _ _ (by omega)
theorem numR_le (T : Nat → Nat) (L i : Nat) (h255 : ∀ i, T i ≤ 255) : tnum T L 1000000 (L - i) i 0 ≤ 10000300 := tnum_le T L 1000000 h255 _ _ _ (by omega)
theorem worth_num {T : Nat → Nat} {L i : Nat} (h : tkd T L i = 2) : tworth T L i = lN (tnum T L 1000000 (L - i) i 0) := by unfold tworth; rw [if_neg (by omega), if_neg (by omega), if_pos h]
/-- what two readers make of the same -/
def JO (T : Nat → Nat) (L o wl : Nat) (x1 turn turn' : Int32) (i c b n m : Nat) (P : List (Nat × Nat)) (lim : Nat → Prop) (ok : (sp_E → Option Int32) → Prop) (endc : Nat → Prop) (Mc Mr : az_M) (res : Option (Int32 × az_M)) : Prop :=
  (∃ Mc' j Mr' K, res = some (0, Mc') ∧ Mc'.1 15 4 = nI j ∧ j ≤ 400 ∧ cFr n Mc Mc' ∧ (∀ F, f_X12_readExpression_20 sp_G (F + K) x1 turn Mr = some Mr') ∧ K ≤ 2 * (L - i) + 8 ∧ rBad j Mr Mr')
  ∨ (∃ Mc' i' c' n' φ Mr' m' q K, res = some (1, Mc') ∧ CSt T L o i' c' b n' Mc' ∧ cFr n Mc Mc' ∧ ((i < i' ∧ n' + i ≤ n + i') ∧ c < c' ∧ endc i' ∧ ok φ) ∧ cSeg wl (Mc'.1 17) n n' (c' - c) φ ∧ (∀ F, f_X12_readExpression_20 sp_G (F + K) x1 turn Mr = f_X12_readExpression_20 sp_G F x1 turn' Mr') ∧ (K ≤ 2 * (i' - i) ∧ m ≤ m') ∧ RSt T L o i' c' b m' (q ++ P) Mr' ∧ rFr m Mr Mr' ∧ (∀ x, x ∈ q → lim x.1) ∧ rSeg o (stl q (Mr'.1 51, Mr'.1 52, m')).1 (stl q (Mr'.1 51, Mr'.1 52, m')).2.1 m (stl q (Mr'.1 51, Mr'.1 52, m')).2.2 (c' - c) φ)
def sok (wl : Nat) (φ : sp_E → Option Int32) : Prop := ∀ (e : sp_E) v, (∀ j, j < wl → -1000000000 ≤ (e j).toInt ∧ (e j).toInt ≤ 1000000000) → φ e = some v → -1000000000 ≤ v.toInt ∧ v.toInt ≤ 1000000000
def eSum (T : Nat → Nat) (L i : Nat) : Prop := ¬ sg T L i 43 ∧ ¬ sg T L i 45 ∧ ¬ sg T L i 42 ∧ ¬ sg T L i 47 ∧ ¬ sg T L i 37
def arith (op : Nat) : Prop := 20 ≤ op ∧ op ≤ 24
theorem r_turn1 {F : Nat} {x1 : Int32} {M : az_M} (h : M.1 40 19 = 0) : f_X12_readExpression_20 sp_G (F + 1) x1 1 M = (f_X12_readPart sp_G M).bind fun q => f_X12_readExpression_20 sp_G F x1 q.1 q.2 := by
  rw [f_X12_readExpression_20, if_pos h, if_neg (by decide), if_neg (by decide), if_pos rfl]; rfl
theorem r_turn3 {F : Nat} {x1 : Int32} {M : az_M} (h : M.1 40 19 = 0) : f_X12_readExpression_20 sp_G (F + 1) x1 3 M = (f_X12_behindSum sp_G x1 M).bind fun q => f_X12_readExpression_20 sp_G F x1 q.1 q.2 := by
  rw [f_X12_readExpression_20, if_pos h, if_neg (by decide), if_neg (by decide), if_neg (by decide), if_pos rfl]; rfl
theorem bad19 {M : az_M} {j : Nat} : ¬ (badM M j).1 40 19 = 0 := by unfold badM; rw [gi, if_pos rfl, if_neg (by decide), gi, if_pos rfl, if_pos rfl]; decide
/-- a part that isn't one: the reference -/
theorem r_partBad {T : Nat → Nat} {L o i c b m : Nat} {P : List (Nat × Nat)} {M : az_M} (hL : L ≤ 400) (h255 : ∀ i, T i ≤ 255) (ho : o ≤ 1) (h : RSt T L o i c b m P M) (hb : ¬ sg T L i 91) (hbad : c = 50 ∨ (¬ (tkd T L i = 2 ∧ numC T L i ≤ 1000) ∧ wx T L i (if o = 0 then 10 else 9) = -1)) : ∃ t, f_X12_readPart sp_G M = some (t, badM M i) := by
  have kl := tkd_le T L i
  have e91 : f_X12_isSign 91 M = _ := p_signR (c := 91) h255 h.1.2 (by decide)
  have nr := num_rel T L (L - i) i 0 0 (Or.inl rfl)
  have nb := numR_le T L i h255
  have lf : ∀ p0 p1 p2, (p0 = 0 ∨ c = 50) → f_X12_leaf sp_G p0 p1 p2 M = some (badM M i) := by
    intro p0 p1 p2 hp
    unfold f_X12_leaf f_X12_leaf_18 f_X12_leaf_19 f_X12_leaf_45
    rw [h.2.1.2.2.1, h.mustBad, Option.bind_some, if_neg bad19]
    by_cases h0 : p0 = 0
    · rw [if_pos h0]
    · rw [if_neg h0, if_pos (by rw [hp.resolve_left h0]; decide)]
  have fin : ∀ (x1 x2 s0 s1 : Int32) (s2 : Int32), (s2 = 0 ∨ c = 50) → f_X12_readPart_99 sp_G x1 s0 s1 s2 M = some (3, badM M i) := by
    intro x1 x2 s0 s1 s2 hs
    unfold f_X12_readPart_99 f_X12_readPart_155
    rw [lf s2 s1 s0 hs, Option.bind_some]
    by_cases a1 : (badM M i).1 40 20 = 0
    · rw [if_pos a1]
    · rw [if_neg a1]
      by_cases a2 : x1 < 7
      · rw [if_pos a2]
      · rw [if_neg a2, if_neg bad19]
  have e86 : ∀ x1 x2 s0 s1, (s1 = 0 ∨ c = 50) → f_X12_readPart_86 sp_G x1 x2 s0 s1 M = some (3, badM M i) := by
    intro x1 x2 s0 s1 hs
    unfold f_X12_readPart_86
    by_cases a1 : x2 = 0
    · rw [if_pos a1]; exact fin _ 0 _ _ _ hs
    · rw [if_neg a1]; exact fin _ 0 _ _ _ hs
  have e76 : ∀ x1 x2 s0, (s0 = 0 ∨ c = 50) → f_X12_readPart_76 sp_G x1 x2 s0 M = some (3, badM M i) := by
    intro x1 x2 s0 hs
    unfold f_X12_readPart_76
    by_cases a1 : x1 = -1
    · rw [if_pos a1]; exact e86 _ _ _ _ hs
    · rw [if_neg a1]; exact e86 _ _ _ _ hs
  have e35 : ∀ w, (c = 50 ∨ w = -1) → f_X12_readPart_35 sp_G w M = some (3, badM M i) := by
    intro w hw
    unfold f_X12_readPart_35 f_X12_readPart_59 f_X12_readPart_60 f_X12_readPart_71
    rw [h.1.2.1]
    have z0 : (if w = -1 then (if (0 : Int32) = 0 then f_X12_readPart_76 sp_G w 0 0 M else f_X12_readPart_76 sp_G w 0 1 M) else f_X12_readPart_76 sp_G w 0 1 M) = some (3, badM M i) := by
      by_cases a1 : w = -1
      · rw [if_pos a1, if_pos rfl]; exact e76 _ _ _ (Or.inl rfl)
      · rw [if_neg a1]; exact e76 _ _ _ (Or.inr (hw.resolve_right a1))
    by_cases h2 : tkd T L i = 2
    · rw [if_pos (by rw [h2]; rfl), h.1.2.2.2.2, worth_num h2]
      by_cases hn : 1000 < tnum T L 1000000 (L - i) i 0
      · rw [if_pos (show (1000 : Int64) < _ from (lN_lt (a := 1000) (by decide) (by omega)).mpr hn)]; exact z0
      · have hc : c = 50 := by
          rcases hbad with e | e
          · exact e
          · exfalso
            refine e.1 ⟨h2, ?_⟩
            unfold numC
            omega
        rw [if_neg (show ¬ (1000 : Int64) < _ from fun e => hn ((lN_lt (a := 1000) (by decide) (by omega)).mp e))]
        by_cases a1 : w = -1
        · rw [if_pos a1, if_neg (by decide)]; exact e76 _ _ _ (Or.inr hc)
        · rw [if_neg a1]; exact e76 _ _ _ (Or.inr hc)
    · rw [if_neg (by rw [show (2 : Int32) = nI 2 from rfl, n_eq (by omega) (by omega)]; exact h2)]; exact z0
  refine ⟨3, ?_⟩
  unfold f_X12_readPart
  rw [e91, Option.bind_some, if_neg hb, if_pos rfl, h.2.1.1]
  rcases (show o = 0 ∨ o = 1 by omega) with rfl | rfl
  · rw [if_pos (show nI 0 = 0 from rfl), p_partAt h.1.2 h.2.2.2.2, Option.bind_some]
    refine e35 _ ?_
    rcases hbad with e | e
    · exact Or.inl e
    · right; rw [if_pos rfl] at e; rw [if_pos e.2]
  · rw [if_neg (by decide), p_orderPartAt h.1.2 h.2.2.2.2, Option.bind_some]
    refine e35 _ ?_
    rcases hbad with e | e
    · exact Or.inl e
    · right; rw [if_neg (by decide)] at e; rw [if_pos e.2]
