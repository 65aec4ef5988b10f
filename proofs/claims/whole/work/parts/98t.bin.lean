/-! BOTH READERS: terms and sums -/
theorem RSt.pushNext {T : Nat → Nat} {L o i c b m : Nat} {P : List (Nat × Nat)} {M : az_M} (hL : L ≤ 400) (h255 : ∀ i, T i ≤ 255) (h : RSt T L o i c b m P M) (hk : tkd T L i ≠ 0) (op at' : Nat) (hop : op ≤ 32) (hat : at' < 400) : ∃ M1 M', f_X12_push (nI op) (nI at') M = some M1 ∧ f_X12_next sp_G M1 = some M' ∧ RSt T L o (tnx T L i) c b m ((op, at') :: P) M' ∧ rFr m M M' ∧ M'.1 51 = M.1 51 ∧ M'.1 52 = M.1 52 := by
  obtain ⟨⟨h1, h2⟩, ⟨k1, k2, k3, k4, k5, k6⟩, ⟨p1, p2⟩, ⟨b1, b2, b3, b4⟩, rw⟩ := h
  have tl := tnx_lt hk
  obtain ⟨M1, a1, a2, a3, a4, a5, a6⟩ := p_push k6 (by omega) p1 op at'
  have fr : rFr m M M1 := ⟨fun k a _ _ b c => a4 k a b c, fun j _ _ _ _ _ _ _ a _ => a5 j a, fun k _ => by rw [a6], fun j _ => by rw [a6], by rw [a6], fun j _ => by rw [a4 51 (by decide) (by decide) (by decide), a4 52 (by decide) (by decide) (by decide)]; exact ⟨rfl, rfl⟩⟩
  obtain ⟨M', c1, c2, c3⟩ := r_next hL h255 (h1.fr fr) (tto_le (T := T) b1).2 (by rw [a5 15 (by decide)]; exact h2.2.2.1)
  have fj := fun j (x : j ≠ 14) (y : j ≠ 15) (z : j ≠ 16) => c3.2.1 j x y z
  refine ⟨M1, M', a1, c1, ⟨⟨(h1.fr fr).rF c3, c2⟩, ⟨?_, ?_, ?_, ?_, ?_, ?_⟩, ⟨a2.cong fun j _ => ?_, ?_⟩, ⟨tl.2, by rw [List.length_cons]; omega, b3, b4⟩, (rw.fr fr).fr (c3.fr 0)⟩, fr.trans (c3.fr m), by rw [c3.1 51 (by decide), a4 51 (by decide) (by decide) (by decide)], by rw [c3.1 52 (by decide), a4 52 (by decide) (by decide) (by decide)]⟩
  · rw [fj 20 (by decide) (by decide) (by decide), a5 20 (by decide)]; exact k1
  · rw [fj 19 (by decide) (by decide) (by decide), a5 19 (by decide)]; exact k2
  · rw [fj 26 (by decide) (by decide) (by decide), a5 26 (by decide)]; exact k3
  · rw [fj 30 (by decide) (by decide) (by decide), a5 30 (by decide)]; exact k4
  · rw [fj 23 (by decide) (by decide) (by decide), a5 23 (by decide)]; exact k5
  · rw [fj 29 (by decide) (by decide) (by decide), a3, List.length_cons]
  · rw [c3.1 53 (by decide), c3.1 54 (by decide)]; exact ⟨rfl, rfl⟩
  · intro x hx
    rcases List.mem_cons.mp hx with e | e
    · rw [e]; exact ⟨hop, hat⟩
    · exact p2 x e
theorem sok_cj {wl o : Nat} {φ ψ : sp_E → Option Int32} : sok wl (cj o φ ψ) := by
  intro e v _ hv
  unfold cj at hv
  obtain ⟨a, ha, hv⟩ := Option.bind_eq_some_iff.mp hv
  obtain ⟨b, hb, hv⟩ := Option.bind_eq_some_iff.mp hv
  unfold jn at hv
  obtain ⟨q, hq, hv⟩ := Option.bind_eq_some_iff.mp hv
  by_cases c1 : 1000000000 < q
  · rw [if_pos c1] at hv; cases hv
  · rw [if_neg c1] at hv
    by_cases c2 : (-1000000000) ≤ q
    · rw [if_pos c2] at hv
      injection hv with hv
      have := congrArg Int64.toInt (l_rt c1 c2)
      rw [Int32.toInt_toInt64, hv] at this
      rw [Int64.lt_iff_toInt_lt] at c1
      rw [Int64.le_iff_toInt_le] at c2
      have e1 : (1000000000 : Int64).toInt = 1000000000 := rfl
      have e2 : (-1000000000 : Int64).toInt = -1000000000 := rfl
      omega
    · rw [if_neg c2] at hv; cases hv
/-- both readers, on the way -/
def JK (T : Nat → Nat) (L o wl : Nat) (x1 turn turn' : Int32) (i0 c0 b n m : Nat) (P : List (Nat × Nat)) (lim : Nat → Prop) (ok : (sp_E → Option Int32) → Prop) (Mc0 Mr0 Mc : az_M) (i c n' : Nat) (φ : sp_E → Option Int32) : Prop :=
  CSt T L o i c b n' Mc ∧ cFr n Mc0 Mc ∧ ((i0 < i ∧ n' + i0 ≤ n + i) ∧ c0 < c ∧ ok φ) ∧ cSeg wl (Mc.1 17) n n' (c - c0) φ ∧ ∃ Mr' m' q K, (∀ F, f_X12_readExpression_20 sp_G (F + K) x1 turn Mr0 = f_X12_readExpression_20 sp_G F x1 turn' Mr') ∧ (K ≤ 2 * (i - i0) ∧ m ≤ m') ∧ RSt T L o i c b m' (q ++ P) Mr' ∧ rFr m Mr0 Mr' ∧ (∀ x, x ∈ q → lim x.1) ∧ rSeg o (stl q (Mr'.1 51, Mr'.1 52, m')).1 (stl q (Mr'.1 51, Mr'.1 52, m')).2.1 m (stl q (Mr'.1 51, Mr'.1 52, m')).2.2 (c - c0) φ
theorem JO.of {T : Nat → Nat} {L o wl : Nat} {x1 turn turn' : Int32} {i c b n m : Nat} {P : List (Nat × Nat)} {lim : Nat → Prop} {ok : (sp_E → Option Int32) → Prop} {endc : Nat → Prop} {Mc Mr : az_M} {res : Option (Int32 × az_M)} (h : JO T L o wl x1 turn turn' i c b n m P lim ok endc Mc Mr res) : (∃ Mc' j Mr' K, res = some (0, Mc') ∧ Mc'.1 15 4 = nI j ∧ j ≤ 400 ∧ cFr n Mc Mc' ∧ (∀ F, f_X12_readExpression_20 sp_G (F + K) x1 turn Mr = some Mr') ∧ K ≤ 2 * (L - i) + 8 ∧ rBad j Mr Mr') ∨ ∃ Mc' i' c' n' φ, res = some (1, Mc') ∧ endc i' ∧ JK T L o wl x1 turn turn' i c b n m P lim ok Mc Mr Mc' i' c' n' φ := by
  rcases h with h | ⟨Mc', i', c', n', φ, Mr', m', q, K, e1, e2, e3, ⟨e4, e5, e6, e7⟩, e8, g1, g2, g3, g4, g5, g6⟩
  · exact Or.inl h
  · exact Or.inr ⟨Mc', i', c', n', φ, e1, e6, e2, e3, ⟨e4, e5, e7⟩, e8, Mr', m', q, K, g1, g2, g3, g4, g5, g6⟩
theorem JK.to {T : Nat → Nat} {L o wl : Nat} {x1 turn turn' : Int32} {i0 c0 b n m : Nat} {P : List (Nat × Nat)} {lim : Nat → Prop} {ok : (sp_E → Option Int32) → Prop} {endc : Nat → Prop} {Mc0 Mr0 Mc : az_M} {i c n' : Nat} {φ : sp_E → Option Int32} (h : JK T L o wl x1 turn turn' i0 c0 b n m P lim ok Mc0 Mr0 Mc i c n' φ) (he : endc i) : JO T L o wl x1 turn turn' i0 c0 b n m P lim ok endc Mc0 Mr0 (some (1, Mc)) := by
  obtain ⟨a, b, ⟨c1, c2, c3⟩, d, Mr', m', q, K, g⟩ := h
  exact Or.inr ⟨Mc, i, c, n', φ, Mr', m', q, K, rfl, a, b, ⟨c1, c2, he, c3⟩, d, g⟩
/-- one more of a row of operations -/
theorem j_bin {T : Nat → Nat} {L o i0 c0 b n m op lam : Nat} {P : List (Nat × Nat)} {Z : az_S × Nat} {x1 turn : Int32} {lim lim0 : Nat → Prop} {endc0 : Nat → Prop} {Mc0 Mr0 Mc : az_M} {i c n' : Nat} {φ : sp_E → Option Int32} {sub : az_M → Option (Int32 × az_M)} (hL : L ≤ 400) (h255 : ∀ i, T i ≤ 255) (hZ : Z.1.2 17 = 400) (ho : o ≤ 1) (hop : 2 ≤ op ∧ op ≤ 6) (hlam : bd (op + 18) = lam) (hl1 : 5 ≤ lam) (hlim : ∀ x, lim x → lam ≤ bd x ∧ x ≠ 29 ∧ x ≠ 30) (hl0 : ∀ x, lim0 x → lim x) (hlop : lim (op + 18)) (hP : P = [] ∨ ∃ x P', P = x :: P' ∧ bd x.1 < lam)
    (hsub : ∀ (i c n m : Nat) (Mc Mr : az_M), CSt T L o i c b n Mc → RSt T L o i c b m ((op + 18, 0) :: P) Mr → JO T L o (WL o) x1 1 3 i c b n m ((op + 18, 0) :: P) lim0 (sok (WL o)) endc0 Mc Mr (sub Mc))
    (hk : tkd T L i ≠ 0) (hbs : ∀ M, tokR T L i M → f_X12_behindSum sp_G x1 M = f_X12_behindSum_71 sp_G x1 (nI (op + 18)) M) (h : JK T L o (WL o) x1 turn 3 i0 c0 b n m P lim (sok (WL o)) Mc0 Mr0 Mc i c n' φ) :
    ∃ Mc1, f_X5_nextToken sp_G Mc = some Mc1 ∧ ((∃ Mc' , sub Mc1 = some (0, Mc') ∧ ∃ j Mr' K, Mc'.1 15 4 = nI j ∧ j ≤ 400 ∧ cFr n Mc0 Mc' ∧ (∀ F, f_X12_readExpression_20 sp_G (F + K) x1 turn Mr0 = some Mr') ∧ K ≤ 2 * (L - i0) + 8 ∧ rBad j Mr0 Mr') ∨ ∃ Mc2 Mc3 i2 c2 n2 φ2, sub Mc1 = some (1, Mc2) ∧ f_X10_addStep Z 16 (nI op) 0 Mc2 = some Mc3 ∧ i < i2 ∧ endc0 i2 ∧ JK T L o (WL o) x1 turn 3 i0 c0 b n m P lim (sok (WL o)) Mc0 Mr0 Mc3 i2 c2 n2 φ2) := by
  obtain ⟨hC, fC, ⟨⟨hi0, hin0⟩, hc0, hok⟩, sC, Mr', m', q, K, g1, ⟨gK, gm⟩, g3, g4, g5, g6⟩ := h
  have tl := tnx_lt hk
  obtain ⟨Mc1, c1, c2, c3⟩ := hC.next hL h255
  refine ⟨Mc1, c1, ?_⟩
  obtain ⟨Mr2, m2, t1, t2, t3, t4, t5⟩ := g3.settle hL lam m (by have := bd_le (op + 18); omega) (fun x hx => (hlim _ (g5 x hx)).1) hP (fun x hx e => by have := hlim _ (g5 x hx); omega) gm
  obtain ⟨Mr3, Mr4, u1, u2, u3, u4, u5, u6⟩ := t2.pushNext hL h255 hk (op + 18) 0 (by omega) (by decide)
  have step : ∀ F, f_X12_readExpression_20 sp_G (F + (K + 1)) x1 turn Mr0 = f_X12_readExpression_20 sp_G F x1 1 Mr4 := by
    intro F
    rw [show F + (K + 1) = (F + 1) + K by omega, g1 (F + 1), r_turn3 g3.2.1.2.1, hbs Mr' g3.1.2]
    unfold f_X12_behindSum_71
    rw [if_neg (by rw [n_nm1 (by omega)]; exact not_false), p_binds (by omega), hlam, Option.bind_some, t1, Option.bind_some, show f_X12_push (nI (op + 18)) 0 Mr2 = some Mr3 from u1, Option.bind_some, u2]
    rfl
  have hm2 : m ≤ m2 := by
    have h1 : m2 = (stl q (Mr'.1 51, Mr'.1 52, m')).2.2 := congrArg (fun S : rC => S.2.2) t3
    have h2 := (stl_le q (Mr'.1 51, Mr'.1 52, m')).1
    rw [h1]; exact Nat.le_trans gm h2
  have f04 : rFr m Mr0 Mr4 := g4.trans (t4.trans (u4.mono hm2))
  rw [← t3] at g6
  have sR1 : rSeg o (Mr4.1 51) (Mr4.1 52) m m2 (c - c0) φ := by rw [u5, u6]; exact g6
  have fC1 : cFr n' Mc Mc1 := c3.fr n'
  have hnn := sC.1
  rcases (hsub (tnx T L i) c n' m2 Mc1 Mr4 c2 u3).of with ⟨Mc', j, Mr5, K', e1, e2, e3, e4, e5, e6, e7⟩ | ⟨Mc2, i2, cc2, n2, φ2, e1, e2, e3, e4, ⟨⟨e5, e5n⟩, e6, e7⟩, e8, Mr5, m5, q5, K', w1, ⟨w2, w3⟩, w4, w5, w6, w7⟩
  · exact Or.inl ⟨Mc', e1, j, Mr5, K' + (K + 1), e2, e3, fC.trans ((fC1.trans e4).mono (by omega)), fun F => by rw [show F + (K' + (K + 1)) = (F + K') + (K + 1) by omega, step, e5 F], by omega, e7.1, e7.2.1, f04.tB e7.2.2⟩
  · have hn2 := e8.1
    have hni := hC.2.2.2.1
    obtain ⟨Mc3, a1, a2, a3, a4⟩ := c_add (s := op) (w := 0) hZ hL e3 (by omega) (by omega) (by omega)
    have f13 : ∀ j, j < n' → Mc3.1 17 j = Mc.1 17 j := fun j hj => by rw [a3.2.2.1 j (by omega), e4.2.2.1 j hj, fC1.2.2.1 j hj]
    have s1 : cSeg (WL o) (Mc3.1 17) n n' (c - c0) φ := sC.cong (fun j _ hj => f13 j hj)
    have s2 : cSeg (WL o) (Mc3.1 17) n' n2 (cc2 - c) φ2 := e8.cong (fun j _ hj => a3.2.2.1 j hj)
    have s3 : cSeg (WL o) (Mc3.1 17) n (n2 + 1) (c - c0 + (cc2 - c)) (cj op φ φ2) := cSeg_op (w := 0) s1 s2 ⟨hop.1, by omega⟩ (by rw [a4, up_eq]) (by omega)
    rw [show c - c0 + (cc2 - c) = cc2 - c0 by omega] at s3
    have fall : cFr n Mc0 Mc3 := fC.trans ((fC1.trans (e4.trans (a3.mono (by omega)))).mono (by omega))
    refine Or.inr ⟨Mc2, Mc3, i2, cc2, n2 + 1, cj op φ φ2, e1, a1, by omega, e2, a2, fall, ⟨⟨by omega, by omega⟩, by omega, sok_cj⟩, s3, Mr5, m5, q5 ++ [(op + 18, 0)], K' + (K + 1), fun F => by rw [show F + (K' + (K + 1)) = (F + K') + (K + 1) by omega, step, w1 F], ⟨by omega, by omega⟩, by rw [List.append_assoc]; exact w4, f04.trans (w5.mono hm2), fun x hx => ?_, ?_⟩
    · rcases List.mem_append.mp hx with hx | hx
      · exact hl0 _ (w6 x hx)
      · rw [List.mem_singleton.mp hx]; exact hlop
    · rw [stl_app]
      generalize hS : stl q5 (Mr5.1 51, Mr5.1 52, m5) = S at w7
      have e29 : ¬ (op + 18 = 29 ∨ op + 18 = 30) := by omega
      have est : stl [(op + 18, 0)] S = (up S.1 S.2.2 (nI (op + 18)), up S.2.1 S.2.2 0, S.2.2 + 1) := by
        show st1 (op + 18, 0) S = _
        unfold st1; rw [if_neg e29]
      rw [est]
      have low : ∀ (q : List (Nat × Nat)) (X : rC), m2 ≤ X.2.2 → (∀ x, x ∈ q → x.1 ≠ 29 ∧ x.1 ≠ 30) → ∀ j, j < m2 → (stl q X).1 j = X.1 j ∧ (stl q X).2.1 j = X.2.1 j := by
        intro q
        induction q with
        | nil => intro X _ _ j _; exact ⟨rfl, rfl⟩
        | cons x q ih =>
          intro X hX hx j hj
          have z1 := st1_le x X
          have z2 := hx x List.mem_cons_self
          obtain ⟨y1, y2⟩ := ih (st1 x X) (by omega) (fun z hz => hx z (List.mem_cons_of_mem _ hz)) j hj
          rw [stl, y1, y2]
          unfold st1
          rw [if_neg (by omega)]; exact ⟨up_ne (by omega), up_ne (by omega)⟩
      have lw := low q5 (Mr5.1 51, Mr5.1 52, m5) w3 (fun x hx => (hlim _ (hl0 _ (w6 x hx))).2)
      rw [hS] at lw
      have r1 : rSeg o (up S.1 S.2.2 (nI (op + 18))) (up S.2.1 S.2.2 0) m m2 (c - c0) φ := sR1.cong (fun j _ hj => by
        have := w7.1
        rw [up_ne (by omega), up_ne (by omega), (lw j hj).1, (lw j hj).2]
        exact ⟨(w5.2.2.2.2.2 j hj).1, (w5.2.2.2.2.2 j hj).2⟩)
      have r2 : rSeg o (up S.1 S.2.2 (nI (op + 18))) (up S.2.1 S.2.2 0) m2 S.2.2 (cc2 - c) φ2 := w7.cong (fun j _ hj => ⟨up_ne (by omega), up_ne (by omega)⟩)
      have r3 := rSeg_op (q := op) ho r1 r2 ⟨hop.1, by omega⟩ (up_eq _ _ _)
      rw [show c - c0 + (cc2 - c) = cc2 - c0 by omega] at r3
      exact r3
