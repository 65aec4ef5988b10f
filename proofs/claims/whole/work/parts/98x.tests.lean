/-! BOTH READERS: and, or; whole tests -/
theorem is01_ca {o : Nat} {φ ψ : sp_E → Option Int32} (h : is01 φ) (g : is01 ψ) : is01 (ca o φ ψ) := by
  intro e v hv
  unfold ca at hv
  obtain ⟨a, ha, hv⟩ := Option.bind_eq_some_iff.mp hv
  by_cases hs : a = (if o = 11 then 1 else 0)
  · rw [if_pos hs] at hv
    injection hv with hv
    rw [← hv]; exact h e a ha
  · rw [if_neg hs] at hv; exact g e v hv
theorem tnx_two {T : Nat → Nat} {L i : Nat} (h1 : tkd T L i = 1) (hw : 2 ≤ (tw T L i).length) : i + 2 ≤ tnx T L i := by
  have hl := tkd_lt (T := T) (L := L) (p := i) (by omega)
  have h2 : tkd T L (i + 1) = 1 := by
    unfold tw at hw
    rw [show L - i = (L - i - 1) + 1 by omega, twb, if_pos h1, List.length_cons] at hw
    cases he : L - i - 1 with
    | zero => rw [he, twb] at hw; exact absurd hw (by decide)
    | succ e =>
      rw [he, twb] at hw
      by_cases h2 : tkd T L (i + 1) = 1
      · exact h2
      · rw [if_neg h2] at hw; exact absurd hw (by decide)
  have hl2 := tkd_lt (T := T) (L := L) (p := i + 1) (by omega)
  have e : tto T L i = ten T L 1 (L - (i + 2)) (i + 2) := by
    unfold tto
    rw [h1, if_neg (by decide), if_neg (by decide), ten_step h1 (by decide), ten_step h2 (by decide)]
  have a := ten_le T L 1 (by decide) (L - (i + 2)) (i + 2) (by omega)
  have b := tsk_le T L (L - tto T L i) (tto T L i) (by rw [e]; exact a.2)
  unfold tnx
  rw [e] at b ⊢
  omega
theorem wx_two {T : Nat → Nat} {L i a : Nat} (ha : a = 6 ∨ a = 7) (h : wx T L i a ≠ -1) : tkd T L i = 1 ∧ i + 2 ≤ tnx T L i := by
  rcases wx_cases T L i a (by omega) with ⟨e, -⟩ | ⟨j, h1, h2, h3, -⟩
  · exact absurd e h
  · refine ⟨h2, tnx_two h2 ?_⟩
    rcases ha with rfl | rfl
    · rw [show j = 0 from by have : j < 1 := h1; omega] at h3
      injection h3 with h3
      rw [← h3]; decide
    · rw [show j = 0 from by have : j < 1 := h1; omega] at h3
      injection h3 with h3
      rw [← h3]; decide
theorem c_addN {Z : az_S × Nat} (hZ : Z.1.2 17 = 400) {T : Nat → Nat} {L o i c b n s : Nat} {M : az_M} (hL : L ≤ 400) (h255 : ∀ i, T i ≤ 255) (h : CSt T L o i c b n M) (hk : tkd T L i ≠ 0) (hs : s < 16) : ∃ M1 M', f_X10_addStep Z 16 (nI s) 0 M = some M1 ∧ f_X5_nextToken sp_G M1 = some M' ∧ CSt T L o (tnx T L i) c b (n + 1) M' ∧ cFr n M M' := by
  obtain ⟨⟨h1, h2⟩, ⟨k1, k2, k3, k4⟩, b1, b2, b3, b4⟩ := h
  have tl := tnx_lt hk
  have hv : ((0 : Int32) <<< (4 &&& 31)) ||| nI s = nI (0 * 16 + s) := by
    rw [show (0 : Int32) = nI 0 from rfl, show (4 : Int32) = nI 4 from rfl, c_shl 0 (by decide), c_or (s := 4) (by omega)]
  have e16 : (az_i M 17 n (nI (0 * 16 + s))).1 16 2 + 1 = nI (n + 1) := by rw [gi_k (by decide), k4]; exact (nI_succ n).symm
  obtain ⟨X, hX⟩ : ∃ X, X = az_i (az_i M 17 n (nI (0 * 16 + s))) 16 2 (nI (n + 1)) := ⟨_, rfl⟩
  have xk : ∀ k, k ≠ 16 → k ≠ 17 → X.1 k = M.1 k := fun k a b => by rw [hX, gi_k a, gi_k b]
  have x2 : X.1 16 2 = nI (n + 1) := by rw [hX, gi, if_pos rfl, if_pos rfl]
  have h1' : Tc T L X := h1.cF (fun k hk => xk k (by omega) (by omega))
  have h2' : tokC T L i X := by unfold tokC; rw [xk 15 (by decide) (by decide)]; exact h2
  have fX : cFr n M X := ⟨fun k _ a b => xk k a b, fun j hj => by rw [hX, gi, if_pos rfl, if_neg hj, gi_k (by decide)], fun j hj => by rw [hX, gi_k (by decide), gi, if_pos rfl, if_neg (by omega)], by rw [xk 15 (by decide) (by decide)], by rw [hX]; rfl⟩
  obtain ⟨M', a1, a2, a3⟩ := c_next hL h255 h1' (tto_le (T := T) b1).2 h2'.2.2.1
  have fj := fun j (x : j ≠ 3) (y : j ≠ 4) (z : j ≠ 5) (w : j ≠ 6) => a3.2.1 j x y z w
  refine ⟨X, M', ?_, a1, ⟨⟨h1'.cF (fun k hk => a3.1 k (by omega)), a2⟩, ⟨?_, ?_, ?_, by rw [a3.1 16 (by decide)]; exact x2⟩, tl.2, by omega, b3, b4⟩, fX.trans (a3.fr n)⟩
  · unfold f_X10_addStep f_X10_addStep_36
    rw [k4, show Int32.ofNat (Z.1.2 (16 + 1)) = nI (Z.1.2 17) from rfl, hZ, if_neg (by rw [n_le (by omega) (by omega)]; omega), n_cl (by omega), if_neg (nIn (by omega) (by omega)), hv, show (16 + 1 : Nat) = 17 from rfl, e16, hX]
  · rw [fj 2 (by decide) (by decide) (by decide) (by decide), xk 15 (by decide) (by decide)]; exact k1
  · rw [fj 7 (by decide) (by decide) (by decide) (by decide), xk 15 (by decide) (by decide)]; exact k2
  · rw [fj 8 (by decide) (by decide) (by decide) (by decide), xk 15 (by decide) (by decide)]; exact k3
/-- the class aims a jump -/
theorem c_aim {T : Nat → Nat} {L o i c b n n' op : Nat} {M : az_M} (hL : L ≤ 400) (h : CSt T L o i c b n M) (hn : n' < n) (hop : op < 16) : ∃ M', f_X5_aimJump (nI n') (nI op) M = some M' ∧ CSt T L o i c b n M' ∧ cFr n' M M' ∧ M'.1 17 = up (M.1 17) n' (nI (n * 16 + op)) := by
  obtain ⟨⟨h1, h2⟩, ⟨k1, k2, k3, k4⟩, b1, b2, b3, b4⟩ := h
  have hv : (nI n <<< (4 &&& 31)) ||| nI op = nI (n * 16 + op) := by
    rw [show (4 : Int32) = nI 4 from rfl, c_shl n (by decide), c_or (s := 4) (by omega)]; exact congrArg nI (by show 2 ^ 4 * n + op = _; omega)
  refine ⟨az_i M 17 n' (nI (n * 16 + op)), ?_, ⟨⟨h1.cF (fun k hk => by rw [gi_k (by omega)]), by unfold tokC; rw [gi_k (by decide)]; exact h2⟩, ⟨by rw [gi_k (by decide)]; exact k1, by rw [gi_k (by decide)]; exact k2, by rw [gi_k (by decide)]; exact k3, by rw [gi_k (by decide)]; exact k4⟩, b1, b2, b3, b4⟩, ⟨fun k _ _ a => gi_k a, fun j _ => by rw [gi_k (by decide)], fun j hj => by rw [gi, if_pos rfl, if_neg (by omega)], by rw [gi_k (by decide)], rfl⟩, by rw [az_i_ro, ro_eq]⟩
  unfold f_X5_aimJump f_X5_aimJump_31
  rw [k4, if_neg (by rw [n_le (by omega) (by omega)]; omega), n_cl (by omega), if_neg (nIn (by omega) (by omega)), hv]
theorem RSt.jmp {T : Nat → Nat} {L o i c b m : Nat} {P : List (Nat × Nat)} {M : az_M} (hL : L ≤ 400) (h255 : ∀ i, T i ≤ 255) (h : RSt T L o i c b m P M) (hk : tkd T L i ≠ 0) (h2i : i + 2 ≤ tnx T L i) (op : Nat) (hop : op ≤ 32) : ∃ M1 M2 M', f_X12_push (nI op) (nI m) M = some M1 ∧ f_X12_emit (nI op) 0 M1 = some M2 ∧ f_X12_next sp_G M2 = some M' ∧ RSt T L o (tnx T L i) c b (m + 1) ((op, m) :: P) M' ∧ rFr m M M' ∧ M'.1 51 = up (M.1 51) m (nI op) ∧ M'.1 52 = up (M.1 52) m 0 := by
  obtain ⟨⟨h1, h2⟩, ⟨k1, k2, k3, k4, k5, k6⟩, ⟨p1, p2⟩, ⟨b1, b2, b3, b4⟩, rw⟩ := h
  have tl := tnx_lt hk
  obtain ⟨M1, a1, a2, a3, a4, a5, a6⟩ := p_push k6 (by omega) p1 op m
  obtain ⟨M2, e1, e2, e3, e4, e5, e6, e7⟩ := p_emit (M := M1) (m := m) (by rw [a5 23 (by decide)]; exact k5) (by omega) (nI op) 0
  have fr : rFr m M M2 := ⟨fun k a b c d e => by rw [e5 k a b c, a4 k a d e], fun j _ _ _ _ _ x _ y _ => by rw [e6 j x, a5 j y], fun k _ => by rw [e7, a6], fun j _ => by rw [e7, a6], by rw [e7, a6], fun j hj => by rw [e2, e3, up_ne (by omega), up_ne (by omega), a4 51 (by decide) (by decide) (by decide), a4 52 (by decide) (by decide) (by decide)]; exact ⟨rfl, rfl⟩⟩
  obtain ⟨M', c1, c2, c3⟩ := r_next hL h255 (h1.fr fr) (tto_le (T := T) b1).2 (by rw [e6 15 (by decide), a5 15 (by decide)]; exact h2.2.2.1)
  have fj := fun j (x : j ≠ 14) (y : j ≠ 15) (z : j ≠ 16) => c3.2.1 j x y z
  refine ⟨M1, M2, M', a1, e1, c1, ⟨⟨(h1.fr fr).rF c3, c2⟩, ⟨?_, ?_, ?_, ?_, ?_, ?_⟩, ⟨a2.cong fun j _ => ?_, ?_⟩, ⟨tl.2, by rw [List.length_cons]; omega, b3, b4⟩, (rw.fr fr).fr (c3.fr 0)⟩, fr.trans (c3.fr m), by rw [c3.1 51 (by decide), e2, a4 51 (by decide) (by decide) (by decide)], by rw [c3.1 52 (by decide), e3, a4 52 (by decide) (by decide) (by decide)]⟩
  · rw [fj 20 (by decide) (by decide) (by decide), e6 20 (by decide), a5 20 (by decide)]; exact k1
  · rw [fj 19 (by decide) (by decide) (by decide), e6 19 (by decide), a5 19 (by decide)]; exact k2
  · rw [fj 26 (by decide) (by decide) (by decide), e6 26 (by decide), a5 26 (by decide)]; exact k3
  · rw [fj 30 (by decide) (by decide) (by decide), e6 30 (by decide), a5 30 (by decide)]; exact k4
  · rw [fj 23 (by decide) (by decide) (by decide)]; exact e4
  · rw [fj 29 (by decide) (by decide) (by decide), e6 29 (by decide), a3, List.length_cons]
  · rw [c3.1 53 (by decide), c3.1 54 (by decide), e5 53 (by decide) (by decide) (by decide), e5 54 (by decide) (by decide) (by decide)]; exact ⟨rfl, rfl⟩
  · intro x hx
    rcases List.mem_cons.mp hx with e | e
    · rw [e]; exact ⟨hop, by show m < 400; omega⟩
    · exact p2 x e
/-- one more of a row of tests -/
theorem j_jmp {T : Nat → Nat} {L o i0 c0 b n m op lam a rop : Nat} {P : List (Nat × Nat)} {Z : az_S × Nat} {endc0 : Nat → Prop} {Mc0 Mr0 Mc : az_M} {i c n' : Nat} {φ : sp_E → Option Int32} {sub : az_M → Option (Int32 × az_M)} (hL : L ≤ 400) (h255 : ∀ i, T i ≤ 255) (hZ : Z.1.2 17 = 400) (ho : o ≤ 1) (hop : (op = 12 ∧ lam = 2 ∧ a = 7 ∧ rop = 29) ∨ (op = 11 ∧ lam = 1 ∧ a = 6 ∧ rop = 30 ∧ wx T L i 7 = -1)) (hP : P = [] ∨ ∃ x P', P = x :: P' ∧ bd x.1 < lam)
    (hsub : ∀ (i c n m at' : Nat) (Mc Mr : az_M), CSt T L o i c b n Mc → RSt T L o i c b m ((rop, at') :: P) Mr → JT T L o i c b n m ((rop, at') :: P) (lam + 1) endc0 Mc Mr (sub Mc))
    (hw : wx T L i a ≠ -1) (h : JTK T L o i0 c0 b n m P lam Mc0 Mr0 Mc i c n' φ) :
    ∃ Mc1 Mc2, f_X10_addStep Z 16 (nI op) 0 Mc = some Mc1 ∧ f_X5_nextToken sp_G Mc1 = some Mc2 ∧ (JTB L i0 n Mc0 Mr0 (sub Mc2) ∨ ∃ Mc3 Mc4 i2 c2 n2 φ2, sub Mc2 = some (1, Mc3) ∧ f_X5_aimJump (nI n') (nI op) Mc3 = some Mc4 ∧ i < i2 ∧ endc0 i2 ∧ JTK T L o i0 c0 b n m P lam Mc0 Mr0 Mc4 i2 c2 n2 φ2) := by
  obtain ⟨hC, fC, ⟨⟨hi0, hin0⟩, hc0, h01⟩, sC, Mr', m', q, K, g1, ⟨gK, gm⟩, g3, g4, g5, g6⟩ := h
  obtain ⟨hk1, h2i⟩ := wx_two (show a = 6 ∨ a = 7 by omega) hw
  have hk : tkd T L i ≠ 0 := by omega
  have tl := tnx_lt hk
  have hbd : bd rop = lam := by rcases hop with ⟨-, rfl, -, rfl⟩ | ⟨-, rfl, -, rfl, -⟩ <;> rfl
  obtain ⟨Mc1, Mc2, c1, c2, c3, c4⟩ := c_addN (s := op) hZ hL h255 hC hk (by omega)
  refine ⟨Mc1, Mc2, c1, c2, ?_⟩
  obtain ⟨Mr2, m2, t1, t2, t3, t4, t5⟩ := g3.settle hL lam m (by omega) (fun x hx => (g5 x hx).2) hP (fun x hx e => (g5 x hx).1.2 e) gm
  obtain ⟨Mr3, Mr4, Mr5, u1, u2, u3, u4, u5, u6, u7⟩ := t2.jmp hL h255 hk h2i rop (by omega)
  have step : ∀ F, f_X12_readExpression_20 sp_G (F + (K + 1)) 1 0 Mr0 = f_X12_readExpression_20 sp_G F 1 0 Mr5 := by
    intro F
    rw [show F + (K + 1) = (F + 1) + K by omega, g1 (F + 1), r_turn2 g3.2.1.2.1]
    have e23 : Mr2.1 40 23 = nI m2 := t2.2.1.2.2.2.2.1
    unfold f_X12_behindTest f_X12_behindTest_22 f_X12_behindTest_32 f_X12_behindTest_47 f_X12_behindTest_66
    rw [w_and, p_word1 (a := 7) (by decide) rfl g3.1.2, w_or, p_word1 (a := 6) (by decide) rfl g3.1.2]
    rcases hop with ⟨rfl, rfl, rfl, rfl⟩ | ⟨rfl, rfl, rfl, rfl, h7⟩
    · rw [if_neg hw, Option.bind_some, if_neg (by decide), if_neg (by decide), show f_X12_settle sp_G 2 Mr' = some Mr2 from t1, Option.bind_some, if_neg (by decide), e23, show f_X12_push 29 (nI m2) Mr2 = some Mr3 from u1, Option.bind_some, if_neg (by decide), show f_X12_emit 29 0 Mr3 = some Mr4 from u2, Option.bind_some, u3]
      rfl
    · rw [if_pos h7, Option.bind_some, if_pos rfl, if_neg hw, Option.bind_some, if_neg (by decide), if_pos rfl, show f_X12_settle sp_G 1 Mr' = some Mr2 from t1, Option.bind_some, if_pos rfl, e23, show f_X12_push 30 (nI m2) Mr2 = some Mr3 from u1, Option.bind_some, if_pos rfl, show f_X12_emit 30 0 Mr3 = some Mr4 from u2, Option.bind_some, u3]
      rfl
  have hm2 : m ≤ m2 := by
    have h1 : m2 = (stl q (Mr'.1 51, Mr'.1 52, m')).2.2 := congrArg (fun S : rC => S.2.2) t3
    have h2 := (stl_le q (Mr'.1 51, Mr'.1 52, m')).1
    rw [h1]; exact Nat.le_trans gm h2
  have f05 : rFr m Mr0 Mr5 := g4.trans (t4.trans (u5.mono hm2))
  rw [← t3] at g6
  have sR1 : rSeg o (Mr2.1 51) (Mr2.1 52) m m2 (c - c0) φ := g6
  have hnn := sC.1
  rcases hsub (tnx T L i) c (n' + 1) (m2 + 1) m2 Mc2 Mr5 c3 u4 with ⟨Mc', j, Mr6, K', e1, e2, e3, e4, e5, e6, e7⟩ | ⟨Mc3, i2, cc2, n2, φ2, e1, e2, e3, e4, ⟨⟨e5, e5n⟩, e6, e7⟩, e8, Mr6, m6, q6, K', w1, ⟨w2, w3⟩, w4, w5, w6, w7⟩
  · exact Or.inl ⟨Mc', j, Mr6, K' + (K + 1), e1, e2, e3, fC.trans ((c4.trans (e4.mono (by omega))).mono (by omega)), fun F => by rw [show F + (K' + (K + 1)) = (F + K') + (K + 1) by omega, step, e5 F], by omega, e7.1, e7.2.1, f05.tB e7.2.2⟩
  · have hn2 := e8.1
    have hni := hC.2.2.2.1
    have hi2 := e3.2.2.1
    have hn2i := e3.2.2.2.1
    obtain ⟨Mc4, a1, a2, a3, a4⟩ := c_aim (n' := n') (op := op) hL e3 (by omega) (by omega)
    have f34 : ∀ j, j < n' → Mc4.1 17 j = Mc.1 17 j := fun j hj => by rw [a3.2.2.1 j hj, e4.2.2.1 j (by omega), c4.2.2.1 j hj]
    have s1 : cSeg (WL o) (Mc4.1 17) n n' (c - c0) φ := sC.cong (fun j _ hj => f34 j hj)
    have s2 : cSeg (WL o) (Mc4.1 17) (n' + 1) n2 (cc2 - c) φ2 := e8.cong (fun j hj _ => by rw [a4, up_ne (by omega)])
    have s3 : cSeg (WL o) (Mc4.1 17) n n2 (c - c0 + (cc2 - c)) (ca op φ φ2) := cSeg_and s1 s2 (by omega) (by rw [a4, up_eq]) (by omega) h01
    rw [show c - c0 + (cc2 - c) = cc2 - c0 by omega] at s3
    have fall : cFr n Mc0 Mc4 := fC.trans ((c4.trans ((e4.mono (by omega)).trans a3)).mono (by omega))
    refine Or.inr ⟨Mc3, Mc4, i2, cc2, n2, ca op φ φ2, e1, a1, by omega, e2, a2, fall, ⟨⟨by omega, by omega⟩, by omega, is01_ca h01 e7⟩, s3, Mr6, m6, q6 ++ [(rop, m2)], K' + (K + 1), fun F => by rw [show F + (K' + (K + 1)) = (F + K') + (K + 1) by omega, step, w1 F], ⟨by omega, by omega⟩, by rw [List.append_assoc]; exact w4, f05.trans (w5.mono (by omega)), fun x hx => ?_, ?_⟩
    · rcases List.mem_append.mp hx with hx | hx
      · have := w6 x hx
        exact ⟨⟨this.1.1, fun e => by have := this.1.2 e; omega⟩, by omega⟩
      · rw [List.mem_singleton.mp hx]; exact ⟨⟨by show rop < 31; omega, fun _ => hm2⟩, by show lam ≤ bd rop; omega⟩
    · rw [stl_app]
      have lw := stl_low (m0 := m2 + 1) q6 (Mr6.1 51, Mr6.1 52, m6) w3 (fun x hx e => (w6 x hx).1.2 e)
      generalize hS : stl q6 (Mr6.1 51, Mr6.1 52, m6) = S at w7 lw
      have est : stl [(rop, m2)] S = (S.1, up S.2.1 m2 (nI S.2.2), S.2.2) := by
        show st1 (rop, m2) S = _
        unfold st1; rw [if_pos (show rop = 29 ∨ rop = 30 by omega)]
      rw [est]
      have r1 : rSeg o S.1 (up S.2.1 m2 (nI S.2.2)) m m2 (c - c0) φ := sR1.cong (fun j _ hj => by
        rw [up_ne (by omega), (lw j (by omega)).1, (lw j (by omega)).2]
        show Mr6.1 51 j = _ ∧ Mr6.1 52 j = _
        rw [(w5.2.2.2.2.2 j (by omega)).1, (w5.2.2.2.2.2 j (by omega)).2, u6, u7, up_ne (by omega), up_ne (by omega)]
        exact ⟨rfl, rfl⟩)
      have r2 : rSeg o S.1 (up S.2.1 m2 (nI S.2.2)) (m2 + 1) S.2.2 (cc2 - c) φ2 := w7.cong (fun j hj _ => ⟨rfl, up_ne (by omega)⟩)
      have hO : S.1 m2 = (if op = 11 then 30 else 29) := by
        rw [(lw m2 (by omega)).1]
        show Mr6.1 51 m2 = _
        rw [(w5.2.2.2.2.2 m2 (by omega)).1, u6, up_eq]
        rcases hop with ⟨rfl, -, -, rfl⟩ | ⟨rfl, -, -, rfl, -⟩
        · rw [if_neg (by decide)]; rfl
        · rw [if_pos rfl]; rfl
      have r3 := rSeg_and (q := op) ho r1 r2 (by omega) hO (up_eq _ _ _) h01
      rw [show c - c0 + (cc2 - c) = cc2 - c0 by omega] at r3
      exact r3
theorem JTK.low {T : Nat → Nat} {L o i0 c0 b n m lv lv' : Nat} {P : List (Nat × Nat)} {Mc0 Mr0 Mc : az_M} {i c n' : Nat} {φ : sp_E → Option Int32} (h : JTK T L o i0 c0 b n m P lv Mc0 Mr0 Mc i c n' φ) (hl : lv' ≤ lv) : JTK T L o i0 c0 b n m P lv' Mc0 Mr0 Mc i c n' φ := by
  obtain ⟨a1, a2, a3, a4, Mr', m', q, K, g1, g2, g3, g4, g5, g6⟩ := h
  exact ⟨a1, a2, a3, a4, Mr', m', q, K, g1, g2, g3, g4, fun x hx => ⟨(g5 x hx).1, by have := (g5 x hx).2; omega⟩, g6⟩
theorem j_both {T : Nat → Nat} {L o b : Nat} {Z : az_S × Nat} (hL : L ≤ 400) (h255 : ∀ i, T i ≤ 255) (hZ : Z.1.2 17 = 400) (ho : o ≤ 1) {i c n m : Nat} {P : List (Nat × Nat)} {Mc Mr : az_M} {R : az_M → Option (Int32 × az_M)} (hC : CSt T L o i c b n Mc) (hR : RSt T L o i c b m P Mr) (hP : P = [] ∨ ∃ x P', P = x :: P' ∧ bd x.1 < 2) (hin : innV P ≠ 32) (ih : b < 8 → HT T L o R (b + 1)) : JT T L o i c b n m P 2 (fun i => wx T L i 7 = -1) Mc Mr (f_X5_readBoth Z sp_G R Mc) := by
  have loop : ∀ (e : Nat) (x F : Nat) (Mc' : az_M) (i' c' n' : Nat) (φ : sp_E → Option Int32), L - i' ≤ e → e < F → x ≤ i' → JTK T L o i c b n m P 2 Mc Mr Mc' i' c' n' φ → JT T L o i c b n m P 2 (fun i => wx T L i 7 = -1) Mc Mr (f_X5_readBoth_11 Z sp_G R F (nI x) Mc') := by
    intro e
    induction e with
    | zero =>
      intro x F Mc' i' c' n' φ he hF hx hK
      obtain ⟨F, rfl⟩ : ∃ F1, F = F1 + 1 := ⟨F - 1, by omega⟩
      have hCC := hK.1
      have hi' := hCC.2.2.1
      have nw : wx T L i' 7 = -1 := by
        unfold wx
        rw [if_neg (fun h => by have := tkd_lt (T := T) (L := L) (p := i') (by omega); omega)]
      rw [f_X5_readBoth_11, show f_X5_wordAmong sp_G 7 Mc' = some (wx T L i' 7) from p_wordC hL h255 hCC.1.1 hCC.1.2 hi' (by decide), Option.bind_some, if_pos nw, ite_self]
      exact Or.inr ⟨Mc', i', c', n', φ, rfl, nw, hK⟩
    | succ e ihe =>
      intro x F Mc' i' c' n' φ he hF hx hK
      obtain ⟨F, rfl⟩ : ∃ F1, F = F1 + 1 := ⟨F - 1, by omega⟩
      have hCC := hK.1
      have hi' := hCC.2.2.1
      rw [f_X5_readBoth_11, show f_X5_wordAmong sp_G 7 Mc' = some (wx T L i' 7) from p_wordC hL h255 hCC.1.1 hCC.1.2 hi' (by decide), Option.bind_some]
      by_cases nw : wx T L i' 7 = -1
      · rw [if_pos nw, ite_self]
        exact Or.inr ⟨Mc', i', c', n', φ, rfl, nw, hK⟩
      · have hk1 := (wx_two (Or.inr rfl) nw).1
        have hl := tkd_lt (T := T) (L := L) (p := i') (by omega)
        rw [if_neg nw, if_neg (by rw [show (400 : Int32) = nI 400 from rfl, n_le (by omega) (by omega)]; omega)]
        obtain ⟨Mc1, Mc2, a1, a2, a3⟩ := j_jmp (op := 12) (lam := 2) (a := 7) (rop := 29) (sub := f_X5_readPlain Z sp_G R) (endc0 := fun _ => True) hL h255 hZ ho (Or.inl ⟨rfl, rfl, rfl, rfl⟩) hP (fun i c n m at' Mc Mr h1 h2 => j_plain hL h255 hZ ho h1 h2 (Or.inr ⟨(29, at'), P, rfl, (show bd 29 < 3 by decide)⟩) (by rw [innV, if_neg (show ¬ 31 ≤ 29 by decide)]; exact hin) ih) nw hK
        rw [show f_X10_addStep Z 16 12 0 Mc' = some Mc1 from a1, Option.bind_some, a2, Option.bind_some, hCC.2.1.2.2.2, show nI x + 1 = nI (x + 1) from (nI_succ x).symm]
        rcases a3 with ⟨Mc3, j, Mr', K, b1, b2⟩ | ⟨Mc3, Mc4, i2, c2, n2, φ2, b1, b2, b3, b4, b5⟩
        · rw [b1, Option.bind_some, if_pos rfl]; exact Or.inl ⟨Mc3, j, Mr', K, rfl, b2⟩
        · rw [b1, Option.bind_some, if_neg (show ¬ (1 : Int32) = 0 by decide), show f_X5_aimJump (nI n') 12 Mc3 = some Mc4 from b2, Option.bind_some]
          exact ihe (x + 1) F Mc4 i2 c2 n2 φ2 (by omega) (by omega) (by omega) b5
  have hP3 : P = [] ∨ ∃ x P', P = x :: P' ∧ bd x.1 < 3 := by
    rcases hP with h | ⟨x, P', h, h2⟩
    · exact Or.inl h
    · exact Or.inr ⟨x, P', h, by omega⟩
  unfold f_X5_readBoth
  rcases j_plain (Z := Z) hL h255 hZ ho hC hR hP3 hin ih with ⟨Mc', j, Mr', K, e1, e2⟩ | ⟨Mc', i', c', n', φ, e1, -, e2⟩
  · rw [e1, Option.bind_some, if_pos rfl]; exact Or.inl ⟨Mc', j, Mr', K, rfl, e2⟩
  · rw [e1, Option.bind_some, if_neg (show ¬ (1 : Int32) = 0 by decide)]
    exact loop 400 0 sp_G Mc' i' c' n' φ (by omega) (by decide) (by omega) (e2.low (by decide))
theorem j_test {T : Nat → Nat} {L o b : Nat} {Z : az_S × Nat} (hL : L ≤ 400) (h255 : ∀ i, T i ≤ 255) (hZ : Z.1.2 17 = 400) (ho : o ≤ 1) {i c n m : Nat} {P : List (Nat × Nat)} {Mc Mr : az_M} {R : az_M → Option (Int32 × az_M)} (hC : CSt T L o i c b n Mc) (hR : RSt T L o i c b m P Mr) (hP : P = [] ∨ ∃ x P', P = x :: P' ∧ bd x.1 < 1) (hin : innV P ≠ 32) (ih : b < 8 → HT T L o R (b + 1)) : JT T L o i c b n m P 1 (eTest T L) Mc Mr (f_X5_readTest_b Z sp_G R Mc) := by
  have loop : ∀ (e : Nat) (x F : Nat) (Mc' : az_M) (i' c' n' : Nat) (φ : sp_E → Option Int32), L - i' ≤ e → e < F → x ≤ i' → wx T L i' 7 = -1 → JTK T L o i c b n m P 1 Mc Mr Mc' i' c' n' φ → JT T L o i c b n m P 1 (eTest T L) Mc Mr (f_X5_readTest_11 Z sp_G R F (nI x) Mc') := by
    intro e
    induction e with
    | zero =>
      intro x F Mc' i' c' n' φ he hF hx h7 hK
      obtain ⟨F, rfl⟩ : ∃ F1, F = F1 + 1 := ⟨F - 1, by omega⟩
      have hCC := hK.1
      have hi' := hCC.2.2.1
      have nw : wx T L i' 6 = -1 := by
        unfold wx
        rw [if_neg (fun h => by have := tkd_lt (T := T) (L := L) (p := i') (by omega); omega)]
      rw [f_X5_readTest_11, show f_X5_wordAmong sp_G 6 Mc' = some (wx T L i' 6) from p_wordC hL h255 hCC.1.1 hCC.1.2 hi' (by decide), Option.bind_some, if_pos nw, ite_self]
      exact Or.inr ⟨Mc', i', c', n', φ, rfl, ⟨h7, nw⟩, hK⟩
    | succ e ihe =>
      intro x F Mc' i' c' n' φ he hF hx h7 hK
      obtain ⟨F, rfl⟩ : ∃ F1, F = F1 + 1 := ⟨F - 1, by omega⟩
      have hCC := hK.1
      have hi' := hCC.2.2.1
      rw [f_X5_readTest_11, show f_X5_wordAmong sp_G 6 Mc' = some (wx T L i' 6) from p_wordC hL h255 hCC.1.1 hCC.1.2 hi' (by decide), Option.bind_some]
      by_cases nw : wx T L i' 6 = -1
      · rw [if_pos nw, ite_self]
        exact Or.inr ⟨Mc', i', c', n', φ, rfl, ⟨h7, nw⟩, hK⟩
      · have hk1 := (wx_two (Or.inl rfl) nw).1
        have hl := tkd_lt (T := T) (L := L) (p := i') (by omega)
        rw [if_neg nw, if_neg (by rw [show (400 : Int32) = nI 400 from rfl, n_le (by omega) (by omega)]; omega)]
        obtain ⟨Mc1, Mc2, a1, a2, a3⟩ := j_jmp (op := 11) (lam := 1) (a := 6) (rop := 30) (sub := f_X5_readBoth Z sp_G R) (endc0 := fun i => wx T L i 7 = -1) hL h255 hZ ho (Or.inr ⟨rfl, rfl, rfl, rfl, h7⟩) hP (fun i c n m at' Mc Mr h1 h2 => j_both hL h255 hZ ho h1 h2 (Or.inr ⟨(30, at'), P, rfl, (show bd 30 < 2 by decide)⟩) (by rw [innV, if_neg (show ¬ 31 ≤ 30 by decide)]; exact hin) ih) nw hK
        rw [show f_X10_addStep Z 16 11 0 Mc' = some Mc1 from a1, Option.bind_some, a2, Option.bind_some, hCC.2.1.2.2.2, show nI x + 1 = nI (x + 1) from (nI_succ x).symm]
        rcases a3 with ⟨Mc3, j, Mr', K, b1, b2⟩ | ⟨Mc3, Mc4, i2, c2, n2, φ2, b1, b2, b3, b4, b5⟩
        · rw [b1, Option.bind_some, if_pos rfl]; exact Or.inl ⟨Mc3, j, Mr', K, rfl, b2⟩
        · rw [b1, Option.bind_some, if_neg (show ¬ (1 : Int32) = 0 by decide), show f_X5_aimJump (nI n') 11 Mc3 = some Mc4 from b2, Option.bind_some]
          exact ihe (x + 1) F Mc4 i2 c2 n2 φ2 (by omega) (by omega) (by omega) b4 b5
  have hP2 : P = [] ∨ ∃ x P', P = x :: P' ∧ bd x.1 < 2 := by
    rcases hP with h | ⟨x, P', h, h2⟩
    · exact Or.inl h
    · exact Or.inr ⟨x, P', h, by omega⟩
  unfold f_X5_readTest_b
  rcases j_both (Z := Z) hL h255 hZ ho hC hR hP2 hin ih with ⟨Mc', j, Mr', K, e1, e2⟩ | ⟨Mc', i', c', n', φ, e1, h7, e2⟩
  · rw [e1, Option.bind_some, if_pos rfl]; exact Or.inl ⟨Mc', j, Mr', K, rfl, e2⟩
  · rw [e1, Option.bind_some, if_neg (show ¬ (1 : Int32) = 0 by decide)]
    exact loop 400 0 sp_G Mc' i' c' n' φ (by omega) (by decide) (by omega) h7 (e2.low (by decide))
theorem h_test {T : Nat → Nat} {L o : Nat} {Z : az_S × Nat} (hL : L ≤ 400) (h255 : ∀ i, T i ≤ 255) (hZ : Z.1.2 17 = 400) (ho : o ≤ 1) : ∀ (D b : Nat), b ≤ 8 → 9 ≤ b + D → HT T L o (f_X5_readTest Z sp_G D) b := by
  intro D
  induction D with
  | zero => intro b hb h; omega
  | succ D ih =>
    intro b hb h i c n m P Mc Mr hC hR hP hin
    rw [f_X5_readTest]
    exact j_test hL h255 hZ ho hC hR hP hin (fun hb8 => ih (b + 1) (by omega) (by omega))
