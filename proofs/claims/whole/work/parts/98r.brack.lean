/-! BOTH READERS: a bracketed sum, a part -/
theorem p_noOp {T : Nat → Nat} {L o i c b m : Nat} {P : List (Nat × Nat)} {M : az_M} (h255 : ∀ i, T i ≤ 255) (h : RSt T L o i c b m P M) (he : eSum T L i) (x1 : Int32) : f_X12_behindSum sp_G x1 M = f_X12_behindSum_71 sp_G x1 (-1) M := by
  unfold f_X12_behindSum
  rw [show f_X12_isSign 43 M = _ from p_signR (c := 43) h255 h.1.2 (by decide), show f_X12_isSign 45 M = _ from p_signR (c := 45) h255 h.1.2 (by decide), show f_X12_isSign 42 M = _ from p_signR (c := 42) h255 h.1.2 (by decide), show f_X12_isSign 47 M = _ from p_signR (c := 47) h255 h.1.2 (by decide), show f_X12_isSign 37 M = _ from p_signR (c := 37) h255 h.1.2 (by decide), if_neg he.1, if_neg he.2.1, if_neg he.2.2.1, if_neg he.2.2.2.1, if_neg he.2.2.2.2]
  rfl
theorem j_brack {T : Nat → Nat} {L o wl i c b n m : Nat} {P : List (Nat × Nat)} {Z : az_S × Nat} {R : az_M → Option (Int32 × az_M)} {Mc Mr : az_M} {x1 : Int32} (hL : L ≤ 400) (h255 : ∀ i, T i ≤ 255) (hC : CSt T L o i c b n Mc) (hR : RSt T L o i c b m P Mr) (hsg : sg T L i 91) (hb8 : b < 8) (ih : HS T L o wl R (b + 1)) :
    JO T L o wl x1 1 3 i c b n m P (fun _ => False) (sok wl) (fun _ => True) Mc Mr (f_X5_readBracketedSum Z sp_G R Mc) := by
  have hk0 : tkd T L i ≠ 0 := by have := hsg.1; omega
  have tl := tnx_lt hk0
  have hC1 := hC.put (j := 8) (v := nI (b + 1)) (c' := c) (b' := b + 1) (Or.inr ⟨rfl, rfl, rfl, by omega⟩)
  obtain ⟨Mc1, c1, c2, c3⟩ := hC1.next hL h255
  obtain ⟨Mr1, r1, r2, r3⟩ := hR.mustOK hL h255
  have r4 := r2.opn (b' := b + 1) (by omega)
  obtain ⟨Mr2, q1, q2, q3, q4, q5⟩ := r4.pushP (j := 0) hL 32 0 (by decide) (by decide) (by have := hR.2.2.2.1.2.1; omega)
  have f02 : rFr m Mr Mr2 := (r3.fr m).trans ((rFr_40 m (by simp)).trans q3)
  have fc1 : cFr n Mc Mc1 := (cFr_15 n (by decide)).trans (c3.fr n)
  have o30 : Mr1.1 40 30 + 1 = nI (b + 1) := by rw [r2.2.1.2.2.2.1]; exact (nI_succ b).symm
  -- the reference opens
  have hopen : ∀ F, f_X12_readExpression_20 sp_G (F + 1) x1 1 Mr = f_X12_readExpression_20 sp_G F x1 1 Mr2 := by
    intro F
    rw [r_turn1 hR.2.1.2.1]
    unfold f_X12_readPart f_X12_openBracket f_X12_openBracket_15 f_X12_openBracket_41
    rw [show f_X12_isSign 91 Mr = _ from p_signR (c := 91) h255 hR.1.2 (by decide), if_pos hsg, Option.bind_some, if_neg (by decide), hR.2.1.2.2.2.1, if_neg (by rw [show (8 : Int32) = nI 8 from rfl, n_le (by omega) (by omega)]; omega), r1, Option.bind_some, if_pos r2.2.1.2.1, o30, show f_X12_push 32 0 (az_i Mr1 40 30 (nI (b + 1))) = some Mr2 from q1]
    rfl
  unfold f_X5_readBracketedSum f_X5_readBracketedSum_41
  rw [hC.2.1.2.2.1, if_pos (by rw [show (8 : Int32) = nI 8 from rfl, n_lt (by omega) (by omega)]; exact hb8), show nI b + 1 = nI (b + 1) from (nI_succ b).symm, c1, Option.bind_some]
  rcases ih (tnx T L i) c n m ((32, 0) :: P) Mc1 Mr2 x1 c2 q2 (Or.inr ⟨(32, 0), P, rfl, by decide⟩) with ⟨Mc', j, Mr', K, e1, e2, e3, e4, e5, e6, g2⟩ | ⟨Mc', i', c', n', φ, Mr', m', q, K, e1, e2, e3, ⟨⟨e4, e4n⟩, e5, e6, e7⟩, e8, g1, ⟨gK, gm⟩, g3, g4, g5, g6⟩
  · rw [e1, Option.bind_some, if_pos rfl]
    exact Or.inl ⟨Mc', j, Mr', K + 1, rfl, e2, e3, fc1.trans e4, fun F => by rw [show F + (K + 1) = (F + K) + 1 by omega, hopen, e5 F], by omega, g2.1, g2.2.1, f02.tB g2.2.2⟩
  · have hs93 : f_X5_isSign 93 Mc' = _ := p_signC (c := 93) hL h255 e2.1.1 e2.1.2 (by decide)
    rw [e1, Option.bind_some, if_neg (show ¬ (1 : Int32) = 0 by decide), hs93, Option.bind_some]
    -- where the reference stands behind the sum
    have hi' := g3.2.2.2.1.1
    have behind : ∀ F, f_X12_readExpression_20 sp_G (F + (K + 2)) x1 1 Mr = (f_X12_must sp_G (if sg T L i' 93 then 1 else 0) Mr').bind (fun q24 => (if (q24.1 40 19) = 0 then ((f_X12_settle sp_G 5 q24).bind fun q27 => f_X12_readExpression_20 sp_G F x1 3 (az_i (az_i q27 40 29 ((q27.1 40 29) - 1)) 40 30 (((az_i q27 40 29 ((q27.1 40 29) - 1)).1 40 30) - 1))) else f_X12_readExpression_20 sp_G F x1 3 q24)) := by
      intro F
      rw [show F + (K + 2) = (F + 1 + K) + 1 by omega, hopen, g1 (F + 1), r_turn3 g3.2.1.2.1, p_noOp h255 g3 e6]
      unfold f_X12_behindSum_71 f_X12_behindSum_150
      rw [if_pos rfl, p_inner g3.2.2.1.1 g3.2.2.1.2 g3.2.1.2.2.2.2.2 (by have := g3.2.2.2.1.2.1; omega), Option.bind_some, innV_arith g5, if_pos (show innV ((32, 0) :: P) = 32 from rfl), show f_X12_isSign 93 Mr' = _ from p_signR (c := 93) h255 g3.1.2 (by decide), Option.bind_some, Option.bind_assoc]
      refine congrArg (fun f => (f_X12_must sp_G (if sg T L i' 93 then 1 else 0) Mr').bind f) (funext fun q24 => ?_)
      by_cases h0 : q24.1 40 19 = 0
      · rw [if_pos h0, if_pos h0, Option.bind_assoc]; rfl
      · rw [if_neg h0, if_neg h0]; rfl
    have g4' : rFr m Mr Mr' := f02.trans g4
    by_cases h93 : sg T L i' 93
    · rw [if_pos h93, if_neg (by decide), e2.2.1.2.2.1, show nI (b + 1) - 1 = nI b from nI_pred b]
      have hk1 : tkd T L i' ≠ 0 := by have := h93.1; omega
      have tl' := tnx_lt hk1
      have hC2 := e2.put (j := 8) (v := nI b) (c' := c') (b' := b) (Or.inr ⟨rfl, rfl, rfl, by omega⟩)
      obtain ⟨Mc2, d1, d2, d3⟩ := hC2.next hL h255
      rw [d1, Option.bind_some]
      have f17 : Mc2.1 17 = Mc'.1 17 := by rw [d3.1 17 (by decide), gi_k (by decide)]
      obtain ⟨Mr3, s1, s2, s3⟩ := g3.mustOK hL h255
      obtain ⟨Mr4, m4, t1, t2, t3, t4, t5⟩ := s2.settle hL 5 m (by decide) (fun x hx => bd_arith (g5 x hx)) (Or.inr ⟨(32, 0), P, rfl, by decide⟩) (fun x hx e => by have := (g5 x hx).2; omega) gm
      have t6 := t2.pop
      have t7 := t6.opn (b' := b) (by omega)
      have e29 : Mr4.1 40 29 - 1 = nI P.length := by rw [t2.2.1.2.2.2.2.2, List.length_cons]; exact nI_pred _
      have e30 : (az_i Mr4 40 29 (nI P.length)).1 40 30 - 1 = nI b := by rw [t6.2.1.2.2.2.1]; exact nI_pred b
      have s51 : Mr3.1 51 = Mr'.1 51 ∧ Mr3.1 52 = Mr'.1 52 := ⟨s3.1 51 (by decide), s3.1 52 (by decide)⟩
      rw [s51.1, s51.2] at t3
      refine Or.inr ⟨Mc2, tnx T L i', c', n', φ, az_i (az_i Mr4 40 29 (nI P.length)) 40 30 (nI b), m4, [], K + 2, rfl, d2, fc1.trans (e3.trans ((cFr_15 n (by decide)).trans (d3.fr n))), ⟨⟨by omega, by omega⟩, e5, trivial, e7⟩, by rw [f17]; exact e8, fun F => ?_, ⟨by omega, ?_⟩, t7, g4'.trans ((s3.fr m).trans (t4.trans ((rFr_40 m (by simp)).trans (rFr_40 m (by simp))))), fun x hx => (by cases hx), ?_⟩
      · rw [behind F, if_pos h93, s1, Option.bind_some, if_pos s2.2.1.2.1, show f_X12_settle sp_G 5 Mr3 = some Mr4 from t1, Option.bind_some, e29, e30]
      · have h1 := congrArg (fun S : rC => S.2.2) t3
        have h2 := (stl_le q (Mr'.1 51, Mr'.1 52, m')).1
        show m ≤ m4
        have h1' : m4 = (stl q (Mr'.1 51, Mr'.1 52, m')).2.2 := h1
        rw [h1']
        exact Nat.le_trans gm h2
      · show rSeg o ((az_i (az_i Mr4 40 29 (nI P.length)) 40 30 (nI b)).1 51) ((az_i (az_i Mr4 40 29 (nI P.length)) 40 30 (nI b)).1 52) m m4 (c' - c) φ
        rw [gi_k (by decide), gi_k (by decide), gi_k (by decide), gi_k (by decide)]
        rw [← t3] at g6
        exact g6
    · rw [if_neg h93, if_pos rfl]
      obtain ⟨M', z1, z2⟩ := r_bad (j := i') hL g3 (g4'.mono (by omega)) x1 3
      exact Or.inl ⟨Mc', i', M', K + 3, rfl, e2.1.2.2.1, by have := e2.2.2.1; omega, fc1.trans e3, fun F => by rw [show F + (K + 3) = (F + 1) + (K + 2) by omega, behind (F + 1), if_neg h93, g3.mustBad, Option.bind_some, if_neg bad19, z1 F], by omega, z2⟩
