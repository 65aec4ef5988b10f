/-! BOTH READERS: tests, joined -/
theorem stl_low {m0 : Nat} : ∀ (q : List (Nat × Nat)) (S : rC), m0 ≤ S.2.2 → (∀ x, x ∈ q → x.1 = 29 ∨ x.1 = 30 → m0 ≤ x.2) → ∀ j, j < m0 → (stl q S).1 j = S.1 j ∧ (stl q S).2.1 j = S.2.1 j := by
  intro q
  induction q with
  | nil => intro S _ _ j _; exact ⟨rfl, rfl⟩
  | cons x q ih =>
    intro S hS hx j hj
    have s1 := st1_le x S
    obtain ⟨e1, e2⟩ := ih (st1 x S) (by omega) (fun z hz => hx z (List.mem_cons_of_mem _ hz)) j hj
    rw [stl, e1, e2]
    unfold st1
    by_cases hc : x.1 = 29 ∨ x.1 = 30
    · have := hx x List.mem_cons_self hc
      rw [if_pos hc]; exact ⟨rfl, up_ne (by omega)⟩
    · rw [if_neg hc]; exact ⟨up_ne (by omega), up_ne (by omega)⟩
def eTest (T : Nat → Nat) (L i : Nat) : Prop := wx T L i 7 = -1 ∧ wx T L i 6 = -1
def HT (T : Nat → Nat) (L o : Nat) (R : az_M → Option (Int32 × az_M)) (b : Nat) : Prop := ∀ (i c n m : Nat) (P : List (Nat × Nat)) (Mc Mr : az_M), CSt T L o i c b n Mc → RSt T L o i c b m P Mr → (P = [] ∨ ∃ x P', P = x :: P' ∧ bd x.1 < 1) → innV P ≠ 32 → JT T L o i c b n m P 1 (eTest T L) Mc Mr (R Mc)
theorem p_noAnd {T : Nat → Nat} {L o i c b m : Nat} {P : List (Nat × Nat)} {M : az_M} (h : RSt T L o i c b m P M) (hL : L ≤ 400) (he : eTest T L i) : f_X12_behindTest sp_G M = (if innV P = -1 then some (4, M) else ((f_X12_isSign 41 M).bind fun q10 => ((f_X12_must sp_G q10 M).bind fun q12 => (if (q12.1 40 19) = 0 then ((f_X12_settle sp_G 1 q12).bind fun q15 => f_X12_behindTest_128 sp_G (az_i (az_i q15 40 29 ((q15.1 40 29) - 1)) 40 30 (((az_i q15 40 29 ((q15.1 40 29) - 1)).1 40 30) - 1))) else f_X12_behindTest_128 sp_G q12)))) := by
  unfold f_X12_behindTest
  rw [w_and, p_word1 (a := 7) (by decide) rfl h.1.2, if_pos he.1, Option.bind_some, if_pos rfl, w_or, p_word1 (a := 6) (by decide) rfl h.1.2, if_pos he.2, Option.bind_some, if_pos rfl, p_inner h.2.2.1.1 h.2.2.1.2 h.2.1.2.2.2.2.2 (by have := h.2.2.2.1.2.1; have := h.2.2.2.1.1; omega), Option.bind_some]
theorem j_paren {T : Nat → Nat} {L o b : Nat} {Z : az_S × Nat} (hL : L ≤ 400) (h255 : ∀ i, T i ≤ 255) {i c n m : Nat} {P : List (Nat × Nat)} {Mc Mr : az_M} {R : az_M → Option (Int32 × az_M)} (hC : CSt T L o i c b n Mc) (hR : RSt T L o i c b m P Mr) (h40 : sg T L i 40) (ih : b < 8 → HT T L o R (b + 1)) (t : Int32) :
    JTB L i n Mc Mr (f_X5_readPlain_41 Z sp_G R t Mc)
    ∨ ∃ Mc' i' c' n' φ, f_X5_readPlain_41 Z sp_G R t Mc = f_X5_readPlain_141 Z sp_G R t Mc' ∧ JTK T L o i c b n m P 4 Mc Mr Mc' i' c' n' φ := by
  have hk0 : tkd T L i ≠ 0 := by have := h40.1; omega
  have tl := tnx_lt hk0
  have nw : wx T L i 8 = -1 := by unfold wx; rw [if_neg (by have := h40.1; omega)]
  have hb8 := hC.2.2.2.2.2
  unfold f_X5_readPlain_41
  rw [show f_X5_isSign 40 Mc = _ from p_signC (c := 40) hL h255 hC.1.1 hC.1.2 (by decide), if_pos h40, Option.bind_some, if_neg (by decide)]
  by_cases hb : b < 8
  · have hC1 := hC.put (j := 8) (v := nI (b + 1)) (c' := c) (b' := b + 1) (Or.inr ⟨rfl, rfl, rfl, by omega⟩)
    obtain ⟨Mc1, c1, c2, c3⟩ := hC1.next hL h255
    obtain ⟨Mr1, r1, r2, r3⟩ := hR.mustOK hL h255
    have r4 := r2.opn (b' := b + 1) (by omega)
    obtain ⟨Mr2, q1, q2, q3, q4, q5⟩ := r4.pushP (j := 0) hL 31 0 (by decide) (by decide) (by have := hR.2.2.2.1.2.1; omega)
    have f02 : rFr m Mr Mr2 := (r3.fr m).trans ((rFr_40 m (by simp)).trans q3)
    have fc1 : cFr n Mc Mc1 := (cFr_15 n (by decide)).trans (c3.fr n)
    have o30 : Mr1.1 40 30 + 1 = nI (b + 1) := by rw [r2.2.1.2.2.2.1]; exact (nI_succ b).symm
    have hopen : ∀ F, f_X12_readExpression_20 sp_G (F + 1) 1 0 Mr = f_X12_readExpression_20 sp_G F 1 0 Mr2 := by
      intro F
      rw [r_turn0 hR.2.1.2.1]
      unfold f_X12_readPlain f_X12_openBracket f_X12_openBracket_15 f_X12_openBracket_41
      rw [w_not, p_word1 (a := 8) (by decide) rfl hR.1.2, if_pos nw, Option.bind_some, if_pos rfl, show f_X12_isSign 40 Mr = _ from p_signR (c := 40) h255 hR.1.2 (by decide), if_pos h40, Option.bind_some, if_neg (by decide), hR.2.1.2.2.2.1, if_neg (by rw [show (8 : Int32) = nI 8 from rfl, n_le (by omega) (by omega)]; omega), r1, Option.bind_some, if_pos r2.2.1.2.1, o30, show f_X12_push 31 0 (az_i Mr1 40 30 (nI (b + 1))) = some Mr2 from q1]
      rfl
    unfold f_X5_readBracketedTest f_X5_readBracketedTest_41
    rw [hC.2.1.2.2.1, if_pos (by rw [show (8 : Int32) = nI 8 from rfl, n_lt (by omega) (by omega)]; exact hb), show nI b + 1 = nI (b + 1) from (nI_succ b).symm, c1, Option.bind_some]
    rcases ih hb (tnx T L i) c n m ((31, 0) :: P) Mc1 Mr2 c2 q2 (Or.inr ⟨(31, 0), P, rfl, by decide⟩) (by rw [innV, if_pos (by decide)]; decide) with ⟨Mc', j, Mr', K, e1, e2, e3, e4, e5, e6, g2⟩ | ⟨Mc', i', c', n', φ, e1, eE, e2, e3, ⟨⟨e4, e4n⟩, e5, e7⟩, e8, Mr', m', q, K, g1, ⟨gK, gm⟩, g3, g4, g5, g6⟩
    · rw [e1, Option.bind_some, if_pos rfl, Option.bind_some, if_pos rfl]
      exact Or.inl ⟨Mc', j, Mr', K + 1, rfl, e2, e3, fc1.trans e4, fun F => by rw [show F + (K + 1) = (F + K) + 1 by omega, hopen, e5 F], by omega, g2.1, g2.2.1, f02.tB g2.2.2⟩
    · have hi' := g3.2.2.2.1.1
      have hinn : innV (q ++ (31, 0) :: P) = 31 := by rw [innV_lt (fun x hx => (g5 x hx).1.1), innV, if_pos (by decide)]; rfl
      have behind : ∀ F, f_X12_readExpression_20 sp_G (F + (K + 2)) 1 0 Mr = (f_X12_must sp_G (if sg T L i' 41 then 1 else 0) Mr').bind (fun q24 => (if (q24.1 40 19) = 0 then ((f_X12_settle sp_G 1 q24).bind fun q27 => f_X12_readExpression_20 sp_G F 1 2 (az_i (az_i q27 40 29 ((q27.1 40 29) - 1)) 40 30 (((az_i q27 40 29 ((q27.1 40 29) - 1)).1 40 30) - 1))) else f_X12_readExpression_20 sp_G F 1 2 q24)) := by
        intro F
        rw [show F + (K + 2) = (F + 1 + K) + 1 by omega, hopen, g1 (F + 1), r_turn2 g3.2.1.2.1, p_noAnd g3 hL eE, hinn, if_neg (by decide), show f_X12_isSign 41 Mr' = _ from p_signR (c := 41) h255 g3.1.2 (by decide), Option.bind_some, Option.bind_assoc]
        unfold f_X12_behindTest_128
        refine congrArg (fun f => (f_X12_must sp_G (if sg T L i' 41 then 1 else 0) Mr').bind f) (funext fun q24 => ?_)
        by_cases h0 : q24.1 40 19 = 0
        · rw [if_pos h0, if_pos h0, Option.bind_assoc]; rfl
        · rw [if_neg h0, if_neg h0]; rfl
      have g4' : rFr m Mr Mr' := f02.trans g4
      rw [e1, Option.bind_some, if_neg (show ¬ (1 : Int32) = 0 by decide), show f_X5_isSign 41 Mc' = _ from p_signC (c := 41) hL h255 e2.1.1 e2.1.2 (by decide), Option.bind_some]
      by_cases h41 : sg T L i' 41
      · rw [if_pos h41, if_neg (show ¬ (1 : Int32) = 0 by decide), e2.2.1.2.2.1, show nI (b + 1) - 1 = nI b from nI_pred b]
        have hk1 : tkd T L i' ≠ 0 := by have := h41.1; omega
        have tl' := tnx_lt hk1
        have hC2 := e2.put (j := 8) (v := nI b) (c' := c') (b' := b) (Or.inr ⟨rfl, rfl, rfl, by omega⟩)
        obtain ⟨Mc2, d1, d2, d3⟩ := hC2.next hL h255
        rw [d1, Option.bind_some, Option.bind_some, if_neg (show ¬ (1 : Int32) = 0 by decide)]
        have f17 : Mc2.1 17 = Mc'.1 17 := by rw [d3.1 17 (by decide), gi_k (by decide)]
        obtain ⟨Mr3, s1, s2, s3⟩ := g3.mustOK hL h255
        obtain ⟨Mr4, m4, t1, t2, t3, t4, t5⟩ := s2.settle hL 1 m (by decide) (fun x hx => (g5 x hx).2) (Or.inr ⟨(31, 0), P, rfl, by decide⟩) (fun x hx e => (g5 x hx).1.2 e) gm
        have t6 := t2.pop
        have t7 := t6.opn (b' := b) (by omega)
        have e29 : Mr4.1 40 29 - 1 = nI P.length := by rw [t2.2.1.2.2.2.2.2, List.length_cons]; exact nI_pred _
        have e30 : (az_i Mr4 40 29 (nI P.length)).1 40 30 - 1 = nI b := by rw [t6.2.1.2.2.2.1]; exact nI_pred b
        rw [s3.1 51 (by decide), s3.1 52 (by decide)] at t3
        refine Or.inr ⟨Mc2, tnx T L i', c', n', φ, rfl, d2, fc1.trans (e3.trans ((cFr_15 n (by decide)).trans (d3.fr n))), ⟨⟨by omega, by omega⟩, e5, e7⟩, by rw [f17]; exact e8, az_i (az_i Mr4 40 29 (nI P.length)) 40 30 (nI b), m4, [], K + 2, fun F => ?_, ⟨by omega, ?_⟩, t7, g4'.trans ((s3.fr m).trans (t4.trans ((rFr_40 m (by simp)).trans (rFr_40 m (by simp))))), fun x hx => (by cases hx), ?_⟩
        · rw [behind F, if_pos h41, s1, Option.bind_some, if_pos s2.2.1.2.1, show f_X12_settle sp_G 1 Mr3 = some Mr4 from t1, Option.bind_some, e29, e30]
        · have h1' : m4 = (stl q (Mr'.1 51, Mr'.1 52, m')).2.2 := congrArg (fun S : rC => S.2.2) t3
          have h2 := (stl_le q (Mr'.1 51, Mr'.1 52, m')).1
          rw [h1']
          exact Nat.le_trans gm h2
        · show rSeg o ((az_i (az_i Mr4 40 29 (nI P.length)) 40 30 (nI b)).1 51) ((az_i (az_i Mr4 40 29 (nI P.length)) 40 30 (nI b)).1 52) m m4 (c' - c) φ
          rw [gi_k (by decide), gi_k (by decide), gi_k (by decide), gi_k (by decide)]
          rw [← t3] at g6
          exact g6
      · rw [if_neg h41, if_pos rfl, Option.bind_some, if_pos rfl]
        obtain ⟨M', z1, z2⟩ := r_bad (j := i') hL g3 (g4'.mono (by omega)) 1 2
        exact Or.inl ⟨Mc', i', M', K + 3, rfl, e2.1.2.2.1, by have := e2.2.2.1; omega, fc1.trans e3, fun F => by rw [show F + (K + 3) = (F + 1) + (K + 2) by omega, behind (F + 1), if_neg h41, g3.mustBad, Option.bind_some, if_neg bad19, z1 F], by omega, z2⟩
  · have hb' : b = 8 := by omega
    have hiL := hC.2.2.1
    obtain ⟨M', z1, z2⟩ := r_bad (j := i) hL hR (rFr.refl 0 Mr) 1 0
    unfold f_X5_readBracketedTest
    rw [hC.2.1.2.2.1, if_neg (by rw [hb']; decide), Option.bind_some, if_pos rfl]
    refine Or.inl ⟨Mc, i, M', 2, rfl, hC.1.2.2.1, by omega, cFr.refl n Mc, fun F => ?_, by omega, z2⟩
    rw [show F + 2 = (F + 1) + 1 from rfl, r_turn0 hR.2.1.2.1]
    unfold f_X12_readPlain f_X12_openBracket f_X12_openBracket_15 f_X12_openBracket_41
    rw [w_not, p_word1 (a := 8) (by decide) rfl hR.1.2, if_pos nw, Option.bind_some, if_pos rfl, show f_X12_isSign 40 Mr = _ from p_signR (c := 40) h255 hR.1.2 (by decide), if_pos h40, Option.bind_some, if_neg (by decide), hR.2.1.2.2.2.1, if_pos (by rw [hb']; decide), hR.mustBad, Option.bind_some, if_neg bad19, Option.bind_some, Option.bind_some]
    exact z1 F
theorem j_plain {T : Nat → Nat} {L o b : Nat} {Z : az_S × Nat} (hL : L ≤ 400) (h255 : ∀ i, T i ≤ 255) (hZ : Z.1.2 17 = 400) (ho : o ≤ 1) {i0 c n m : Nat} {P : List (Nat × Nat)} {Mc0 Mr0 : az_M} {R : az_M → Option (Int32 × az_M)} (hC0 : CSt T L o i0 c b n Mc0) (hR0 : RSt T L o i0 c b m P Mr0) (hP : P = [] ∨ ∃ x P', P = x :: P' ∧ bd x.1 < 3) (hin : innV P ≠ 32) (ih : b < 8 → HT T L o R (b + 1)) : JT T L o i0 c b n m P 3 (fun _ => True) Mc0 Mr0 (f_X5_readPlain Z sp_G R Mc0) := by
  have hb := hC0.2.2.2.2.2
  -- behind the 'not's
  have fin : ∀ (k : Nat) (Mc Mr : az_M) (i K : Nat), CSt T L o i c b n Mc → RSt T L o i c b m (nots k ++ P) Mr → cFr n Mc0 Mc → rFr m Mr0 Mr → (∀ F, f_X12_readExpression_20 sp_G (F + K) 1 0 Mr0 = f_X12_readExpression_20 sp_G F 1 0 Mr) → K ≤ 2 * (i - i0) → i0 + k ≤ i → wx T L i 8 = -1 → JT T L o i0 c b n m P 3 (fun _ => True) Mc0 Mr0 (f_X5_readPlain_41 Z sp_G R (nI (k % 2)) Mc) := by
    intro k Mc Mr i K hC hR fC fR hK hKb hik hnw
    have core : JTB L i n Mc Mr (f_X5_readPlain_41 Z sp_G R (nI (k % 2)) Mc) ∨ ∃ Mc' i' c' n' φ, f_X5_readPlain_41 Z sp_G R (nI (k % 2)) Mc = f_X5_readPlain_141 Z sp_G R (nI (k % 2)) Mc' ∧ JTK T L o i c b n m (nots k ++ P) 4 Mc Mr Mc' i' c' n' φ := by
      by_cases h40 : sg T L i 40
      · exact j_paren hL h255 hC hR h40 ih _
      · exact j_cmp hL h255 hZ ho k hb hC hR hP hin hnw h40 R _
    have hiL := hC.2.2.1
    rcases core with ⟨Mc', j, Mr', K', e1, e2, e3, e4, e5, e6, e7⟩ | ⟨Mc', i', c', n', φ, e1, e2, e3, ⟨⟨e4, e4n⟩, e5, e7⟩, e8, Mr', m', q, K', g1, ⟨gK, gm⟩, g3, g4, g5, g6⟩
    · exact Or.inl ⟨Mc', j, Mr', K' + K, e1, e2, e3, fC.trans e4, fun F => by rw [show F + (K' + K) = (F + K') + K by omega, hK, e5 F], by omega, e7.1, e7.2.1, fR.tB e7.2.2⟩
    · rw [e1]
      have hR' : (∀ F, f_X12_readExpression_20 sp_G (F + (K' + K)) 1 0 Mr0 = f_X12_readExpression_20 sp_G F 1 2 Mr') := fun F => by rw [show F + (K' + K) = (F + K') + K by omega, hK, g1 F]
      have hq : ∀ x, x ∈ q ++ nots k → lT m x ∧ 3 ≤ bd x.1 := fun x hx => by
        rcases List.mem_append.mp hx with h | h
        · exact ⟨(g5 x h).1, by have := (g5 x h).2; omega⟩
        · rw [(List.mem_replicate.mp h).2]; exact ⟨⟨by decide, fun e => by rcases e with e | e <;> exact absurd e (by decide)⟩, by decide⟩
      have sR : rSeg o (stl (q ++ nots k) (Mr'.1 51, Mr'.1 52, m')).1 (stl (q ++ nots k) (Mr'.1 51, Mr'.1 52, m')).2.1 m (stl (q ++ nots k) (Mr'.1 51, Mr'.1 52, m')).2.2 (c' - c) (cnk k φ) := by
        rw [stl_app]; exact rSeg_nots ho e7 k _ g6
      have g3' : RSt T L o i' c' b m' ((q ++ nots k) ++ P) Mr' := by rw [List.append_assoc]; exact g3
      unfold f_X5_readPlain_141 f_X5_readPlain_155
      rw [cnk_mod e7] at sR
      by_cases hk : k % 2 = 1
      · rw [if_pos hk] at sR
        rw [hk, if_neg (by decide)]
        have := e8.1
        have hni := hC.2.2.2.1
        obtain ⟨Mc2, z1, z2, z3, z4⟩ := c_add (s := 10) (w := 0) hZ hL e2 (by have := hC0.2.2.2.1; omega) (by omega) (by omega)
        rw [show f_X10_addStep Z 16 10 0 Mc' = some Mc2 from z1, Option.bind_some]
        have sC := cSeg_not (w := 0) (e8.cong (C' := Mc2.1 17) (fun j _ hj => z3.2.2.1 j hj)) (by rw [z4, up_eq]) (by omega)
        exact Or.inr ⟨Mc2, i', c', n' + 1, cn φ, rfl, trivial, z2, fC.trans (e3.trans (z3.mono (by omega))), ⟨⟨by omega, by omega⟩, e5, is01_cn e7⟩, sC, Mr', m', q ++ nots k, K' + K, hR', ⟨by omega, gm⟩, g3', fR.trans g4, hq, sR⟩
      · rw [if_neg hk] at sR
        rw [show k % 2 = 0 by omega, if_pos (show nI 0 = 0 from rfl)]
        exact Or.inr ⟨Mc', i', c', n', φ, rfl, trivial, e2, fC.trans e3, ⟨⟨by omega, by omega⟩, e5, e7⟩, e8, Mr', m', q ++ nots k, K' + K, hR', ⟨by omega, gm⟩, g3', fR.trans g4, hq, sR⟩
  have loop : ∀ (e : Nat) (k x F : Nat) (Mc Mr : az_M) (i K : Nat), L - i ≤ e → e < F → x ≤ i → CSt T L o i c b n Mc → RSt T L o i c b m (nots k ++ P) Mr → cFr n Mc0 Mc → rFr m Mr0 Mr → (∀ F, f_X12_readExpression_20 sp_G (F + K) 1 0 Mr0 = f_X12_readExpression_20 sp_G F 1 0 Mr) → K ≤ 2 * (i - i0) → i0 + k ≤ i → JT T L o i0 c b n m P 3 (fun _ => True) Mc0 Mr0 (f_X5_readPlain_4 Z sp_G R F (nI (k % 2)) (nI x) Mc) := by
    intro e
    induction e with
    | zero =>
      intro k x F Mc Mr i K he hF hx hC hR fC fR hK hKb hik
      obtain ⟨F, rfl⟩ : ∃ F1, F = F1 + 1 := ⟨F - 1, by omega⟩
      have hiL := hC.2.2.1
      have nw : wx T L i 8 = -1 := by
        unfold wx
        rw [if_neg (fun h => by have := tkd_lt (T := T) (L := L) (p := i) (by omega); omega)]
      rw [f_X5_readPlain_4, show f_X5_wordAmong sp_G 8 Mc = some (wx T L i 8) from p_wordC hL h255 hC.1.1 hC.1.2 hiL (by decide), nw, Option.bind_some, if_pos rfl, ite_self]
      exact fin k Mc Mr i K hC hR fC fR hK hKb hik nw
    | succ e ihe =>
      intro k x F Mc Mr i K he hF hx hC hR fC fR hK hKb hik
      obtain ⟨F, rfl⟩ : ∃ F1, F = F1 + 1 := ⟨F - 1, by omega⟩
      have hiL := hC.2.2.1
      rw [f_X5_readPlain_4, show f_X5_wordAmong sp_G 8 Mc = some (wx T L i 8) from p_wordC hL h255 hC.1.1 hC.1.2 hiL (by decide), Option.bind_some]
      by_cases nw : wx T L i 8 = -1
      · rw [if_pos nw, ite_self]
        exact fin k Mc Mr i K hC hR fC fR hK hKb hik nw
      · have hk1 : tkd T L i = 1 := by
          rcases wx_cases T L i 8 (by decide) with ⟨h, -⟩ | ⟨j, -, h, -⟩
          · exact absurd h nw
          · exact h
        have hk0 : tkd T L i ≠ 0 := by omega
        have tl := tnx_lt hk0
        rw [if_neg nw, if_neg (by rw [show (400 : Int32) = nI 400 from rfl, n_le (by omega) (by omega)]; omega)]
        obtain ⟨Mc1, a1, a2, a3⟩ := hC.next hL h255
        obtain ⟨Mr1, Mr2, b1, b2, b3, b4, b5, b6⟩ := hR.pushNext hL h255 hk0 28 0 (by decide) (by decide)
        have hst : ∀ F, f_X12_readExpression_20 sp_G (F + (K + 1)) 1 0 Mr0 = f_X12_readExpression_20 sp_G F 1 0 Mr2 := by
          intro F
          rw [show F + (K + 1) = (F + 1) + K by omega, hK, r_turn0 hR.2.1.2.1]
          unfold f_X12_readPlain
          rw [w_not, p_word1 (a := 8) (by decide) rfl hR.1.2, if_neg nw, Option.bind_some, if_neg (by decide), show f_X12_push 28 0 Mr = some Mr1 from b1, Option.bind_some, b2]
          rfl
        unfold f_X5_readPlain_30
        rw [a1, Option.bind_some, show nI x + 1 = nI (x + 1) from (nI_succ x).symm]
        have := ihe (k + 1) (x + 1) F Mc1 Mr2 (tnx T L i) (K + 1) (by omega) (by omega) (by omega) a2 b3 (fC.trans (a3.fr n)) (fR.trans b4) hst (by omega) (by omega)
        by_cases h2 : k % 2 = 1
        · rw [show (k + 1) % 2 = 0 by omega] at this
          rw [h2, if_neg (show ¬ nI 1 = 0 by decide)]; exact this
        · rw [show (k + 1) % 2 = 1 by omega] at this
          rw [show k % 2 = 0 by omega, if_pos (show nI 0 = 0 from rfl)]; exact this
  unfold f_X5_readPlain
  exact loop 400 0 0 sp_G Mc0 Mr0 i0 0 (by omega) (by decide) (by omega) hC0 hR0 (cFr.refl n Mc0) (rFr.refl m Mr0) (fun F => rfl) (by omega) (by omega)
