def WL (o : Nat) : Nat := if o = 0 then 11 else 28
theorem WL_le (o : Nat) : WL o ≤ 400 := by unfold WL; split <;> omega
theorem j_push {T : Nat → Nat} {L o i i' c b n m w s : Nat} {P : List (Nat × Nat)} {Mc Mc' Mr Mr' : az_M} {x1 : Int32} {res : Option (Int32 × az_M)} (ho : o ≤ 1) (hi : i < i') (hs : s = 0 ∨ (s = 1 ∧ w < WL o)) (hw : w ≤ 100000) (h1 : res = some (1, Mc')) (h2 : CSt T L o i' (c + 1) b (n + 1) Mc') (h3 : cFr n Mc Mc') (h4 : Mc'.1 17 n = nI (w * 16 + s)) (r1 : ∀ F, f_X12_readExpression_20 sp_G (F + 1) x1 1 Mr = f_X12_readExpression_20 sp_G F x1 3 Mr') (r2 : RSt T L o i' (c + 1) b (m + 1) P Mr') (r3 : rFr m Mr Mr') (r4 : (s = 0 ∧ Mr'.1 51 m = 0 ∧ Mr'.1 52 m = nI w) ∨ (s = 1 ∧ Mr'.1 51 m = nI (rWord o w).1 ∧ Mr'.1 52 m = nI (rWord o w).2)) : JO T L o (WL o) x1 1 3 i c b n m P (fun _ => False) (sok (WL o)) (fun _ => True) Mc Mr res := by
  refine Or.inr ⟨Mc', i', c + 1, n + 1, _, Mr', m + 1, [], 1, h1, h2, h3, ⟨⟨hi, by omega⟩, by omega, trivial, sok_push hs hw⟩, ?_, r1, ⟨by omega, by omega⟩, r2, r3, fun x hx => (by cases hx), ?_⟩
  · rw [show c + 1 - c = 1 by omega]; exact cSeg_push (WL_le o) h4 hs hw
  · rw [show c + 1 - c = 1 by omega]
    refine rSeg_push ho ?_
    rcases r4 with ⟨a, b, c⟩ | ⟨a, b, c⟩
    · exact Or.inl ⟨a, b, c, hw⟩
    · refine Or.inr ⟨a, b, c, ?_⟩
      rcases hs with e | e
      · omega
      · exact e.2
theorem RSt.arg {T : Nat → Nat} {L o i c b m : Nat} {P : List (Nat × Nat)} {M : az_M} (h : RSt T L o i c b m P M) (j : Nat) (v : Int32) : RSt T L o i c b m P (az_i M 52 j v) := by
  obtain ⟨⟨h1, h2⟩, ⟨k1, k2, k3, k4, k5, k6⟩, ⟨p1, p2⟩, bb, rw⟩ := h
  exact ⟨⟨⟨by rw [gi_k (by decide)]; exact h1.1, fun i hi => by rw [gi_k (by decide)]; exact h1.2 i hi⟩, by unfold tokR; rw [gi_k (by decide)]; exact h2⟩, ⟨by rw [gi_k (by decide)]; exact k1, by rw [gi_k (by decide)]; exact k2, by rw [gi_k (by decide)]; exact k3, by rw [gi_k (by decide)]; exact k4, by rw [gi_k (by decide)]; exact k5, by rw [gi_k (by decide)]; exact k6⟩, ⟨p1.cong fun j _ => by rw [gi_k (by decide), gi_k (by decide)]; exact ⟨rfl, rfl⟩, p2⟩, bb, rw⟩
theorem j_part {T : Nat → Nat} {L o i c b n m : Nat} {P : List (Nat × Nat)} {Z : az_S × Nat} {R : az_M → Option (Int32 × az_M)} {Mc Mr : az_M} {x1 : Int32} (hL : L ≤ 400) (h255 : ∀ i, T i ≤ 255) (hZ : Z.1.2 17 = 400) (ho : o ≤ 1) (hC : CSt T L o i c b n Mc) (hR : RSt T L o i c b m P Mr) (ih : b < 8 → HS T L o (WL o) R (b + 1)) :
    JO T L o (WL o) x1 1 3 i c b n m P (fun _ => False) (sok (WL o)) (fun _ => True) Mc Mr (f_X5_readPart Z sp_G R Mc) := by
  have s91 : f_X5_isSign 91 Mc = _ := p_signC (c := 91) hL h255 hC.1.1 hC.1.2 (by decide)
  have kl := tkd_le T L i
  have hiL := hC.2.2.1
  have hni := hC.2.2.2.1
  unfold f_X5_readPart
  rw [s91, Option.bind_some]
  by_cases hsg : sg T L i 91
  · rw [if_pos hsg, if_neg (by decide)]
    have hb8 := hC.2.2.2.2.2
    by_cases hb : b < 8
    · rcases j_brack (Z := Z) (x1 := x1) hL h255 hC hR hsg hb (ih hb) with ⟨Mc', j, Mr', K, e1, e2⟩ | ⟨Mc', i', c', n', φ, Mr', m', q, K, e1, e2⟩
      · rw [e1, Option.bind_some, if_pos (Or.inl rfl)]; exact Or.inl ⟨Mc', j, Mr', K, rfl, e2⟩
      · rw [e1, Option.bind_some, if_pos (Or.inr rfl)]; exact Or.inr ⟨Mc', i', c', n', φ, Mr', m', q, K, rfl, e2⟩
    · have hb' : b = 8 := by omega
      obtain ⟨M', z1, z2⟩ := r_bad (j := i) hL hR (rFr.refl 0 Mr) x1 1
      refine Or.inl ⟨Mc, i, M', 2, ?_, hC.1.2.2.1, by omega, cFr.refl n Mc, fun F => ?_, by omega, z2⟩
      · unfold f_X5_readBracketedSum
        rw [hC.2.1.2.2.1, if_neg (by rw [hb']; decide), Option.bind_some, if_pos (Or.inl rfl)]
      · rw [show F + 2 = (F + 1) + 1 from rfl, r_turn1 hR.2.1.2.1]
        unfold f_X12_readPart f_X12_openBracket f_X12_openBracket_15 f_X12_openBracket_41
        rw [show f_X12_isSign 91 Mr = _ from p_signR (c := 91) h255 hR.1.2 (by decide), if_pos hsg, Option.bind_some, if_neg (by decide), hR.2.1.2.2.2.1, if_pos (by rw [hb']; decide), hR.mustBad, Option.bind_some, if_neg bad19, Option.bind_some, Option.bind_some]
        exact z1 F
  · rw [if_neg hsg, if_pos rfl, hC.2.1.2.1]
    -- a part that isn't one
    have fail : ∀ Mc' : az_M, Mc'.1 15 4 = nI i → cFr n Mc Mc' → (c = 50 ∨ (¬ (tkd T L i = 2 ∧ numC T L i ≤ 1000) ∧ wx T L i (if o = 0 then 10 else 9) = -1)) → JO T L o (WL o) x1 1 3 i c b n m P (fun _ => False) (sok (WL o)) (fun _ => True) Mc Mr (some (0, Mc')) := by
      intro Mc' h1 h2 h3
      obtain ⟨t, ht⟩ := r_partBad hL h255 ho hR hsg h3
      obtain ⟨M', z1, z2⟩ := r_bad (j := i) hL hR (rFr.refl 0 Mr) x1 t
      exact Or.inl ⟨Mc', i, M', 2, rfl, h1, by omega, h2, fun F => by rw [show F + 2 = (F + 1) + 1 from rfl, r_turn1 hR.2.1.2.1, ht, Option.bind_some]; exact z1 F, by omega, z2⟩
    have hc50 := hC.2.2.2.2.1
    by_cases hc : c = 50
    · rw [if_neg (by rw [hc]; decide)]; exact fail Mc hC.1.2.2.1 (cFr.refl n Mc) (Or.inl hc)
    · have hclt : c < 50 := by omega
      rw [if_pos (by rw [show (50 : Int32) = nI 50 from rfl, n_lt (by omega) (by omega)]; exact hclt), show nI c + 1 = nI (c + 1) from (nI_succ c).symm]
      have hX := hC.put (j := 7) (v := nI (c + 1)) (c' := c + 1) (b' := b) (Or.inl ⟨rfl, rfl, rfl, by omega⟩)
      generalize hXe : az_i Mc 15 7 (nI (c + 1)) = X at hX
      have fX : cFr n Mc X := by rw [← hXe]; exact cFr_15 n (by decide)
      have x4 : X.1 15 4 = nI i := hX.1.2.2.1
      have key : JO T L o (WL o) x1 1 3 i c b n m P (fun _ => False) (sok (WL o)) (fun _ => True) Mc Mr (f_X5_readPart_50 Z sp_G R (if o = 0 then 10 else 9) X) := by
        have hwC : f_X5_wordAmong sp_G (if o = 0 then 10 else 9) X = some (wx T L i (if o = 0 then 10 else 9)) := p_wordC hL h255 hX.1.1 hX.1.2 hiL (by split <;> decide)
        obtain ⟨Y, y1, y2, y3⟩ := hX.next hL h255
        have nr := num_rel T L (L - i) i 0 0 (Or.inl rfl)
        have nb := numR_le T L i h255
        have ncb := numC_le T L i h255
        -- the class's leaf
        have leafC : ∀ (s w : Nat) (W : az_M) (i' : Nat), s ≤ 1 → w ≤ 100000 → i < i' → CSt T L o i' (c + 1) b n W → cFr n X W → ∃ Mc', f_X5_readPart_172 Z sp_G R (if s = 0 then 1 else 0) (nI w) W = some (1, Mc') ∧ CSt T L o i' (c + 1) b (n + 1) Mc' ∧ cFr n Mc Mc' ∧ Mc'.1 17 n = nI (w * 16 + s) := by
          intro s w W i' hs hw hi' hW fW
          obtain ⟨Mc', a1, a2, a3, a4⟩ := c_add (s := s) (w := w) hZ hL hW (by omega) (by omega) hw
          refine ⟨Mc', ?_, a2, fX.trans (fW.trans a3), by rw [a4, up_eq]⟩
          unfold f_X5_readPart_172 f_X5_readPart_185
          rcases (show s = 0 ∨ s = 1 by omega) with rfl | rfl
          · rw [if_pos rfl, if_neg (by decide), show f_X10_addStep Z 16 0 (nI w) W = some Mc' from a1]; rfl
          · rw [if_neg (show ¬ ((1 : Nat) = 0) by decide), if_pos rfl, show f_X10_addStep Z 16 1 (nI w) W = some Mc' from a1]; rfl
        unfold f_X5_readPart_50
        rw [hwC, Option.bind_some, hX.1.2.1, hX.1.2.2.2.2]
        by_cases hN : tkd T L i = 2 ∧ numC T L i ≤ 1000
        · -- a number
          have hk0 : tkd T L i ≠ 0 := by omega
          have tl := tnx_lt hk0
          have hwx : ∀ a, wx T L i a = -1 := fun a => by unfold wx; rw [if_neg (by omega)]
          have hnv : tnv T L 1000 (tkd T L i) i 0 = numC T L i := by unfold tnv numC; rw [if_pos hN.1]
          obtain ⟨Mc', a1, a2, a3, a4⟩ := leafC 0 (numC T L i) Y (tnx T L i) (by omega) (by omega) (by omega) y2 (y3.fr n)
          obtain ⟨Mr', b1, b2, b3, b4, b5⟩ := hR.leaf hL h255 hclt hk0 0 (nI (numC T L i))
          have hnum : tnum T L 1000000 (L - i) i 0 = numC T L i := by unfold numC at hN ⊢; omega
          refine j_push (s := 0) (w := numC T L i) ho tl.1 (Or.inl rfl) (by omega) ?_ a2 a3 a4 (fun F => ?_) b2 b5 (Or.inl ⟨rfl, by rw [b3, up_eq], by rw [b4, up_eq]⟩)
          · rw [if_pos (by rw [hN.1]; rfl), hnv, if_neg (by rw [show (1000 : Int32) = nI 1000 from rfl, n_lt (by omega) (by omega)]; omega)]
            unfold f_X5_readPart_77 f_X5_readPart_89 f_X5_readPart_101
            rw [if_neg (by decide), if_neg (by decide), y1, Option.bind_some, hwx, hX.1.2.2.2.2, hnv]
            by_cases h2 : Y.1 15 2 = 0
            · rw [if_pos h2]; exact a1
            · rw [if_neg h2, if_pos (by decide)]; exact a1
          · rw [r_turn1 hR.2.1.2.1]
            have e35 : f_X12_readPart_35 sp_G (-1) Mr = some (3, Mr') := by
              unfold f_X12_readPart_35 f_X12_readPart_60 f_X12_readPart_71 f_X12_readPart_76 f_X12_readPart_86 f_X12_readPart_99 f_X12_readPart_155
              rw [hR.1.2.1, if_pos (by rw [hN.1]; rfl), hR.1.2.2.2.2, worth_num hN.1, hnum, if_neg (show ¬ (1000 : Int64) < lN (numC T L i) from fun e => by have := (lN_lt (a := 1000) (by decide) (by omega)).mp e; omega), if_pos rfl, if_neg (by decide), if_pos rfl, if_neg (by decide), lN_i, b1, Option.bind_some]
              by_cases h2 : Mr'.1 40 20 = 0
              · rw [if_pos h2]
              · rw [if_neg h2, if_pos (by decide)]
            unfold f_X12_readPart
            rw [show f_X12_isSign 91 Mr = _ from p_signR (c := 91) h255 hR.1.2 (by decide), if_neg hsg, Option.bind_some, if_pos rfl, p_partAt hR.1.2 hR.2.2.2.2, p_orderPartAt hR.1.2 hR.2.2.2.2, hwx, hwx, if_pos rfl, Option.bind_some]
            simp only [e35]
            by_cases h2 : Mr.1 40 20 = 0
            · rw [if_pos h2]; rfl
            · rw [if_neg h2]; rfl
        · -- a word, or none
          have hna : ∀ A B : Option (Int32 × az_M), (if nI (tkd T L i) = 2 then (if 1000 < nI (tnv T L 1000 (tkd T L i) i 0) then A else B) else A) = A := by
            intro A B
            by_cases h2 : tkd T L i = 2
            · have hnv : tnv T L 1000 (tkd T L i) i 0 = numC T L i := by unfold tnv numC; rw [if_pos h2]
              rw [if_pos (by rw [h2]; rfl), hnv, if_pos]
              rw [show (1000 : Int32) = nI 1000 from rfl, n_lt (by omega) (by omega)]
              have : ¬ numC T L i ≤ 1000 := fun e => hN ⟨h2, e⟩
              omega
            · rw [if_neg (by rw [show (2 : Int32) = nI 2 from rfl, n_eq (by omega) (by omega)]; exact h2)]
          rw [hna]
          unfold f_X5_readPart_76 f_X5_readPart_77
          rw [if_pos rfl]
          rcases wx_cases T L i (if o = 0 then 10 else 9) (by split <;> decide) with ⟨hx, -⟩ | ⟨j, hj1, hj2, hj3, hj4⟩
          · rw [if_pos hx]; exact fail X x4 fX (Or.inr ⟨hN, hx⟩)
          · have hk0 : tkd T L i ≠ 0 := by omega
            have tl := tnx_lt hk0
            have hjb : j < 11 := by
              have : (wtab (if o = 0 then 10 else 9)).length ≤ 11 := wIx_len _ (by split <;> decide)
              omega
            rw [hj4, if_neg (by rw [n_nm1 (by omega)]; exact not_false)]
            unfold f_X5_readPart_89 f_X5_readPart_101
            rw [if_pos rfl, y1, Option.bind_some, y2.2.1.1]
            obtain ⟨Mr', b1, b2, b3, b4, b5⟩ := hR.leaf hL h255 hclt hk0 (nI (j + 1)) 0
            -- the reference, up to the leaf
            have rleaf : f_X12_readPart sp_G Mr = (if (Mr'.1 40 20) = 0 then f_X12_readPart_155 sp_G Mr' else (if nI (j + 1) < 7 then f_X12_readPart_155 sp_G Mr' else (if (Mr'.1 40 19) = 0 then (if nI (j + 1) = 7 then f_X12_readPart_151 sp_G 9 0 ((Mr'.1 40 23) - 1) Mr' else f_X12_readPart_151 sp_G 11 0 ((Mr'.1 40 23) - 1) Mr') else f_X12_readPart_155 sp_G Mr'))) := by
              have e35 : f_X12_readPart_35 sp_G (nI (j + 1)) Mr = (if (Mr'.1 40 20) = 0 then f_X12_readPart_155 sp_G Mr' else (if nI (j + 1) < 7 then f_X12_readPart_155 sp_G Mr' else (if (Mr'.1 40 19) = 0 then (if nI (j + 1) = 7 then f_X12_readPart_151 sp_G 9 0 ((Mr'.1 40 23) - 1) Mr' else f_X12_readPart_151 sp_G 11 0 ((Mr'.1 40 23) - 1) Mr') else f_X12_readPart_155 sp_G Mr'))) := by
                unfold f_X12_readPart_35 f_X12_readPart_59 f_X12_readPart_60 f_X12_readPart_71 f_X12_readPart_76 f_X12_readPart_86 f_X12_readPart_99
                rw [hR.1.2.1, hj2, if_neg (by decide), if_neg (by rw [n_nm1 (by omega)]; exact not_false), if_neg (by rw [n_nm1 (by omega)]; exact not_false), if_pos rfl, b1, Option.bind_some]
              unfold f_X12_readPart
              rw [show f_X12_isSign 91 Mr = _ from p_signR (c := 91) h255 hR.1.2 (by decide), if_neg hsg, Option.bind_some, if_pos rfl, hR.2.1.1]
              rcases (show o = 0 ∨ o = 1 by omega) with rfl | rfl
              · rw [if_pos (show nI 0 = 0 from rfl), p_partAt hR.1.2 hR.2.2.2.2, Option.bind_some]
                rw [if_pos rfl] at hj4
                rw [hj4, if_neg (by rw [n_nm1 (by omega)]; exact not_false), show nI j + 1 = nI (j + 1) from (nI_succ j).symm, e35]
              · rw [if_neg (show ¬ nI 1 = 0 by decide), p_orderPartAt hR.1.2 hR.2.2.2.2, Option.bind_some]
                rw [if_neg (by decide)] at hj4
                rw [hj4, if_neg (by rw [n_nm1 (by omega)]; exact not_false), show nI j + 1 = nI (j + 1) from (nI_succ j).symm, e35]
            have plain : (o = 0 ∨ j < 6) → JO T L o (WL o) x1 1 3 i c b n m P (fun _ => False) (sok (WL o)) (fun _ => True) Mc Mr (f_X5_readPart_172 Z sp_G R 0 (nI j) Y) := by
              intro hp
              obtain ⟨Mc', a1, a2, a3, a4⟩ := leafC 1 j Y (tnx T L i) (by omega) (by omega) (by omega) y2 (y3.fr n)
              have hwl : j < WL o := by
                unfold WL
                rcases hp with e | e
                · rw [if_pos e]; exact hjb
                · split <;> omega
              have hrw : rWord o j = (j + 1, 0) := by unfold rWord; rw [if_pos hp]
              refine j_push (s := 1) (w := j) ho tl.1 (Or.inr ⟨rfl, hwl⟩) (by omega) a1 a2 a3 a4 (fun F => ?_) b2 b5 (Or.inr ⟨rfl, by rw [b3, up_eq, hrw], by rw [b4, up_eq, hrw]; rfl⟩)
              rw [r_turn1 hR.2.1.2.1, rleaf]
              unfold f_X12_readPart_155
              by_cases h2 : Mr'.1 40 20 = 0
              · rw [if_pos h2]; rfl
              · have h6 : j < 6 := by
                  rcases hp with e | e
                  · exfalso; rw [b2.2.1.1, e] at h2; exact h2 rfl
                  · exact e
                rw [if_neg h2, if_pos (by rw [show (7 : Int32) = nI 7 from rfl, n_lt (by omega) (by omega)]; omega)]; rfl
            rcases (show o = 0 ∨ o = 1 by omega) with rfl | rfl
            · rw [if_pos (show nI 0 = 0 from rfl)]; exact plain (Or.inl rfl)
            · rw [if_neg (show ¬ nI 1 = 0 by decide)]
              by_cases h6 : j < 6
              · rw [if_pos (by rw [show (6 : Int32) = nI 6 from rfl, n_lt (by omega) (by omega)]; exact h6)]; exact plain (Or.inr h6)
              · rw [if_neg (by rw [show (6 : Int32) = nI 6 from rfl, n_lt (by omega) (by omega)]; exact h6)]
                have hj8 : j < 8 := hj1
                -- hurt, dents: a number behind
                obtain ⟨i1, hi1⟩ : ∃ i1, i1 = tnx T L i := ⟨_, rfl⟩
                rw [← hi1] at y2 b2 tl
                have nr1 := num_rel T L (L - i1) i1 0 0 (Or.inl rfl)
                have nb1 := numR_le T L i1 h255
                have ncb1 := numC_le T L i1 h255
                have k1 := tkd_le T L i1
                obtain ⟨mx, bs, hmx, hbs⟩ : ∃ mx bs, mx = (if j = 6 then 10 else 12) ∧ bs = (if j = 6 then 6 else 16) := ⟨_, _, rfl, rfl⟩
                have hmxb : mx ≤ 12 ∧ 10 ≤ mx ∧ bs ≤ 16 ∧ 6 ≤ bs := by rw [hmx, hbs]; split <;> omega
                have rnum : ∀ A : Int32, f_X12_readPart sp_G Mr = (f_X12_number sp_G 0 (lN (mx - 1)) Mr').bind fun q23 => some (3, az_i q23.2 52 m q23.1) := by
                  intro _
                  rw [rleaf, if_neg (by rw [b2.2.1.1]; decide), if_neg (by rw [show (7 : Int32) = nI 7 from rfl, n_lt (by omega) (by omega)]; omega), if_pos b2.2.1.2.1, b2.2.1.2.2.2.2.1, show nI (m + 1) - 1 = nI m from nI_pred m]
                  unfold f_X12_readPart_151 f_X12_readPart_155
                  have hm4 : m < 400 := by have := hR.2.2.2.1.2.1; omega
                  rw [n_cl (by omega)]
                  simp only [if_neg (nIn hm4 (show m < 2147483648 by omega))]
                  by_cases h66 : j = 6
                  · rw [if_pos (by rw [h66]; rfl)]
                    rw [hmx, if_pos h66]; rfl
                  · rw [if_neg (by rw [show (7 : Int32) = nI 7 from rfl, n_eq (by omega) (by omega)]; omega)]
                    rw [hmx, if_neg h66]; rfl
                have e144 : (if nI j = 6 then f_X5_readPart_144 Z sp_G R (nI j) 0 10 (Y.1 15 6) Y else f_X5_readPart_144 Z sp_G R (nI j) 0 12 (Y.1 15 6) Y) = (if Y.1 15 6 < nI mx then f_X5_readPart_162 Z sp_G R 0 (nI bs) Y else some (0, Y)) := by
                  unfold f_X5_readPart_144 f_X5_readPart_147
                  by_cases h66 : j = 6
                  · rw [if_pos (show nI j = 6 by rw [h66]; rfl), if_pos (show nI j = 6 by rw [h66]; rfl), hmx, hbs, if_pos h66, if_pos h66]; rfl
                  · have : ¬ nI j = 6 := by rw [show (6 : Int32) = nI 6 from rfl, n_eq (by omega) (by omega)]; exact h66
                    rw [if_neg this, if_neg this, hmx, hbs, if_neg h66, if_neg h66]; rfl
                rw [e144, y2.1.2.1, y2.1.2.2.2.2]
                unfold f_X5_readPart_147
                have numBad : (¬ (tkd T L i1 = 2 ∧ numC T L i1 < mx)) → JO T L 1 (WL 1) x1 1 3 i c b n m P (fun _ => False) (sok (WL 1)) (fun _ => True) Mc Mr (some (0, Y)) := by
                  intro hbad
                  have en : ∃ v, f_X12_number sp_G 0 (lN (mx - 1)) Mr' = some (v, badM Mr' i1) := by
                    unfold f_X12_number f_X12_number_32 f_X12_number_33
                    rw [b2.1.2.1, b2.mustBad, Option.bind_some]
                    by_cases h2 : tkd T L i1 = 2
                    · rw [if_pos (by rw [h2]; rfl), b2.1.2.2.2.2, worth_num h2, p_in_iff, lN_big (by omega), lN_toInt (by omega), Option.bind_some, if_neg (show ¬ ((0 : Int64).toInt ≤ ((tnum T L 1000000 (L - i1) i1 0 : Nat) : Int) ∧ ((tnum T L 1000000 (L - i1) i1 0 : Nat) : Int) ≤ ((mx - 1 : Nat) : Int)) from fun e => hbad ⟨h2, by have := e.2; unfold numC; omega⟩), if_pos rfl]
                      exact ⟨_, rfl⟩
                    · rw [if_neg (by rw [show (2 : Int32) = nI 2 from rfl, n_eq (by omega) (by omega)]; exact h2)]; exact ⟨_, rfl⟩
                  obtain ⟨v, hv⟩ := en
                  obtain ⟨M', z1, z2⟩ := r_bad (j := i1) hL (b2.arg m v) ((b5.mono (by omega)).trans (⟨fun k a _ b _ _ => gi_k b, fun j _ _ _ _ _ _ _ _ _ => by rw [gi_k (by decide)], fun _ _ => rfl, fun _ _ => rfl, rfl, fun j hj => absurd hj (by omega)⟩ : rFr 0 Mr' (az_i Mr' 52 m v))) x1 3
                  refine Or.inl ⟨Y, i1, M', 2, rfl, y2.1.2.2.1, by have := y2.2.2.1; omega, fX.trans (y3.fr n), fun F => ?_, by omega, z2⟩
                  rw [show F + 2 = (F + 1) + 1 from rfl, r_turn1 hR.2.1.2.1, rnum 0, hv, Option.bind_some, Option.bind_some]
                  have : az_i (badM Mr' i1) 52 m v = badM (az_i Mr' 52 m v) i1 := by
                    unfold badM
                    rw [az_i_ro, az_i_ro, az_i_ro, az_i_ro, az_i_ro, az_i_ro]
                    refine Prod.ext ?_ rfl
                    funext k
                    by_cases h52 : k = 52
                    · subst h52; rw [ro_eq, ro_ne (by decide), ro_ne (by decide), ro_ne (by decide), ro_ne (by decide), ro_eq]
                    · rw [ro_ne h52]
                      by_cases h40 : k = 40
                      · subst h40; rw [ro_eq, ro_eq, ro_eq, ro_eq, ro_ne (by decide)]
                      · rw [ro_ne h40, ro_ne h40, ro_ne h40, ro_ne h40, ro_ne h52]
                  rw [this]; exact z1 F
                by_cases h2 : tkd T L i1 = 2
                · have hnv : tnv T L 1000 (tkd T L i1) i1 0 = numC T L i1 := by unfold tnv numC; rw [if_pos h2]
                  rw [if_pos (by rw [h2]; rfl), hnv]
                  by_cases hlt : numC T L i1 < mx
                  · rw [if_pos (by rw [n_lt (by omega) (by omega)]; exact hlt)]
                    unfold f_X5_readPart_162
                    obtain ⟨W, w1, w2, w3⟩ := y2.next hL h255
                    have tl1 := tnx_lt (T := T) (L := L) (i := i1) (by omega)
                    obtain ⟨Mc', a1, a2, a3, a4⟩ := leafC 1 (bs + numC T L i1) W (tnx T L i1) (by omega) (by omega) (by omega) w2 ((y3.fr n).trans (w3.fr n))
                    rw [w1, Option.bind_some, y2.1.2.2.2.2, hnv, n_add]
                    obtain ⟨V, v1, v2, v3⟩ := b2.mustOK hL h255
                    have hnum : tnum T L 1000000 (L - i1) i1 0 = numC T L i1 := by unfold numC at hlt ⊢; omega
                    have en : f_X12_number sp_G 0 (lN (mx - 1)) Mr' = some (nI (numC T L i1), V) := by
                      unfold f_X12_number f_X12_number_32 f_X12_number_33
                      rw [b2.1.2.1, if_pos (by rw [h2]; rfl), b2.1.2.2.2.2, worth_num h2, hnum, p_in_iff, lN_big (by omega), lN_toInt (by omega), Option.bind_some, if_pos (show (0 : Int64).toInt ≤ ((numC T L i1 : Nat) : Int) ∧ ((numC T L i1 : Nat) : Int) ≤ ((mx - 1 : Nat) : Int) from ⟨by have : (0 : Int64).toInt = 0 := rfl; omega, by omega⟩), if_neg (by decide), v1, Option.bind_some, lN_i]
                    have hrw : rWord 1 (bs + numC T L i1) = (j + 1, numC T L i1) := by
                      unfold rWord
                      rw [if_neg (by omega)]
                      by_cases h66 : j = 6
                      · have q1 : bs = 6 := by rw [hbs, if_pos h66]
                        have q2 : mx = 10 := by rw [hmx, if_pos h66]
                        rw [if_pos (by omega), h66]; exact congrArg (fun z => (7, z)) (by omega)
                      · have q1 : bs = 16 := by rw [hbs, if_neg h66]
                        rw [if_neg (by omega), show j = 7 by omega]; exact congrArg (fun z => (8, z)) (by omega)
                    have hwl : bs + numC T L i1 < WL 1 := by
                      unfold WL
                      rw [if_neg (by decide)]
                      by_cases h66 : j = 6
                      · have q1 : bs = 6 := by rw [hbs, if_pos h66]
                        omega
                      · have q1 : bs = 16 := by rw [hbs, if_neg h66]
                        omega
                    have fV : rFr m Mr (az_i V 52 m (nI (numC T L i1))) := b5.trans ((v3.fr m).trans ⟨fun k a _ b _ _ => gi_k b, fun j _ _ _ _ _ _ _ _ _ => by rw [gi_k (by decide)], fun _ _ => rfl, fun _ _ => rfl, rfl, fun j hj => by rw [gi_k (by decide), gi, if_pos rfl, if_neg (by omega)]; exact ⟨rfl, rfl⟩⟩)
                    refine j_push (s := 1) (w := bs + numC T L i1) ho (by omega) (Or.inr ⟨rfl, hwl⟩) (by omega) a1 a2 a3 a4 (fun F => ?_) (v2.arg m (nI (numC T L i1))) fV (Or.inr ⟨rfl, ?_, ?_⟩)
                    · rw [r_turn1 hR.2.1.2.1, rnum 0, en]; rfl
                    · rw [gi_k (by decide), v3.1 51 (by decide), b3, up_eq, hrw]
                    · rw [gi, if_pos rfl, if_pos rfl, hrw]
                  · rw [if_neg (by rw [n_lt (by omega) (by omega)]; exact hlt)]
                    exact numBad (fun e => hlt e.2)
                · rw [if_neg (by rw [show (2 : Int32) = nI 2 from rfl, n_eq (by omega) (by omega)]; exact h2)]
                  exact numBad (fun e => h2 e.1)
      rw [hX.2.1.1]
      rcases (show o = 0 ∨ o = 1 by omega) with rfl | rfl
      · rw [if_pos (show nI 0 = 0 from rfl)]; exact key
      · rw [if_neg (show ¬ nI 1 = 0 by decide)]; exact key
