/-! BOTH READERS: all clauses -/
def JC (T : Nat → Nat) (L o w : Nat) {γ : Type} (PC : (Nat → Int32) → (Nat → Int32) → Nat → Nat → γ → Prop) (PR : (Nat → Int32) → (Nat → Int32) → (Nat → Int32) → Nat → Nat → γ → Prop) (i c n m k : Nat) (Mc Mr : az_M) (res : Option (Int32 × az_M)) (resR : Option az_M) : Prop :=
  (∃ Mc' j Mr', res = some (0, Mc') ∧ resR = some Mr' ∧ Mc'.1 15 4 = nI j ∧ j ≤ 400 ∧ cQ n (6 * k) Mc Mc' ∧ (Mr'.1 40 19 = 1 ∧ Mr'.1 40 18 = nI j ∧ rQb w Mr Mr'))
    ∨ ∃ Mc' Mr' i' c' n' m' x, res = some (1, Mc') ∧ resR = some Mr' ∧ CSt T L o i' c' 0 n' Mc' ∧ RB T L o i' c' m' Mr' ∧ Mr'.1 40 21 = nI (k + 1) ∧ cQ n (6 * k) Mc Mc' ∧ rQ w m (8 * k) Mr Mr' ∧ ((i < i' ∧ n' + i ≤ n + i') ∧ n ≤ n' ∧ m ≤ m' ∧ c ≤ c') ∧ PC (Mc'.1 17) (Mc'.1 18) k n' x ∧ PR (Mr'.1 51) (Mr'.1 52) (Mr'.1 w) k m' x
/-- both readers, at a text's end -/
def RD (T : Nat → Nat) (L o w : Nat) {γ β : Type} (PC : (Nat → Int32) → (Nat → Int32) → Nat → Nat → γ → Prop) (PR : (Nat → Int32) → (Nat → Int32) → (Nat → Int32) → Nat → Nat → γ → Prop) (endK : az_M → Option β) (Mc0 Mr0 : az_M) (res : Option (Int32 × az_M)) (resR : Option β) : Prop :=
  (∃ Mc' j X Mr', res = some (nI j, Mc') ∧ j ≤ 400 ∧ cQ 0 0 Mc0 Mc' ∧ resR = endK X ∧ f_X12_endText sp_G X = some (az_i (az_i Mr' 40 20 0) 40 13 0) ∧ Mr'.1 40 19 = 1 ∧ Mr'.1 40 18 = nI j ∧ rQb w Mr0 Mr')
    ∨ ∃ (Mc' X : az_M) (i c n m : Nat) (l : List γ), res = some (-1, Mc') ∧ resR = endK X ∧ f_X12_endText sp_G X = some (az_i (az_i X 40 20 0) 40 13 0) ∧ CSt T L o i c 0 n Mc' ∧ RB T L o i c m X ∧ (Mc'.1 16 3 = nI l.length ∧ X.1 40 21 = nI l.length ∧ 1 ≤ l.length ∧ l.length ≤ 12) ∧ cQ 0 0 Mc0 Mc' ∧ rQ w 0 0 Mr0 X ∧ ∀ (c : Nat) (x : γ), l[c]? = some x → PC (Mc'.1 17) (Mc'.1 18) c n x ∧ PR (X.1 51) (X.1 52) (X.1 w) c m x
theorem RB.st0 {T : Nat → Nat} {L o i c m : Nat} {M : az_M} (h : RB T L o i c m M) : M.1 40 16 = nI (tkd T L i) := h.1.2.1
theorem j_read {T : Nat → Nat} {L o w : Nat} {Z : az_S × Nat} {γ β : Type} {PC : (Nat → Int32) → (Nat → Int32) → Nat → Nat → γ → Prop} {PR : (Nat → Int32) → (Nat → Int32) → (Nat → Int32) → Nat → Nat → γ → Prop} {endK : az_M → Option β} {readR : az_M → Option az_M} {loopR : Nat → az_M → Option β} {clC : Int32 → az_M → Option (Int32 × az_M)} (hL : L ≤ 400) (h255 : ∀ i, T i ≤ 255) (hw : w = 50 ∨ w = 69)
    (hPC : ∀ C D C' D' k n n' x, PC C D k n x → n ≤ n' → (∀ j, j < n → C' j = C j) → (∀ j, j < 6 * (k + 1) → D' j = D j) → PC C' D' k n' x)
    (hPR : ∀ Op Ar D Op' Ar' D' k n n' x, PR Op Ar D k n x → n ≤ n' → (∀ j, j < n → Op' j = Op j ∧ Ar' j = Ar j) → (∀ j, j < 8 * (k + 1) → D' j = D j) → PR Op' Ar' D' k n' x)
    (hcl : ∀ (i c n m k : Nat) (Mc Mr : az_M), k < 12 → CSt T L o i c 0 n Mc → RB T L o i c m Mr → Mr.1 40 21 = nI k → JC T L o w PC PR i c n m k Mc Mr (clC (nI k) Mc) (readR Mr))
    (h12 : ∀ (i c m : Nat) (Mr : az_M), RB T L o i c m Mr → Mr.1 40 21 = nI 12 → ∃ Mr', readR Mr = some Mr' ∧ Mr'.1 40 19 = 1 ∧ Mr'.1 40 18 = nI i ∧ rQb w Mr Mr')
    (hlp : ∀ F M, loopR (F + 1) M = if M.1 40 19 = 0 then (f_X12_isSign 59 M).bind (fun q => if q = 0 then endK M else (f_X12_next sp_G M).bind fun q12 => (readR q12).bind fun q14 => loopR F q14) else endK M)
    (hcC : ∀ F k M, M.1 15 2 = nI o → k < 12 → f_X5_read_42 Z sp_G (F + 1) (nI k) M = (clC (nI k) M).bind fun q => if q.1 = 0 then f_X5_read_74 Z sp_G q.2 else f_X5_read_79 Z sp_G (f_X5_read_42 Z sp_G F) (nI k) q.2) (Mc0 Mr0 : az_M) :
    ∀ (e k F F' : Nat) (Mc Mr : az_M) (i c n m : Nat) (l : List γ), k + e = 12 → e < F → e < F' → l.length = k → CSt T L o i c 0 n Mc → RB T L o i c m Mr → Mr.1 40 21 = nI k → cQ 0 0 Mc0 Mc → rQ w 0 0 Mr0 Mr → (∀ (c : Nat) (x : γ), l[c]? = some x → PC (Mc.1 17) (Mc.1 18) c n x ∧ PR (Mr.1 51) (Mr.1 52) (Mr.1 w) c m x) → RD T L o w PC PR endK Mc0 Mr0 (f_X5_read_42 Z sp_G F (nI k) Mc) ((readR Mr).bind fun q => loopR F' q) := by
  have et1 : ∀ {M : az_M}, M.1 40 19 = 1 → f_X12_endText sp_G M = some (az_i (az_i M 40 20 0) 40 13 0) := fun {M} h => by
    unfold f_X12_endText f_X12_endText_19
    rw [if_neg (by rw [h]; decide)]
  intro e
  induction e with
  | zero =>
    intro k F F' Mc Mr i c n m l hk hF hF' hl hC hR h21 fC fR hP
    obtain ⟨F, rfl⟩ : ∃ F1, F = F1 + 1 := ⟨F - 1, by omega⟩
    obtain ⟨F', rfl⟩ : ∃ F1, F' = F1 + 1 := ⟨F' - 1, by omega⟩
    have hk12 : k = 12 := by omega
    have hiL := hC.2.2.1
    obtain ⟨Mr', a1, a2, a3, a4⟩ := h12 i c m Mr hR (by rw [h21, hk12])
    rw [f_X5_read_42, if_pos (by rw [hk12]; decide), a1, Option.bind_some, hlp, if_neg (by rw [a2]; decide), hC.1.2.2.1]
    exact Or.inl ⟨Mc, i, Mr', Mr', rfl, by omega, fC, rfl, et1 a2, a2, a3, fR.tB a4⟩
  | succ e ih =>
    intro k F F' Mc Mr i c n m l hk hF hF' hl hC hR h21 fC fR hP
    obtain ⟨F, rfl⟩ : ∃ F1, F = F1 + 1 := ⟨F - 1, by omega⟩
    obtain ⟨F', rfl⟩ : ∃ F1, F' = F1 + 1 := ⟨F' - 1, by omega⟩
    rw [hcC F k Mc hC.2.1.1 (by omega)]
    rcases hcl i c n m k Mc Mr (by omega) hC hR h21 with ⟨Mc', j, Mr', e1, e2, e3, e4, e5, e6, e7, e8⟩ | ⟨Mc', Mr', i', c', n', m', x, e1, e2, e3, e4, e5, e6, e7, ⟨⟨b1, b2⟩, b3, b4, b5⟩, p1, p2⟩
    · rw [e1, Option.bind_some, if_pos rfl, e2, Option.bind_some, hlp, if_neg (by rw [e6]; decide)]
      unfold f_X5_read_74
      rw [e3]
      exact Or.inl ⟨Mc', j, Mr', Mr', rfl, e4, fC.trans (e5.mono (by omega) (by omega)), rfl, et1 e6, e6, e7, fR.tB e8⟩
    · rw [e1, Option.bind_some, if_neg (show ¬ (1 : Int32) = 0 by decide), e2, Option.bind_some, hlp, if_pos e4.2.1.2.1, show f_X12_isSign 59 Mr' = _ from p_signR (c := 59) h255 e4.1.2 (by decide), Option.bind_some]
      unfold f_X5_read_79
      rw [show nI k + 1 = nI (k + 1) from (nI_succ k).symm]
      have hX := e3.s163 (nI (k + 1))
      have fX : cQ 0 0 Mc0 (az_i Mc' 16 3 (nI (k + 1))) := fC.trans ((e6.mono (by omega) (by omega)).trans (cQ_163 0 0))
      have x3 : (az_i Mc' 16 3 (nI (k + 1))).1 16 3 = nI (k + 1) := by rw [gi, if_pos rfl, if_pos rfl]
      have x17 : (az_i Mc' 16 3 (nI (k + 1))).1 17 = Mc'.1 17 := gi_k (by decide)
      have x18 : (az_i Mc' 16 3 (nI (k + 1))).1 18 = Mc'.1 18 := gi_k (by decide)
      generalize az_i Mc' 16 3 (nI (k + 1)) = X at hX fX x3 x17 x18
      have fR' : rQ w 0 0 Mr0 Mr' := fR.trans (e7.mono (by omega) (by omega))
      have hP' : ∀ (c : Nat) (y : γ), (l ++ [x])[c]? = some y → PC (X.1 17) (X.1 18) c n' y ∧ PR (Mr'.1 51) (Mr'.1 52) (Mr'.1 w) c m' y := by
        intro q y hy
        rw [x17, x18]
        by_cases hq : q < k
        · rw [List.getElem?_append_left (by omega)] at hy
          obtain ⟨u1, u2⟩ := hP q y hy
          exact ⟨hPC _ _ _ _ _ _ _ _ u1 b3 (fun j hj => e6.2.2.1 j hj) (fun j hj => e6.2.2.2.1 j (by omega)), hPR _ _ _ _ _ _ _ _ _ _ u2 b4 (fun j hj => e7.2.2.2.2.2.1 j hj) (fun j hj => e7.2.2.2.2.2.2 j (by omega))⟩
        · rw [List.getElem?_append_right (by omega)] at hy
          have hq0 : q - l.length = 0 := by
            cases hz : q - l.length with
            | zero => rfl
            | succ z => rw [hz] at hy; cases hy
          rw [hq0] at hy
          injection hy with hy
          rw [← hy, show q = k by omega]
          exact ⟨p1, p2⟩
      have hl' : (l ++ [x]).length = k + 1 := by rw [List.length_append, hl]; rfl
      have kl := tkd_le T L i'
      have hi' := e3.2.2.1
      by_cases h0 : tkd T L i' = 0
      · rw [if_pos (by rw [hX.1.2.1, h0]; rfl), if_neg (show ¬ sg T L i' 59 from fun e => by have := e.1; omega), if_pos rfl]
        refine Or.inr ⟨X, Mr', i', c', n', m', l ++ [x], rfl, rfl, ?_, hX, e4, ⟨by rw [hl']; exact x3, by rw [hl']; exact e5, by omega, by omega⟩, fX, fR', hP'⟩
        unfold f_X12_endText f_X12_endText_19
        rw [if_pos e4.2.1.2.1, if_pos (by rw [e4.st0, h0]; rfl)]
      · have n0 : ¬ nI (tkd T L i') = 0 := by rw [show (0 : Int32) = nI 0 from rfl, n_eq (by omega) (by omega)]; exact h0
        rw [if_neg (by rw [hX.1.2.1]; exact n0), show f_X5_isSign 59 X = _ from p_signC (c := 59) hL h255 hX.1.1 hX.1.2 (by decide), Option.bind_some]
        by_cases hs : sg T L i' 59
        · rw [if_pos hs, if_neg (show ¬ (1 : Int32) = 0 by decide), if_neg (show ¬ (1 : Int32) = 0 by decide)]
          obtain ⟨Y, y1, y2, y3⟩ := hX.next hL h255
          obtain ⟨W, w1, w2, w3⟩ := e4.next hL h255
          rw [y1, Option.bind_some, w1, Option.bind_some]
          refine ih (k + 1) F F' Y W (tnx T L i') c' n' m' (l ++ [x]) (by omega) (by omega) (by omega) hl' y2 w2 (by rw [w3.2.1 21 (by decide) (by decide) (by decide)]; exact e5) (fX.trans ((y3.fr 0).q 0)) (fR'.trans ((w3.fr 0).q w 0 hw)) (fun q y hy => ?_)
          rw [y3.1 17 (by decide), y3.1 18 (by decide), w3.1 51 (by decide), w3.1 52 (by decide), w3.1 w (by omega)]
          exact hP' q y hy
        · rw [if_neg hs, if_pos rfl, if_pos rfl, hX.1.2.2.1]
          refine Or.inl ⟨X, i', Mr', badM Mr' i', rfl, by omega, fX, rfl, ?_, badM_bad.1, badM_bad.2.1, fR'.tB (badM_bad.2.2.q w)⟩
          unfold f_X12_endText f_X12_endText_19
          rw [if_pos e4.2.1.2.1, if_neg (by rw [e4.st0]; exact n0), e4.mustBad, Option.bind_some]
