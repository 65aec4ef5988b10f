theorem p_in_iff (v lo hi : Int64) (M : az_M) : f_X12_in v lo hi M = some (if lo.toInt ≤ v.toInt ∧ v.toInt ≤ hi.toInt then 1 else 0) := by
  rw [p_in]
  by_cases h1 : v < lo
  · rw [if_pos h1, if_neg (by rw [Int64.lt_iff_toInt_lt] at h1; omega)]
  · rw [if_neg h1]
    by_cases h2 : hi < v
    · rw [if_pos h2, if_neg (by rw [Int64.lt_iff_toInt_lt] at h2; omega)]
    · rw [if_neg h2, if_pos (by rw [Int64.lt_iff_toInt_lt] at h1 h2; omega)]
theorem l_10n {n : Nat} (hn : n ≤ 7) : (10 + (nI n).toInt64 : Int64).toInt = 10 + n := by
  rw [Int64.toInt_add, n_64 (by omega)]
  show ((10 : Int) + (n : Int)).bmod (2 ^ 64) = _
  exact Int.bmod_eq_of_le (by omega) (by omega)
theorem ob_queue : Ob_queue az_Inv sp_G := by
  intro m Z M a1 hm h
  obtain ⟨ls, g4, Y, y1, yk, y2, y13, yr⟩ := c_look h hm
  have g3 := h.2.2.1
  obtain ⟨n, hn, -, hn7⟩ := g3.2.2.2.2.1.2.2.1.nat (by decide) (by decide)
  have hn7' : n ≤ 7 := by omega
  unfold sp_rowsOk at yr
  rw [hn, n_cl (by omega)] at yr
  simp only at yr
  generalize hrs : sp_rows (sp_law (M.1 3 2) ls) n (List.range n) (M.1 2) = rs at yr
  obtain ⟨r1, r2, r3⟩ := yr
  have hlen : rs.length ≤ 823543 := by
    rw [← hrs]
    exact Nat.le_trans (rows_len _ n _ _ (by rw [List.length_range]; omega)) (Nat.le_trans (Nat.pow_le_pow_right (by decide) hn7') (by decide))
  have hmem : ∀ x, x ∈ rs → x.1.length = n ∧ ∀ q, q ∈ x.1 → q < 16 := fun x hx => by
    rw [← hrs] at hx
    obtain ⟨a, b⟩ := rows_mem _ _ _ _ x hx
    exact ⟨a, fun q hq => by have := List.mem_range.mp (b q hq); omega⟩
  generalize hW : az_i Y 40 0 0 = W
  have wk : ∀ k, k ≠ 40 → W.1 k = Y.1 k := fun k a => by rw [← hW, gi_k a]
  have w40 : ∀ j, j ≠ 0 → W.1 40 j = M.1 40 j := fun j a => by rw [← hW, gi, if_pos rfl, if_neg a, yk 40 (by decide) (by decide) (by decide) (by decide) (by decide) (by decide) (by decide)]
  have w42 : W.1 42 = M.1 42 := by rw [wk 42 (by decide), yk 42 (by decide) (by decide) (by decide) (by decide) (by decide) (by decide) (by decide)]
  have w2 : W.2 = M.2 := by rw [← hW]; exact y2
  have RW : RefAt Z (sp_B m + 999) (M.1 3 2) ls (M.1 2) W := ⟨⟨M.1, M.2.2 4, M.1 3 1, by rw [w42]; exact g4⟩, by rw [w40 20 (by decide)]; exact h.2.2.2.2.2.2.2.2.2.2.1, by rw [w42]; exact g3.1, g3.2.mono (by omega), by unfold sp_B; omega⟩
  obtain ⟨V, v1, v2, v3, v4⟩ := r_findOrders RW g3.2.wl (sp_sim.refl _) (by unfold sp_B; omega) hn hn7'
  rw [hrs] at v2
  obtain ⟨o1, o2, o3, o4⟩ := v2
  have inv : ∀ X : az_M, orF 0 W X → X.1 42 = W.1 42 → az_Inv (m + 1) Z X := by
    intro X fx x42
    have x34 : X.1 34 = Y.1 34 := by rw [fx.1 34 (by decide) (by decide) (by decide) (by decide) (by decide) (by decide), wk 34 (by decide)]
    refine az_Inv.mono (h.known ls g4 (Or.inr ⟨by rw [x34]; exact y13, ?_⟩) (fun k hk => ?_) (fun j hj => ?_) (fun j hj => ?_) (fun k hk => ?_) ?_)
    · unfold sp_rowsOk
      rw [hn, n_cl (by omega), hrs, x34]; exact ⟨r1, r2, r3⟩
    · unfold keK at hk
      by_cases h42 : k = 42
      · rw [h42, x42, w42]
      · rw [fx.1 k (by omega) h42 (by omega) (by omega) (by omega) (by omega), wk k (by omega), yk k (by omega) (by omega) (by omega) (by omega) (by omega) (by omega) (by omega)]
    · rw [fx.2.1 j (by omega) (by omega) (by omega) (by omega), w40 j (by omega)]
    · rw [fx.1 45 (by decide) (by decide) (by decide) (by decide) (by decide) (by decide), wk 45 (by decide), yk 45 (by decide) (by decide) (by decide) (by decide) (by decide) (by decide) (by decide)]
    · rw [fx.2.2.1 k (by omega) (by omega) (by omega), w2]
    · rw [fx.2.2.2.1, w2]
  have iV : az_Inv (m + 1) Z V := inv V v3 v4
  have iW : az_Inv (m + 1) Z W := inv W (orF.refl 0 W) rfl
  have y25 : Y.1 2 25 = nI n := by rw [yk 2 (by decide) (by decide) (by decide) (by decide) (by decide) (by decide) (by decide)]; exact hn
  have ec : f_X11_queue Z sp_G a1 M = (if a1 = 0 then some (nI rs.length, Y) else (if nI rs.length = 0 then some ((-1), Y) else (if a1 = 21 then some ((Y.1 34 3), Y) else (if a1 < 1 then f_X11_queue_83 Z sp_G a1 (nI n) Y else (if (1 + nI n) ≤ a1 then f_X11_queue_83 Z sp_G a1 (nI n) Y else ((f_X7_inRow (Y.1 34 1) (nI n) (a1 - 1) Y).bind fun q8 => some (q8, Y))))))) := by
    unfold f_X11_queue
    rw [y1, Option.bind_some, r1, y25]
  have e52 : f_X12_queue_52 sp_G a1 W = (if a1 = 0 then f_X12_queue_67 sp_G a1 V else (if nI rs.length = 0 then f_X12_queue_67 sp_G a1 V else (if a1 = 21 then f_X12_queue_119 sp_G (V.1 40 47) V else (if 11 ≤ a1 then (if (a1 - 11) < 0 ∨ 7 ≤ (a1 - 11).toNatClampNeg then none else f_X12_queue_119 sp_G (V.1 64 ((a1 - 11).toNatClampNeg)) V) else (if (a1 - 1) < 0 ∨ 7 ≤ (a1 - 1).toNatClampNeg then none else f_X12_queue_119 sp_G (V.1 63 ((a1 - 1).toNatClampNeg)) V))))) := by
    unfold f_X12_queue_52
    rw [v1, Option.bind_some, o1]
  have er : f_X12_queue sp_G a1 Y = (if a1 = 0 then f_X12_queue_52 sp_G a1 W else (if a1 = 21 then f_X12_queue_52 sp_G a1 W else (if (1 ≤ a1.toInt ∧ a1.toInt ≤ n) ∨ (11 ≤ a1.toInt ∧ a1.toInt ≤ 10 + n) then f_X12_queue_52 sp_G a1 W else some (-1, W)))) := by
    unfold f_X12_queue
    rw [hW, w42, show M.1 42 2 = nI n from g3.1.2.2.2.1.2.2.1.symm.trans hn, p_in_iff, p_in_iff, Option.bind_some, Option.bind_some, Int32.toInt_toInt64, n_64 (by omega), l_10n hn7', show (1 : Int64).toInt = 1 from rfl, show (11 : Int64).toInt = 11 from rfl]
    by_cases c0 : a1 = 0
    · rw [if_pos c0, if_pos c0]
    · by_cases c21 : a1 = 21
      · rw [if_neg c0, if_neg c0, if_pos c21, if_pos c21]
      · rw [if_neg c0, if_neg c0, if_neg c21, if_neg c21]
        by_cases c1 : 1 ≤ a1.toInt ∧ a1.toInt ≤ n
        · rw [if_pos c1, if_neg (by decide), if_pos (Or.inl c1)]
        · by_cases c2 : 11 ≤ a1.toInt ∧ a1.toInt ≤ 10 + n
          · rw [if_neg c1, if_pos rfl, if_pos c2, if_neg (by decide), if_pos (Or.inr c2)]
          · rw [if_neg c1, if_pos rfl, if_neg c2, if_pos rfl, if_neg (fun e => e.elim c1 c2)]
  rw [ec]
  have fin : ∀ (r : Int32) (X : az_M), f_X12_queue sp_G a1 Y = some (r, X) → az_Inv (m + 1) Z X → ∃ (r' : Int32) (M1 M2 : az_M), some (r, Y) = some (r', M1) ∧ f_X12_queue sp_G a1 M1 = some (r', M2) ∧ az_Inv (m + 1) Z M2 := fun r X hx hi => ⟨r, Y, X, rfl, hx, hi⟩
  by_cases c0 : a1 = 0
  · rw [if_pos c0]
    refine fin _ V ?_ iV
    rw [er, if_pos c0, e52, if_pos c0]
    unfold f_X12_queue_67 f_X12_queue_79
    rw [if_pos c0, o1]
  · rw [if_neg c0]
    rw [if_neg c0] at er e52
    by_cases cl : nI rs.length = 0
    · rw [if_pos cl]
      rw [if_pos cl] at e52
      unfold f_X12_queue_67 f_X12_queue_79 at e52
      rw [if_neg c0] at e52
      rw [e52] at er
      by_cases c21 : a1 = 21
      · rw [if_pos c21] at er; exact fin _ V er iV
      · rw [if_neg c21] at er
        by_cases cr : (1 ≤ a1.toInt ∧ a1.toInt ≤ n) ∨ (11 ≤ a1.toInt ∧ a1.toInt ≤ 10 + n)
        · rw [if_pos cr] at er; exact fin _ V er iV
        · rw [if_neg cr] at er; exact fin _ W er iW
    · rw [if_neg cl]
      rw [if_neg cl] at e52
      have hne : rs ≠ [] := fun e => cl (by rw [e]; rfl)
      by_cases c21 : a1 = 21
      · rw [if_pos c21]
        rw [if_pos c21] at er e52
        obtain ⟨x, hx⟩ : ∃ x, sp_best rs = some x := by
          cases hb : sp_best rs with
          | none => exact absurd (best_none.mp hb) hne
          | some x => exact ⟨x, rfl⟩
        refine fin _ V ?_ iV
        rw [er, e52]
        unfold f_X12_queue_119
        rw [(o4 x hx).1, (r3 x hx).2]
      · rw [if_neg c21]
        rw [if_neg c21] at er e52
        have e11 : (11 : Int32).toInt = 11 := rfl
        by_cases cr : (1 ≤ a1.toInt ∧ a1.toInt ≤ n) ∨ (11 ≤ a1.toInt ∧ a1.toInt ≤ 10 + n)
        · rw [if_pos cr] at er
          rw [e52] at er
          obtain ⟨p, hp, hp1, hp2⟩ := sp_in.nat (x := a1) (lo := 1) (hi := 17) ⟨by omega, by omega⟩ (by decide) (by decide)
          subst hp
          rw [n_int (by omega)] at cr
          by_cases cp : p ≤ n
          · have hp1' : 1 ≤ p := by omega
            rw [if_neg (by rw [show (1 : Int32) = nI 1 from rfl, n_lt (by omega) (by omega)]; omega), if_neg (by rw [show (1 : Int32) = nI 1 from rfl, n_add, n_le (by omega) (by omega)]; omega)]
            rw [if_neg (by rw [show (11 : Int32) = nI 11 from rfl, n_le (by omega) (by omega)]; omega), show nI p - 1 = nI (p - 1) from n_sub (b := 1) hp1', if_neg (nI_in (by omega) (by decide)), n_cl (by omega)] at er
            cases hrc : rs with
            | nil => exact absurd hrc hne
            | cons x xs =>
              have hx : rs.head? = some x := by rw [hrc]; rfl
              obtain ⟨l1, l2⟩ := hmem x (by rw [hrc]; exact List.mem_cons_self)
              obtain ⟨y, hy⟩ : ∃ y, x.1[p - 1]? = some y := ⟨x.1[p - 1]'(by omega), List.getElem?_eq_getElem (by omega)⟩
              rw [r2 x hx, show nI p - 1 = nI (p - 1) from n_sub (b := 1) hp1', show f_X7_inRow (sp_code x.1) (nI n) (nI (p - 1)) Y = some (nI y) by rw [← l1]; exact p_inRow l2 (by omega) hy Y]
              refine fin _ V ?_ iV
              rw [er, o2 x hx _ y hy]; rfl
          · have hp11 : 11 ≤ p := by omega
            have hpn : p ≤ 10 + n := by omega
            rw [if_neg (by rw [show (1 : Int32) = nI 1 from rfl, n_lt (by omega) (by omega)]; omega), if_pos (by rw [show (1 : Int32) = nI 1 from rfl, n_add, n_le (by omega) (by omega)]; omega)]
            unfold f_X11_queue_83
            rw [if_neg (by rw [show (11 : Int32) = nI 11 from rfl, n_lt (by omega) (by omega)]; omega), if_neg (by rw [show (11 : Int32) = nI 11 from rfl, n_add, n_le (by omega) (by omega)]; omega)]
            rw [if_pos (by rw [show (11 : Int32) = nI 11 from rfl, n_le (by omega) (by omega)]; omega), show nI p - 11 = nI (p - 11) from n_sub (b := 11) hp11, if_neg (nI_in (by omega) (by decide)), n_cl (by omega)] at er
            obtain ⟨x, hx⟩ : ∃ x, sp_best rs = some x := by
              cases hb : sp_best rs with
              | none => exact absurd (best_none.mp hb) hne
              | some x => exact ⟨x, rfl⟩
            obtain ⟨l1, l2⟩ := hmem x (best_max hx).1
            obtain ⟨y, hy⟩ : ∃ y, x.1[p - 11]? = some y := ⟨x.1[p - 11]'(by omega), List.getElem?_eq_getElem (by omega)⟩
            rw [(r3 x hx).1, show nI p - 11 = nI (p - 11) from n_sub (b := 11) hp11, show f_X7_inRow (sp_code x.1) (nI n) (nI (p - 11)) Y = some (nI y) by rw [← l1]; exact p_inRow l2 (by omega) hy Y]
            refine fin _ V ?_ iV
            rw [er, (o4 x hx).2 _ y hy]; rfl
        · rw [if_neg cr] at er
          have en : (1 + nI n).toInt = 1 + n := by rw [show (1 : Int32) = nI 1 from rfl, n_add, n_int (by omega)]; omega
          have en11 : (11 + nI n).toInt = 11 + n := by rw [show (11 : Int32) = nI 11 from rfl, n_add, n_int (by omega)]; omega
          have o83 : f_X11_queue_83 Z sp_G a1 (nI n) Y = some (-1, Y) ∨ (11 ≤ a1.toInt ∧ a1.toInt ≤ 10 + n) := by
            unfold f_X11_queue_83 f_X11_queue_113
            by_cases d1 : a1 < 11
            · rw [if_pos d1]; exact Or.inl rfl
            · rw [if_neg d1]
              by_cases d2 : 11 + nI n ≤ a1
              · rw [if_pos d2]; exact Or.inl rfl
              · right
                rw [Int32.lt_iff_toInt_lt] at d1
                rw [Int32.le_iff_toInt_le, en11] at d2
                omega
          have o83' := o83.resolve_right (fun e => cr (Or.inr e))
          by_cases d1 : a1 < 1
          · rw [if_pos d1, o83']; exact fin _ W er iW
          · rw [if_neg d1]
            by_cases d2 : 1 + nI n ≤ a1
            · rw [if_pos d2, o83']; exact fin _ W er iW
            · exfalso
              rw [Int32.lt_iff_toInt_lt] at d1
              rw [Int32.le_iff_toInt_le, en] at d2
              have e1 : (1 : Int32).toInt = 1 := rfl
              exact cr (Or.inl ⟨by omega, by omega⟩)
