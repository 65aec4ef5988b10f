theorem mk_rg {B : Nat} {N N' : Nat → Int32} (h : sp_rg B N) (he : ∀ j, j ≠ 3 → j ≠ 18 → N' j = N j) (h3 : N' 3 = 0) (h18 : N' 18 = 1) : sp_rg B N' := by
  obtain ⟨h1, h2, h4, h5, h6, h7, h8⟩ := h
  have e : ∀ j, j ≠ 3 ∧ j ≠ 18 → N' j = N j := fun j hj => he j hj.1 hj.2
  unfold sp_rg
  refine ⟨?_, ?_, ?_, ?_, fun p hp => ?_, fun p hp => ?_, fun q hq => ?_⟩
  · rw [e 0 (by omega), e 1 (by omega), e 2 (by omega), h3]; exact ⟨h1.1, h1.2.1, h1.2.2.1, by decide, by decide⟩
  · rw [e 16 (by omega), e 17 (by omega), h18, e 19 (by omega), e 20 (by omega)]; exact ⟨h2.1, h2.2.1, ⟨by decide, by decide⟩, h2.2.2.2⟩
  · rw [e 21 (by omega), e 22 (by omega)]; exact h4
  · rw [e 23 (by omega), e 24 (by omega), e 25 (by omega), e 26 (by omega)]; exact h5
  · rw [e (27 + p) (by omega), e (39 + p) (by omega), e (51 + p) (by omega), e (4 + p) (by omega)]; exact h6 p hp
  · rw [e (63 + p) (by omega), e (73 + p) (by omega), e (83 + p) (by omega)]; exact h7 p hp
  · rw [e 25 (by omega)] at hq
    rw [e (93 + q) (by omega), e (100 + q) (by omega), e (107 + q) (by omega), e (114 + q) (by omega), e 24 (by omega), e 23 (by omega)]; exact h8 q hq
theorem p_weighed (w f : Int32) (M : az_M) : f_X11_canBeWeighed w f M = some (if w < 0 ∨ 999 < w ∨ f < 0 ∨ 99 < f then 0 else 1) := by
  unfold f_X11_canBeWeighed f_X11_canBeWeighed_25 f_X11_canBeWeighed_26
  by_cases h1 : w < 0
  · rw [if_pos h1, if_pos (Or.inl h1)]; rfl
  · by_cases h2 : 999 < w
    · rw [if_neg h1, if_pos h2, if_pos (Or.inr (Or.inl h2))]; rfl
    · by_cases h3 : f < 0
      · rw [if_neg h1, if_neg h2, if_pos h3, if_pos (Or.inr (Or.inr (Or.inl h3)))]; rfl
      · by_cases h4 : 99 < f
        · rw [if_neg h1, if_neg h2, if_neg h3, if_pos h4, if_pos (Or.inr (Or.inr (Or.inr h4)))]; rfl
        · rw [if_neg h1, if_neg h2, if_neg h3, if_neg h4, if_neg (show ¬ (w < 0 ∨ 999 < w ∨ f < 0 ∨ 99 < f) by simp only [h1, h2, h3, h4, or_self, not_false_eq_true])]; rfl
theorem p_pow12 {P : Nat} (hP : P ≤ 12) : ∀ n, n ≤ 3 → P ^ n ≤ 1728 := fun n hn => Nat.le_trans (Nat.pow_le_pow_left hP n) (Nat.le_trans (Nat.pow_le_pow_right (by decide) hn) (by decide))
theorem ob_marks : Ob_marks az_Inv sp_G := by
  intro m Z M a1 a2 a3 a4 hm h
  have hI := (h.ke (sp_ke_thrown M 0)).mono
  have bad : f_X11_marks Z sp_G a1 a2 a3 a4 M = some (-1, M) → f_X12_marks sp_G a1 a2 a3 a4 M = some (-1, az_i M 40 0 0) → ∃ (r : Int32) (M1 M2 : az_M), f_X11_marks Z sp_G a1 a2 a3 a4 M = some (r, M1) ∧ f_X12_marks sp_G a1 a2 a3 a4 M1 = some (r, M2) ∧ az_Inv (m + 1) Z M2 := fun h1 h2 => ⟨_, _, _, h1, h2, hI⟩
  rcases r_cases a1 1 3 (by decide) (by decide) with ⟨n, hn1, hn3, rfl⟩ | ⟨hb, hi⟩
  · have i1 : ∀ X, f_X12_in (nI n).toInt64 1 3 X = some 1 := fun X => g_in hn1 hn3 (by decide) X
    have c1 : ∀ {α : Type} (A B : α), (if nI n < 1 then A else if 3 < nI n then A else B) = B := fun A B => i_good' (lo := 1) (hi := 3) hn1 hn3 (by decide)
    have e4 : (f_X12_in a4.toInt64 (-1) ((nI n).toInt64 - 1) = fun _ => some (if a4 < -1 ∨ nI n ≤ a4 then 0 else 1)) := by
      funext X
      rw [p_in]
      have l1 : (a4.toInt64 < -1) ↔ a4 < -1 := by
        rw [Int64.lt_iff_toInt_lt, Int32.toInt_toInt64, Int32.lt_iff_toInt_lt]; exact Iff.rfl
      have l2 : ((nI n).toInt64 - 1 < a4.toInt64) ↔ nI n ≤ a4 := by
        rw [Int64.lt_iff_toInt_lt, l_m1 n (by omega), Int32.toInt_toInt64, Int32.le_iff_toInt_le, n_int (by omega)]; omega
      by_cases h1 : a4 < -1
      · rw [if_pos (l1.mpr h1), if_pos (Or.inl h1)]
      · by_cases h2 : nI n ≤ a4
        · rw [if_neg (fun e => h1 (l1.mp e)), if_pos (l2.mpr h2), if_pos (Or.inr h2)]
        · rw [if_neg (fun e => h1 (l1.mp e)), if_neg (fun e => h2 (l2.mp e)), if_neg (fun e => e.elim h1 h2)]
    rcases r_cases a2 0 999 (by decide) (by decide) with ⟨w, -, hw, rfl⟩ | ⟨hb, hi⟩
    · have i2 : ∀ X, f_X12_in (nI w).toInt64 0 999 X = some 1 := fun X => g_in (Nat.zero_le w) hw (by decide) X
      rcases r_cases a3 0 99 (by decide) (by decide) with ⟨f, -, hf, rfl⟩ | ⟨hb, hi⟩
      · have i3 : ∀ X, f_X12_in (nI f).toInt64 0 99 X = some 1 := fun X => g_in (Nat.zero_le f) hf (by decide) X
        have hwt : ∀ X, f_X11_canBeWeighed (nI w) (nI f) X = some 1 := fun X => by
          rw [p_weighed, if_neg]
          rintro (h | h | h | h)
          · exact nI_pos (by omega) h
          · rw [show (999 : Int32) = nI 999 from rfl, n_lt (by omega) (by omega)] at h; omega
          · exact nI_pos (by omega) h
          · rw [show (99 : Int32) = nI 99 from rfl, n_lt (by omega) (by omega)] at h; omega
        by_cases h4 : a4 < -1 ∨ nI n ≤ a4
        · refine bad ?_ ?_
          · unfold f_X11_marks f_X11_marks_30
            rw [c1]
            by_cases h1 : a4 < -1
            · rw [if_pos h1]
            · rw [if_neg h1, if_pos (h4.resolve_left h1)]
          · unfold f_X12_marks f_X12_marks_57
            rw [i1, Option.bind_some, if_neg (by decide), i2, Option.bind_some, if_neg (by decide), i3, Option.bind_some, if_neg (by decide), e4, Option.bind_some, if_pos h4]
            rfl
        · obtain ⟨ls, R, C, wl, C1⟩ := h.paperC hm
          generalize hT : cpy (M.1 2) (M.1 31) 0 0 145 = T at R C wl
          have T2 : ∀ j, j < 145 → T j = M.1 2 j := fun j hj => by rw [← hT]; exact cpy_same j hj
          obtain ⟨P, hP, -, hP12⟩ := C1.rg.2.2.2.1.1.nat (by decide) (by decide)
          have hP12' : P ≤ 12 := by omega
          generalize hS0 : cpy (M.1 2) (M.1 36) 0 0 145 = S0
          have S02 : ∀ j, j < 145 → S0 j = M.1 2 j := fun j hj => by rw [← hS0]; exact cpy_same j hj
          generalize hS : up (up S0 18 1) 3 0 = S
          have SJ : ∀ j, j ≠ 3 → j ≠ 18 → S j = S0 j := fun j a b => by rw [← hS, up_ne a, up_ne b]
          have S3 : S 3 = 0 := by rw [← hS, up_eq]
          have S18 : S 18 = 1 := by rw [← hS, up_ne (by decide), up_eq]
          generalize hX : az_i (az_i (az_i (az_i (az_i (az_i (ro (az_i M 34 13 0) 36 S0) 36 18 1) 36 3 0) 34 11 (nI w)) 34 12 (nI f)) 34 0 0) 34 1 (-1) = X
          have X36 : X.1 36 = S := by
            rw [← hX, gi_k (by decide), gi_k (by decide), gi_k (by decide), gi_k (by decide), az_i_ro, ro_eq, az_i_ro, ro_eq, ro_eq]; exact hS
          have XK : ∀ k, k ≠ 34 → k ≠ 36 → X.1 k = M.1 k := fun k a b => by
            rw [← hX, gi_k a, gi_k a, gi_k a, gi_k a, gi_k b, gi_k b, ro_ne b, gi_k a]
          have X2 : X.2 = M.2 := by rw [← hX]; rfl
          have x34 : ∀ j, X.1 34 j = if j = 1 then -1 else if j = 0 then 0 else if j = 12 then nI f else if j = 11 then nI w else if j = 13 then 0 else M.1 34 j := fun j => by
            rw [← hX, gi, if_pos rfl, gi, if_pos rfl, gi, if_pos rfl, gi, if_pos rfl, gi_k (by decide), gi_k (by decide), ro_ne (by decide), gi, if_pos rfl]
          have rgS : sp_rg (sp_B m + 999) S := mk_rg (C1.rg.congN (N' := S0) S02) SJ S3 S18
          have CX : ClsAt Z (sp_B m + 999) 35 (M.1 3 2) ls S X := C1.to (XK 3 (by decide) (by decide)) (fun k hk => XK k (by omega) (by omega)) (by rw [X2]) X36 rgS C1.hB (by decide)
          obtain ⟨Y, y1, y2, y3⟩ := c_tryShots (w := nI w) (f := nI f) (P := P) hP12' hn3 n 0 10 (by omega) (by omega) _ S X [] [] CX (by unfold sp_B; omega) (by rw [SJ 23 (by decide) (by decide), S02 23 (by decide)]; exact hP) S3 S18 (by rw [x34]; rfl) (by rw [x34]; rfl) rfl (fun x hx => by cases hx) ⟨by rw [x34]; rfl, by rw [x34]; rfl⟩ (by
            have := p_pow12 (P := 12) (by decide) n hn3
            simp only [List.length_nil]; omega)
          rw [List.nil_append, show (fun x : List Nat => [] ++ x) = id from funext fun x => rfl, List.map_id] at y3
          generalize hL : mk_ok (sp_law (M.1 3 2) ls) (nI w) (nI f) P n S = L at y3
          have YK : ∀ k, k ≠ 14 → k ≠ 20 → k ≠ 34 → k ≠ 36 → k ≠ 37 → k ≠ 38 → k ≠ 39 → Y.1 k = M.1 k := fun k a b c d e f g => by rw [y2.1 k a b c d e f g, XK k c d]
          have Y13 : Y.1 34 13 = 0 := by rw [y2.2.1 13 (by decide) (by decide) (by decide) (by decide), x34]; rfl
          have hlk : f_X7_lookForMarks Z sp_G (nI n) (nI w) (nI f) M = some Y := by
            unfold f_X7_lookForMarks
            rw [p_copy, Option.bind_some, show (az_i M 34 13 0).1 (1 + 1) = M.1 2 from gi_k (by decide), show (az_i M 34 13 0).1 (35 + 1) = M.1 36 from gi_k (by decide), hS0]
            show (f_X7_tryShots Z sp_G 10 0 (nI n) 0 (az_i (az_i (az_i (az_i (az_i (az_i (ro (az_i M 34 13 0) 36 S0) 36 18 1) 36 3 0) 34 11 (nI w)) 34 12 (nI f)) 34 0 0) 34 1 (-1))).bind _ = _
            rw [hX, show f_X7_tryShots Z sp_G 10 0 (nI n) 0 X = some Y from y1]
            rfl
          -- the reference
          have hK : ∀ X, f_X12_keepAll sp_G 16 X = some (ro X 45 (cpy (X.1 42) (X.1 45) 0 (150 * 16) 150)) := fun X => p_keepAll (q := 16) (by decide) X
          generalize hW : ro (az_i Y 40 0 0) 45 (cpy ((az_i Y 40 0 0).1 42) ((az_i Y 40 0 0).1 45) 0 (150 * 16) 150) = W
          have WK : ∀ k, k ≠ 40 → k ≠ 45 → W.1 k = Y.1 k := fun k a b => by rw [← hW, ro_ne b, gi_k a]
          have Y42 : Y.1 42 = M.1 42 := YK 42 (by decide) (by decide) (by decide) (by decide) (by decide) (by decide) (by decide)
          have Y45 : Y.1 45 = M.1 45 := YK 45 (by decide) (by decide) (by decide) (by decide) (by decide) (by decide) (by decide)
          have Y40 : Y.1 40 = M.1 40 := YK 40 (by decide) (by decide) (by decide) (by decide) (by decide) (by decide) (by decide)
          have W42 : W.1 42 = M.1 42 := by rw [WK 42 (by decide) (by decide), Y42]
          have W45 : W.1 45 = cpy (M.1 42) (M.1 45) 0 (150 * 16) 150 := by rw [← hW, ro_eq, gi_k (by decide), gi_k (by decide), Y42, Y45]
          have W40 : ∀ j, j ≠ 0 → W.1 40 j = M.1 40 j := fun j a => by rw [← hW, ro_ne (by decide), gi, if_pos rfl, if_neg a, Y40]
          have RW := R W W42 (W40 20 (by decide))
          have hpn := p_pow12 hP12' n hn3
          have sm : mk_sim S T := fun j a b _ _ _ c => by rw [SJ j a b, S02 j (by omega), T2 j (by omega)]
          obtain ⟨V, v1, v2, v3⟩ := r_marks35 (Nc := S) hP12' hn3 hn1 (nI w) (nI f) hpn wl sm (by unfold sp_B; omega) (by rw [T2 23 (by decide)]; exact hP) (P ^ n) 0 sp_G (by omega) (by show P ^ n < 1000000; omega) W [] RW (fun j hj => by rw [W45, W42, cpy_in (by omega)]; exact congrArg (M.1 42) (by omega)) (fun r hr => by cases hr) (by simp)
          rw [List.nil_append, ← List.range_eq_range', ← mk_all_dg, ← mk_ok_all, hL] at v1 v3
          have hfm : f_X12_findMarks sp_G (nI n) (nI w) (nI f) W = some (nI L.length, V) := by
            have := r_marks6 hP12' hn3 (nI w) (nI f) (M := W) (P := P) (by rw [← RW.pr.2.2.2.1.1, T2 23 (by decide)]; exact hP) n 0 sp_G (by omega) (by show n < 1000000; omega)
            unfold f_X12_findMarks
            rw [Nat.pow_zero] at this
            exact this.trans v1
          have fin : az_Inv (m + 1) Z V := by
            refine az_Inv.mono (h.rows (fun k hk => ?_) ?_ (fun j hj => ?_) (fun j hj => ?_) (fun k hk => ?_) ?_)
            · unfold keK at hk
              rw [v2.1 k (by omega) (by omega) (by omega), WK k (by omega) (by omega), YK k (by omega) (by omega) (by omega) (by omega) (by omega) (by omega) (by omega)]
            · rw [v2.1 34 (by decide) (by decide) (by decide), WK 34 (by decide) (by decide)]; exact Y13
            · rw [v2.2.1 j (by omega) (by omega), W40 j (by omega)]
            · rw [v2.1 45 (by decide) (by decide) (by decide), W45, cpy_out (by omega)]
            · rw [v2.2.2.1 k (by omega) (by omega) (by omega), ← hW]; show Y.2.1 k = _; rw [y2.2.2.2.2, X2]
            · rw [v2.2.2.2, ← hW]; show Y.2.2 = _; rw [y2.2.2.2.2, X2]
          have er : ∀ (A : Int32), f_X12_marks sp_G (nI n) (nI w) (nI f) a4 Y = (if a4 = (-1) then f_X12_marks_101 sp_G (nI L.length) V else (if nI L.length = 0 then f_X12_marks_101 sp_G (-1) V else (if a4 < 0 ∨ 3 ≤ a4.toNatClampNeg then none else f_X12_marks_101 sp_G (V.1 66 a4.toNatClampNeg) V))) := by
            intro _
            unfold f_X12_marks
            rw [i1, Option.bind_some, if_neg (by decide), i2, Option.bind_some, if_neg (by decide), i3, Option.bind_some, if_neg (by decide), e4, Option.bind_some, if_neg h4, if_neg (by decide), hK, Option.bind_some, hW, hfm, Option.bind_some]
          have ec : f_X11_marks Z sp_G (nI n) (nI w) (nI f) a4 M = (if a4 = (-1) then some (nI L.length, Y) else (if nI L.length = 0 then some (-1, Y) else ((f_X7_inRow (Y.1 34 1) (nI n) a4 Y).bind fun q12 => some (q12, Y)))) := by
            unfold f_X11_marks f_X11_marks_83
            rw [c1, if_neg (fun e => h4 (Or.inl e)), if_neg (fun e => h4 (Or.inr e)), hwt, Option.bind_some, if_neg (by decide), hlk, Option.bind_some, y3.1]
          have lenL : L.length ≤ 1728 := by
            rw [← hL]
            exact Nat.le_trans (mk_len _ _ _ hP12' n S) (p_pow12 (P := 12) (by decide) n hn3)
          by_cases hm1 : a4 = -1
          · exact ⟨nI L.length, Y, V, by rw [ec, if_pos hm1], by rw [er 0, if_pos hm1]; rfl, fin⟩
          · by_cases hL0 : nI L.length = 0
            · exact ⟨-1, Y, V, by rw [ec, if_neg hm1, if_pos hL0], by rw [er 0, if_neg hm1, if_pos hL0]; rfl, fin⟩
            · -- the i-th of the first row
              have ha4 : 0 ≤ a4.toInt ∧ a4.toInt < n := by
                have h1 : ¬ a4 < -1 := fun e => h4 (Or.inl e)
                have h2 : ¬ nI n ≤ a4 := fun e => h4 (Or.inr e)
                rw [Int32.lt_iff_toInt_lt] at h1
                rw [Int32.le_iff_toInt_le, n_int (by omega)] at h2
                have e1 : (-1 : Int32).toInt = -1 := rfl
                have h3 : a4.toInt ≠ -1 := fun e => hm1 (Int32.toInt_inj.mp (e.trans e1.symm))
                omega
              obtain ⟨i, hi, -, hin⟩ := sp_in.nat (x := a4) (lo := 0) (hi := n - 1) ⟨ha4.1, by omega⟩ (by decide) (by omega)
              subst hi
              have hin' : i < n := by omega
              cases hLc : L with
              | nil => rw [hLc] at hL0; exact absurd rfl hL0
              | cons r rs =>
                rw [hLc] at y3 v3 ec er hL0
                have hall : ∀ (d : Nat) r, r ∈ mk_all P d → r.length = d ∧ ∀ x, x ∈ r → x < 12 := by
                  intro d
                  induction d with
                  | zero => intro r hr; rw [mk_all] at hr; rw [List.mem_singleton.mp hr]; exact ⟨rfl, fun x hx => by cases hx⟩
                  | succ d ih =>
                    intro r hr
                    rw [mk_all] at hr
                    obtain ⟨q, hq, hr⟩ := List.mem_flatMap.mp hr
                    obtain ⟨r', hr', rfl⟩ := List.mem_map.mp hr
                    have hq' := List.mem_range.mp hq
                    refine ⟨by rw [List.length_cons, (ih r' hr').1], fun x hx => ?_⟩
                    rcases List.mem_cons.mp hx with e | e
                    · omega
                    · exact (ih r' hr').2 x e
                have hmem : r ∈ mk_all P n := by
                  have : r ∈ mk_ok (sp_law (M.1 3 2) ls) (nI w) (nI f) P n S := by rw [hL, hLc]; exact List.mem_cons_self
                  rw [mk_ok_all] at this
                  exact (List.mem_filter.mp this).1
                obtain ⟨hrl, hrx⟩ := hall n r hmem
                obtain ⟨x, hx⟩ : ∃ x, r[i]? = some x := ⟨r[i], List.getElem?_eq_getElem (by omega)⟩
                have hy : Y.1 34 1 = sp_code r := y3.2
                have hir : f_X7_inRow (Y.1 34 1) (nI n) (nI i) Y = some (nI x) := by
                  rw [hy, ← hrl]; exact p_inRow (fun q hq => by have := hrx q hq; omega) (by omega) hx Y
                refine ⟨nI x, Y, V, ?_, ?_, fin⟩
                · rw [ec, if_neg hm1, if_neg hL0, hir]; rfl
                · rw [er 0, if_neg hm1, if_neg hL0, if_neg (nI_in (by omega) (by decide)), n_cl (by omega), v3 r rfl i x hx]; rfl
      · refine bad ?_ ?_
        · unfold f_X11_marks f_X11_marks_30
          rw [c1, p_weighed, if_pos (show nI w < 0 ∨ 999 < nI w ∨ a3 < 0 ∨ 99 < a3 from Or.inr (Or.inr hb))]
          by_cases h1 : a4 < -1
          · rw [if_pos h1]
          · rw [if_neg h1]
            by_cases h2 : nI n ≤ a4
            · rw [if_pos h2]
            · rw [if_neg h2]; rfl
        · unfold f_X12_marks f_X12_marks_57
          rw [i1, Option.bind_some, if_neg (by decide), i2, Option.bind_some, if_neg (by decide), show f_X12_in a3.toInt64 0 99 _ = some 0 from hi _]
          rfl
    · refine bad ?_ ?_
      · unfold f_X11_marks f_X11_marks_30
        rw [c1, p_weighed, if_pos (show a2 < 0 ∨ 999 < a2 ∨ a3 < 0 ∨ 99 < a3 from hb.elim Or.inl (fun e => Or.inr (Or.inl e)))]
        by_cases h1 : a4 < -1
        · rw [if_pos h1]
        · rw [if_neg h1]
          by_cases h2 : nI n ≤ a4
          · rw [if_pos h2]
          · rw [if_neg h2]; rfl
      · unfold f_X12_marks f_X12_marks_57
        rw [i1, Option.bind_some, if_neg (by decide), show f_X12_in a2.toInt64 0 999 _ = some 0 from hi _]
        rfl
  · refine bad ?_ ?_
    · unfold f_X11_marks f_X11_marks_30
      exact i_bad' (lo := 1) (hi := 3) hb
    · unfold f_X12_marks f_X12_marks_57
      rw [show f_X12_in a1.toInt64 1 3 _ = some 0 from hi _]
      rfl
