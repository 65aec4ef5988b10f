/-! queue(), spades(): both -/
theorem rem_0 (n : Nat) : rem n 0 = List.range n := by
  unfold rem
  rw [List.filter_eq_self]
  intro q _
  rw [Nat.zero_testBit]; rfl
theorem fu_le : ∀ n, n ≤ 7 → fu n ≤ 69280 := by decide
theorem r_findOrders {Z : az_S × Nat} {B n : Nat} {inF : Int32} {ls : Nat → sp_L} {Nc N : Nat → Int32} {M : az_M} (R : RefAt Z B inF ls N M) (wl : sp_wl B N) (sm : sp_sim Nc N) (hB : B + 56 ≤ 1000000000) (h25 : N 25 = nI n) (hn : n ≤ 7) :
    ∃ M', f_X12_findOrders sp_G M = some M' ∧ ordS M' (sp_rows (sp_law inF ls) n (List.range n) Nc) ∧ orF 0 M M' ∧ M'.1 42 = M.1 42 := by
  have n42 : M.1 42 2 = nI n := by rw [← R.pr.2.2.2.1.2.2.1]; exact h25
  unfold f_X12_findOrders
  rw [n42, show ∀ X, f_X12_keepWait sp_G 0 X = some (ro X 65 (cpy (X.1 42) (X.1 65) 0 (150 * 0) 150)) from fun X => p_keepWait (q := 0) (by decide) X, Option.bind_some]
  generalize hY : ro (az_i (az_i M 40 48 0) 40 47 (-1)) 65 (cpy ((az_i (az_i M 40 48 0) 40 47 (-1)).1 42) ((az_i (az_i M 40 48 0) 40 47 (-1)).1 65) 0 (150 * 0) 150) = Y
  have yk : ∀ i, i ≠ 40 → i ≠ 65 → Y.1 i = M.1 i := fun i a b => by rw [← hY, ro_ne b, gi_k a, gi_k a]
  have y40 : ∀ j, Y.1 40 j = if j = 47 then -1 else if j = 48 then 0 else M.1 40 j := fun j => by rw [← hY, ro_ne (by decide), gi, if_pos rfl, gi, if_pos rfl]
  have y65 : ∀ j, j < 150 → Y.1 65 j = M.1 42 j := fun j hj => by rw [← hY, ro_eq, cpy_in (by omega), gi_k (by decide), gi_k (by decide)]; exact congrArg (M.1 42) (by omega)
  have y2 : Y.2 = M.2 := by rw [← hY]; rfl
  have oY : ordS Y [] := ⟨by rw [y40]; rfl, fun x h => (by cases h), fun _ => by rw [y40]; rfl, fun x h => (by cases h)⟩
  have RY : ∀ X : az_M, X.1 42 = M.1 42 → X.1 40 20 = M.1 40 20 → RefAt Z B inF ls N X := fun X a b => ⟨by rw [a]; exact R.bk, by rw [b]; exact R.h20, by rw [a]; exact R.pr, R.rg, R.hB⟩
  have fY : orF 0 M Y := ⟨fun i a _ _ _ _ b => yk i a b, fun j _ _ a b => by rw [y40, if_neg a, if_neg b], fun i _ _ _ => by rw [y2], by rw [y2], fun i hi => by omega, fun j hj => by omega⟩
  by_cases h0 : n = 0
  · subst h0
    rw [if_pos (show nI 0 = 0 from rfl)]
    have hw : Nc 0 = N 0 := sm.at (j := 0) (by omega)
    obtain ⟨M', a1, a2, a3, a4, a5⟩ := p_keepOrder (n := 0) (M := Y) (Ls := []) (r := []) (w := Nc 0) (by decide) rfl (fun k y h => (by cases h)) (by rw [yk 42 (by decide) (by decide), ← R.pr.1.1, hw]) (by rw [hw]; exact R.rg.1.1.1) oY (by simp)
    refine ⟨M', by rw [show f_X12_keepOrder sp_G 0 Y = some M' from a1]; rfl, a2, fY.trans ⟨fun i a _ _ b c _ => a3 i a b c, fun j _ _ a b => a4 j a b, fun i _ _ _ => by rw [a5], by rw [a5], fun i hi => by omega, fun j hj => by omega⟩, ?_⟩
    rw [a3 42 (by decide) (by decide) (by decide), yk 42 (by decide) (by decide)]
  · rw [if_neg (by rw [show (0 : Int32) = nI 0 from rfl, n_eq (by omega) (by omega)]; exact h0)]
    obtain ⟨d, rfl⟩ : ∃ d, n = d + 1 := ⟨n - 1, by omega⟩
    generalize hV : az_i Y 62 0 (-1) = V
    have vk : ∀ i, i ≠ 62 → V.1 i = Y.1 i := fun i a => by rw [← hV, gi_k a]
    have fV : orF 0 Y V := by rw [← hV]; exact orF_62 Y _ (Nat.le_refl 0)
    have hlen : (rem (d + 1) 0).length = d + 1 := by rw [rem_0, List.length_range]
    have hfil : (List.range' 0 (d + 1)).filter (fun q => !(0 : Nat).testBit q) = List.range (d + 1) := by rw [← List.range_eq_range']; exact rem_0 (d + 1)
    have hrows : sp_rows (sp_law inF ls) (d + 1) (List.range (d + 1)) Nc = (List.range (d + 1)).flatMap (sp_kid (sp_law inF ls) (d + 1) 0 d Nc) := by
      have := rows_kid (sp_law inF ls) (d + 1) 0 d Nc
      rw [rem_0] at this; exact this
    have htr : ∀ L, toR [] L = L := fun L => by
      unfold toR
      rw [show (fun x : List Nat × Int32 => (([] : List Nat) ++ x.1, x.2)) = id from funext fun x => rfl, List.map_id]
    have hfu := fu_le (d + 1) hn
    have hfu' : d + 1 + 1 + (d + 1) * fu d ≤ 69280 := by
      have : fu (d + 1) = 8 + (d + 1) * fu d := rfl
      omega
    have hlr := rows_len (sp_law inF ls) (d + 1) (List.range (d + 1)) Nc (by rw [List.length_range]; omega)
    have h77 : 7 ^ (d + 1) ≤ 823543 := Nat.le_trans (Nat.pow_le_pow_right (by decide) hn) (by decide)
    obtain ⟨F', M', a1, a2, a3, a4, a5⟩ := r_orders hn d 0 (by omega) B Nc N (M.1 42) 0 [] wl sm (by omega) h25 rfl (fun p hp => by cases hp) (by decide) (fun p _ => by rw [Nat.zero_testBit]; simp) hlen (d + 1) 0 sp_G (by omega) [] V (by rw [hfil, List.length_range]; show _ ≤ 1000000; omega) (RY V (by rw [vk 42 (by decide), yk 42 (by decide) (by decide)]) (by rw [vk 40 (by decide), y40]; rfl)) (by rw [vk 42 (by decide), yk 42 (by decide) (by decide)]) (fun j hj => by rw [vk 65 (by decide), Nat.mul_zero, Nat.zero_add]; exact y65 j hj) (by rw [← hV, gi, if_pos rfl, if_pos rfl]; rfl) (fun i x h => by cases h) (by unfold ordS; rw [vk 40 (by decide), vk 63 (by decide), vk 64 (by decide)]; exact oY) (by rw [hfil, htr, List.nil_append, ← hrows]; omega)
    rw [hfil, List.length_range] at a1
    rw [hfil, htr, List.nil_append, ← hrows] at a5
    have hF' : 1 ≤ F' := by have : sp_G = 1000000 := rfl; omega
    obtain ⟨F', rfl⟩ : ∃ F1, F' = F1 + 1 := ⟨F' - 1, by omega⟩
    refine ⟨M', ?_, a5, fY.trans (fV.trans a3), ?_⟩
    · show f_X12_findOrders_41 sp_G sp_G (nI (d + 1)) (nI 0) V = some M'
      rw [a2, f_X12_findOrders_41, if_pos (by decide)]
    · rw [a4]
      funext j
      by_cases hj : j < 150
      · rw [cpy_in (by omega), vk 65 (by decide), y65 _ (by omega)]; exact congrArg (M.1 42) (by omega)
      · rw [cpy_out (by omega)]
theorem p_forget (M : az_M) : f_X7_forgetBehind sp_G M = some (ro M 38 (fun j => if 0 ≤ j ∧ j < 0 + 128 then -1 else M.1 38 j)) := by
  refine (lp_fill (f := fun F i M => f_X7_forgetBehind_2 sp_G F i M) (fin := fun M => some M) (M := M) (k := 38) (d := 0) (n := 128) (g := fun _ => -1) (F := sp_G) ?_ ?_ (by decide)).trans rfl
  · intro F i h hi hh
    show f_X7_forgetBehind_2 sp_G (F + 1) (nI i) _ = f_X7_forgetBehind_2 sp_G F (nI (i + 1)) _
    rw [f_X7_forgetBehind_2]
    simp (disch := omega) only [n_addl, n_addr, n_add, n_mull, n_mulr, n_mul, n_sub, n_subr, n_subl, n_cl, n_lt, n_le, n_eq, n_ltl, n_ltr, n_lel, n_ler, n_eqr, n_eql, n_nm1, n_m1n, n_m1lt, n_ltm1, l_ltr, l_ltl, l_ler, l_lel, l_m1lt, l_nneg, if_true, if_false, or_false, false_or, or_true, true_or, and_true, true_and, and_false, false_and, not_true_eq_false, not_false_eq_true, Option.bind_some, Option.bind_none, reduceIte, ltT, ltF, leT, leF, eqT, eqF, nI_lt0, az_i_ro, ro_eq, ro_ro, Nat.zero_add]
  · intro F h
    show f_X7_forgetBehind_2 sp_G (F + 1) (nI 128) _ = _
    rw [f_X7_forgetBehind_2, if_pos (by decide)]
theorem shots_rg {B : Nat} (l : Option sp_L) {w : Nat} (hw : w < 12) : ∀ (n : Nat) (B : Nat) (N N' : Nat → Int32), sp_rg B N → B + n ≤ 1000000000 → sp_shots l n N w = some N' → sp_rg (B + n) N' := by
  intro n
  induction n with
  | zero => intro B N N' h _ he; injection he with he; rw [← he]; exact h
  | succ n ih =>
    intro B N N' h hB he
    rw [sp_shots] at he
    split at he
    · have := ih (B + 1) _ _ (shot_rg h (by omega) l hw) (by omega) he
      rw [show B + (n + 1) = B + 1 + n by omega]; exact this
    · cases he
theorem miss_rg {B : Nat} {l : Option sp_L} {N N' : Nat → Int32} {q : Nat} (h : sp_rg B N) (hq : q < (N 25).toNatClampNeg) (hB : B + 8 ≤ 1000000000) (he : sp_miss l N q = some N') : sp_rg (B + 8) N' ∧ ∀ j, 17 ≤ j → N' j = N j := by
  obtain ⟨a, b, w, d, e1, ha, e2, hb, hab, e3, hw, e4, hd⟩ := quar h hq
  obtain ⟨rd, hrd, hrd1, hrd2⟩ := h.2.1.2.1.nat (by decide) (by decide)
  rw [miss_eq l hw e3 hrd (by omega) (by omega)] at he
  cases hs : sp_shots l (2 * rd) N w with
  | none => rw [hs] at he; cases he
  | some N1 =>
    rw [hs] at he
    simp only at he
    split at he
    · injection he with he
      subst he
      exact ⟨(shots_rg (B := B) l hw _ B N N1 h (by omega) hs).mono (by omega), shots_17 l hw _ _ _ hs⟩
    · cases he
theorem rows_pos (l : Option sp_L) : ∀ (d B : Nat) (rm : List Nat) (N : Nat → Int32), sp_rg B N → B + 8 * d ≤ 1000000000 → (∀ q, q ∈ rm → q < (N 25).toNatClampNeg) → ∀ x, x ∈ sp_rows l d rm N → 0 ≤ x.2.toInt := by
  intro d
  induction d with
  | zero => intro B rm N h _ _ x hx; rw [sp_rows] at hx; rw [List.mem_singleton.mp hx]; exact h.1.1.1
  | succ d ih =>
    intro B rm N h hB hr x hx
    rw [sp_rows] at hx
    obtain ⟨q, hq, hx⟩ := List.mem_flatMap.mp hx
    cases hm : sp_miss l N q with
    | none => rw [hm] at hx; cases hx
    | some N' =>
      rw [hm] at hx
      obtain ⟨y, hy, rfl⟩ := List.mem_map.mp hx
      obtain ⟨r1, r2⟩ := miss_rg h (hr q hq) (by omega) hm
      exact ih (B + 8) _ N' r1 (by omega) (fun p hp => by rw [r2 25 (by decide)]; exact hr p (List.mem_filter.mp hp).1) y hy
theorem shots_sim (l : Option sp_L) {w : Nat} (hw : w < 12) : ∀ (n : Nat) (N N' : Nat → Int32), sp_sim N N' → (sp_shots l n N w = none ∧ sp_shots l n N' w = none) ∨ ∃ A A', sp_shots l n N w = some A ∧ sp_shots l n N' w = some A' ∧ sp_sim A A' := by
  intro n
  induction n with
  | zero => intro N N' h; exact Or.inr ⟨N, N', rfl, rfl, h⟩
  | succ n ih =>
    intro N N' h
    rw [sp_shots, sp_shots, h.at (j := 3) (by omega), h.at (j := 18) (by omega), h.at (j := 0) (by omega)]
    by_cases hc : N' 3 = 0 ∧ N' 18 ≤ N' 0
    · rw [if_pos hc, if_pos hc]
      refine ih _ _ ?_
      rw [sp_shot_eq l N hw, sp_shot_eq l N' hw]
      exact dig_sim (hit_sim h l hw) hw
    · rw [if_neg hc, if_neg hc]; exact Or.inl ⟨rfl, rfl⟩
theorem rows_sim (l : Option sp_L) : ∀ (d B : Nat) (rm : List Nat) (N N' : Nat → Int32), sp_rg B N → B + 8 * d ≤ 1000000000 → (∀ q, q ∈ rm → q < (N 25).toNatClampNeg) → sp_sim N N' → sp_rows l d rm N = sp_rows l d rm N' := by
  intro d
  induction d with
  | zero => intro B rm N N' _ _ _ h; rw [sp_rows, sp_rows, h.at (j := 0) (by omega)]
  | succ d ih =>
    intro B rm N N' rg hB hr h
    rw [sp_rows, sp_rows]
    refine flat_congr fun q hq => ?_
    have hqn := hr q hq
    have h7 := rg.q7
    obtain ⟨a, b, w, dd, e1, ha, e2, hb, hab, e3, hw, e4, hd⟩ := quar rg hqn
    have hms : (sp_miss l N q = none ∧ sp_miss l N' q = none) ∨ ∃ A A', sp_miss l N q = some A ∧ sp_miss l N' q = some A' ∧ sp_sim A A' := by
      unfold sp_miss
      rw [← h.at (j := 17) (by omega), ← h.at (j := 107 + q) (by omega), ← h.at (j := 114 + q) (by omega), e3, n_cl (by omega)]
      rcases shots_sim l hw (2 * (N 17).toNatClampNeg) N N' h with ⟨x, y⟩ | ⟨A, A', x, y, z⟩
      · rw [x, y]; exact Or.inl ⟨rfl, rfl⟩
      · rw [x, y]
        show ((if A 3 = 0 ∧ A 16 ≤ N (114 + q) then some A else none) = none ∧ (if A' 3 = 0 ∧ A' 16 ≤ N (114 + q) then some A' else none) = none) ∨ ∃ X X', (if A 3 = 0 ∧ A 16 ≤ N (114 + q) then some A else none) = some X ∧ (if A' 3 = 0 ∧ A' 16 ≤ N (114 + q) then some A' else none) = some X' ∧ sp_sim X X'
        rw [z.at (j := 3) (by omega), z.at (j := 16) (by omega)]
        by_cases hc : A' 3 = 0 ∧ A' 16 ≤ N (114 + q)
        · rw [if_pos hc, if_pos hc]; exact Or.inr ⟨A, A', rfl, rfl, z⟩
        · rw [if_neg hc, if_neg hc]; exact Or.inl ⟨rfl, rfl⟩
    rcases hms with ⟨x, y⟩ | ⟨A, A', x, y, z⟩
    · rw [x, y]
    · rw [x, y]
      obtain ⟨r1, r2⟩ := miss_rg rg hqn (by omega) x
      show List.map _ _ = List.map _ _
      rw [ih (B + 8) _ A A' r1 (by omega) (fun p hp => by rw [r2 25 (by decide)]; exact hr p (List.mem_filter.mp hp).1) z]
/-- the invariant with what is known of the rows -/
theorem az_Inv.known {m : Nat} {Z : az_S × Nat} {M M' : az_M} (h : az_Inv m Z M) (ls : Nat → sp_L) (g4 : sp_bk Z M.1 (M.2.2 4) (M.1 3 1) (M.1 3 2) (M.1 42) ls) (hr : M'.1 34 13 = 0 ∨ (M'.1 34 13 = 1 ∧ sp_rowsOk (sp_law (M.1 3 2) ls) (M.1 2) (M'.1 34 0) (M'.1 34 1) (M'.1 34 2) (M'.1 34 3))) (h1 : ∀ k, keK k → M'.1 k = M.1 k) (h40 : ∀ j, j = 1 ∨ j = 8 ∨ j = 11 ∨ j = 13 ∨ j = 18 ∨ j = 20 ∨ j = 55 ∨ j = 58 → M'.1 40 j = M.1 40 j) (h45 : ∀ j, j < 2400 → M'.1 45 j = M.1 45 j) (hl : ∀ k, k = 55 ∨ k = 56 ∨ k = 57 → M'.2.1 k = M.2.1 k) (h2 : M'.2.2 = M.2.2) : az_Inv m Z M' := by
  have a : az_Inv m Z (ro M' 34 (fun _ => 0)) := h.rows (fun k hk => by rw [ro_ne (by unfold keK at hk; omega)]; exact h1 k hk) (by rw [ro_eq]) (fun j hj => by rw [ro_ne (by decide)]; exact h40 j hj) (fun j hj => by rw [ro_ne (by decide)]; exact h45 j hj) hl h2
  obtain ⟨g1, g2, g3, -, g5, g6, g7, g8, g9, g10, g11⟩ := a
  refine ⟨g1, g2, g3, ⟨ls, ?_, ?_⟩, g5, g6, g7, g8, ⟨g9.1.cong (fun k hk => (ro_ne (by omega)).symm) rfl rfl rfl, g9.2.1.cong (fun k hk => (ro_ne (by omega)).symm) rfl rfl rfl, g9.2.2⟩, g10, g11⟩
  · rw [h1 3 (by unfold keK; omega), h1 42 (by unfold keK; omega), h2]
    exact g4.cong (fun k hk => h1 k (by unfold keK; omega))
  · rw [h1 3 (by unfold keK; omega), h1 2 (by unfold keK; omega)]; exact hr
/-- the class looks for its rows -/
theorem c_look {m : Nat} {Z : az_S × Nat} {M : az_M} (h : az_Inv m Z M) (hm : m < 512) : ∃ ls, sp_bk Z M.1 (M.2.2 4) (M.1 3 1) (M.1 3 2) (M.1 42) ls ∧ ∃ M', f_X7_lookForRows Z sp_G M = some M' ∧ (∀ k, k ≠ 14 → k ≠ 20 → k ≠ 34 → k ≠ 36 → k ≠ 37 → k ≠ 38 → k ≠ 39 → M'.1 k = M.1 k) ∧ M'.2 = M.2 ∧ M'.1 34 13 = 1 ∧ sp_rowsOk (sp_law (M.1 3 2) ls) (M.1 2) (M'.1 34 0) (M'.1 34 1) (M'.1 34 2) (M'.1 34 3) := by
  obtain ⟨g1, g2, g3, ⟨ls, g4, g4b⟩, -⟩ := h
  refine ⟨ls, g4, ?_⟩
  rcases g4b with k0 | ⟨k1, k2⟩
  · obtain ⟨n, hn, -, hn7⟩ := g3.2.2.2.2.1.2.2.1.nat (by decide) (by decide)
    have hn7' : n ≤ 7 := by omega
    generalize hS : cpy (M.1 2) (M.1 36) 0 0 145 = S
    have S2 : ∀ j, j < 145 → S j = M.1 2 j := fun j hj => by rw [← hS]; exact cpy_same j hj
    have rgS : sp_rg (sp_B m) S := g3.2.congN S2
    generalize hX : ro (az_i (ro M 36 S) 34 10 0) 38 (fun j => if 0 ≤ j ∧ j < 0 + 128 then -1 else (az_i (ro M 36 S) 34 10 0).1 38 j) = X
    have xk : ∀ k, k ≠ 34 → k ≠ 36 → k ≠ 38 → X.1 k = M.1 k := fun k a b c => by rw [← hX, ro_ne c, gi_k a, ro_ne b]
    have X36 : X.1 36 = S := by rw [← hX, ro_ne (by decide), gi_k (by decide), ro_eq]
    have x34 : ∀ j, j ≠ 10 → X.1 34 j = M.1 34 j := fun j hj => by rw [← hX, ro_ne (by decide), gi, if_pos rfl, if_neg hj, ro_ne (by decide)]
    have x38 : ∀ j, j < 128 → X.1 38 j = -1 := fun j hj => by rw [← hX, ro_eq]; exact if_pos ⟨by omega, by omega⟩
    have x2 : X.2 = M.2 := by rw [← hX]; rfl
    have CX : ClsAt Z (sp_B m) 35 (M.1 3 2) ls S X := ⟨⟨M.1 42, by rw [x2, xk 3 (by decide) (by decide) (by decide)]; exact g4.cong (fun k hk => xk k (by omega) (by omega) (by omega))⟩, by rw [xk 3 (by decide) (by decide) (by decide)], X36, rgS, by unfold sp_B; omega, by decide⟩
    obtain ⟨Y, y1, y2, y3, -⟩ := c_tryQ (one := 0) (base := S) hn7' (by rw [S2 25 (by decide)]; exact hn) n 0 10 (by omega) (by omega) (sp_B m) S X 0 (-1) CX (by unfold sp_B; omega) (fun _ _ => rfl) (by rw [← hX, ro_ne (by decide), gi, if_pos rfl, if_pos rfl]) (by decide) (by rw [rem_0, List.length_range]) (by decide) (fun j hj => Or.inl (x38 j hj))
    rw [rem_0] at y3
    have hq25 : ∀ q, q ∈ List.range n → q < (S 25).toNatClampNeg := fun q hq => by rw [S2 25 (by decide), hn, n_cl (by omega)]; exact List.mem_range.mp hq
    have erow : sp_rows (sp_law (M.1 3 2) ls) n (List.range n) S = sp_rows (sp_law (M.1 3 2) ls) n (List.range n) (M.1 2) := rows_sim _ n (sp_B m) _ S _ rgS (by unfold sp_B; omega) hq25 (fun j hj => S2 j hj.1)
    have pos := rows_pos (sp_law (M.1 3 2) ls) n (sp_B m) (List.range n) S rgS (by unfold sp_B; omega) hq25
    refine ⟨az_i Y 34 13 1, ?_, fun k a b c d e f g => by rw [gi_k c, y2.1 k a b c d e f g, xk k c d f], by rw [← x2]; exact y2.2.2.2.2, by rw [gi, if_pos rfl, if_pos rfl], ?_⟩
    · unfold f_X7_lookForRows f_X7_lookForRows_38
      rw [if_pos k0, p_copy, Option.bind_some, show M.1 (1 + 1) = M.1 2 from rfl, show M.1 (35 + 1) = M.1 36 from rfl, hS, p_forget, Option.bind_some]
      show (f_X7_tryQuarrels Z sp_G 10 0 0 (ro (az_i (ro M 36 S) 34 10 0) 38 (fun j => if 0 ≤ j ∧ j < 0 + 128 then -1 else (az_i (ro M 36 S) 34 10 0).1 38 j))).bind _ = _
      rw [hX, show f_X7_tryQuarrels Z sp_G 10 0 0 X = some Y from y1]
      rfl
    · unfold sp_rowsOk
      rw [hn, n_cl (by omega), ← erow]
      have e : ∀ j, j ≠ 13 → (az_i Y 34 13 1).1 34 j = Y.1 34 j := fun j hj => by rw [gi, if_pos rfl, if_neg hj]
      rw [e 0 (by decide), e 1 (by decide), e 2 (by decide), e 3 (by decide)]
      refine ⟨y3.1, fun x hx => y3.2.1 rfl (fun j hj => Or.inl (x38 j hj)) x hx, fun x hx => (y3.2.2.1 rfl).2.1 x hx ?_⟩
      have := pos x (best_max hx).1
      omega
  · refine ⟨M, ?_, fun _ _ _ _ _ _ _ _ => rfl, rfl, k1, k2⟩
    unfold f_X7_lookForRows f_X7_lookForRows_38
    rw [if_neg (by rw [k1]; decide)]
