/-! RUNNING ORDERS: what is kept before, and put back -/
theorem sp_past.congAll {B : Nat} {el cnt : Int32} {kinds kinds' prov prov' : Nat → Int32} {n : Int32} {sorts sorts' und und' : Nat → Int32} (hk : ∀ j, j < 16 → kinds' j = kinds j) (hp : ∀ j, j < 2320 → prov' j = prov j) (hs : ∀ j, j < 16 → sorts' j = sorts j) (hu : ∀ j, j < 2400 → und' j = und j) (h : sp_past B el cnt kinds prov n sorts und) : sp_past B el cnt kinds' prov' n sorts' und' := by
  obtain ⟨e, c, h1, h2, h3, h4, h5, h6⟩ := h
  refine ⟨e, c, h1, h2, h3, h4, h5, fun k hkc => ?_⟩
  obtain ⟨a, b, p, r⟩ := h6 k hkc
  have hN : ∀ j, j < 145 → (fun j => prov' (145 * ((e + k) % 16) + j)) j = (fun j => prov (145 * ((e + k) % 16) + j)) j := fun j hj => hp _ (by omega)
  have hR : ∀ j, j < 150 → (fun j => und' (150 * k + j)) j = (fun j => und (150 * k + j)) j := fun j hj => hu _ (by omega)
  exact ⟨by rw [hk _ (by omega), hs _ (by omega)]; exact a, by rw [hs _ (by omega)]; exact b, (p.congR hR r.q7).congN hN r.q7, r.congN hN⟩
theorem rowsOk_cong {B : Nat} {l : Option sp_L} {N N' : Nat → Int32} {a b c d : Int32} (rg : sp_rg B N) (hB : B + 56 ≤ 1000000000) (hN : ∀ j, j < 145 → N' j = N j) (h : sp_rowsOk l N a b c d) : sp_rowsOk l N' a b c d := by
  have h7 := rg.q7
  have key := rows_sim l (N 25).toNatClampNeg B (List.range (N 25).toNatClampNeg) N N' rg (by omega) (fun q hq => List.mem_range.mp hq) (fun j hj => (hN j (by unfold sp_pj at hj; omega)).symm)
  unfold sp_rowsOk at h ⊢
  rw [hN 25 (by omega), ← key]
  exact h
theorem ord_step {m : Nat} {Z : az_S × Nat} {M M' : az_M} (h : az_Inv m Z M) (hm : m < 512)
    (hp : sp_pr (M'.1 2) (M'.1 42) ∧ sp_rg (sp_B (m + 1)) (M'.1 2))
    (hb3 : M'.1 3 = M.1 3) (hb : ∀ j, j = 4 ∨ j = 5 ∨ 150 ≤ j → M'.1 42 j = M.1 42 j)
    (hA : ∀ k, 71 ≤ k → M'.1 k = M.1 k) (h2 : M'.2.2 = M.2.2)
    (hr : M'.1 34 13 = 0 ∨ (M'.1 34 = M.1 34 ∧ ∀ j, j < 145 → M'.1 2 j = M.1 2 j))
    (ht : M'.1 5 1 = 0 ∧ M'.1 40 13 = 0 ∧ M'.1 6 = M.1 6 ∧ M'.1 49 = M.1 49)
    (hs : M'.1 0 12 = M'.1 40 1 ∧ M'.1 0 13 = M'.1 40 18 ∧ M'.1 0 14 = M'.1 40 11 ∧ M'.1 0 15 = M'.1 40 55)
    (hf : M'.1 12 0 = M'.1 41 1 ∧ M'.1 12 1 = M'.1 41 2 ∧ M'.1 12 2 = M'.1 41 3 ∧ M'.1 12 3 = M'.1 41 5 ∧ M'.1 12 4 = M'.1 41 6)
    (hu : sp_past (sp_B (m + 1)) (M'.1 7 2) (M'.1 7 3) (M'.1 8) (M'.1 9) (M'.1 40 8) (M'.1 46) (M'.1 45))
    (hi : ∀ k, k = 28 ∨ k = 29 ∨ k = 43 ∨ k = 44 ∨ k = 70 → M'.1 k = M.1 k) (h58 : M'.1 40 58 = M.1 40 58)
    (hc : M'.1 40 20 = 0) (hw : ∀ k, k = 55 ∨ k = 56 ∨ k = 57 → M'.2.1 k = M.2.1 k) : az_Inv (m + 1) Z M' := by
  obtain ⟨g1, g2, g3, ⟨ls, g4, g4b⟩, g5, g6, g7, g8, g9, g10, g11⟩ := h
  have hle : sp_B m ≤ sp_B (m + 1) := sp_B_le (by omega)
  refine ⟨by rw [h2]; exact g1, ?_, hp, ⟨ls, ?_, ?_⟩, ⟨by rw [ht.1, ht.2.1], by rw [ht.1]; unfold sp_in; decide, by rw [ht.2.2.1, ht.2.2.2]; exact g5.2.2⟩, hs, hf, hu, ?_, ?_, hc, ?_⟩
  · unfold az_rokz at g2 ⊢; rw [h2]; exact g2
  · rw [h2, hb3]; exact (g4.cong hA).congR (fun j hj => hb j (by omega))
  · rcases hr with hr | ⟨hr, hr2⟩
    · exact Or.inl hr
    · rw [hr, hb3]
      rcases g4b with g | ⟨g, ok⟩
      · exact Or.inl g
      · exact Or.inr ⟨g, rowsOk_cong g3.2 (by unfold sp_B; omega) hr2 ok⟩
  · rw [h2]
    exact ⟨(g9.1.mono hle).cong hA (hi 43 (by omega)) (hi 44 (by omega)) h2, (g9.2.1.mono hle).cong hA (hi 43 (by omega)) (hi 44 (by omega)) h2, g9.2.2⟩
  · rw [hi 28 (by omega), hi 29 (by omega), hi 70 (by omega), h58]; exact g10
  · rw [hw 55 (by simp), hw 56 (by simp), hw 57 (by simp)]; exact g11.2
theorem p_pcopy {o a : Nat} (ho : o + 3 ≤ a ∨ a + 3 ≤ o) (M : az_M) : ∃ M', f_X3_copy o a M = some M' ∧ (∀ k, k ≠ o → k ≠ o + 1 → k ≠ o + 2 → M'.1 k = M.1 k) ∧ M'.2 = M.2 ∧ (M'.1 o 2 = M.1 a 2 ∧ M'.1 o 3 = M.1 a 3) ∧ (∀ j, j < 16 → M'.1 (o + 1) j = M.1 (a + 1) j) ∧ ∀ j, j < 2320 → M'.1 (o + 2) j = M.1 (a + 2) j := by
  obtain ⟨A, hA⟩ : ∃ A, A = ro (ro M (o + 1) (cpy (M.1 (a + 1)) (M.1 (o + 1)) 0 0 16)) (o + 2) (cpy ((ro M (o + 1) (cpy (M.1 (a + 1)) (M.1 (o + 1)) 0 0 16)).1 (a + 2)) ((ro M (o + 1) (cpy (M.1 (a + 1)) (M.1 (o + 1)) 0 0 16)).1 (o + 2)) 0 0 2320) := ⟨_, rfl⟩
  have e : f_X3_copy o a M = some (az_i (az_i A o 2 (A.1 a 2)) o 3 ((az_i A o 2 (A.1 a 2)).1 a 3)) := by rw [hA]; rfl
  have Ak : ∀ k, k ≠ o + 1 → k ≠ o + 2 → A.1 k = M.1 k := fun k h1 h2 => by rw [hA, ro_ne h2, ro_ne h1]
  refine ⟨_, e, fun k h0 h1 h2 => by rw [gi_k h0, gi_k h0, Ak k h1 h2], by rw [hA]; rfl, ⟨?_, ?_⟩, fun j hj => ?_, fun j hj => ?_⟩
  · rw [gi, if_pos rfl, if_neg (by decide), gi, if_pos rfl, if_pos rfl, Ak a (by omega) (by omega)]
  · rw [gi, if_pos rfl, if_pos rfl, gi, if_neg (by omega), Ak a (by omega) (by omega)]
  · rw [gi_k (by omega), gi_k (by omega), hA, ro_ne (by omega), ro_eq, cpy_in (by omega)]
    exact congrArg (M.1 (a + 1)) (by omega)
  · rw [gi_k (by omega), gi_k (by omega), hA, ro_eq, cpy_in (by omega), ro_ne (by omega)]
    exact congrArg (M.1 (a + 2)) (by omega)
theorem c_begin (X : az_M) : ∃ X', f_X1_begin X = some X' ∧ (∀ k, k ≠ 21 → k ≠ 23 → k ≠ 24 → k ≠ 25 → k ≠ 26 → X'.1 k = X.1 k) ∧ X'.2 = X.2 ∧ (X'.1 21 0 = 0 ∧ X'.1 21 1 = -1) ∧ (∀ j, j < 145 → X'.1 23 j = X.1 2 j) ∧ (X'.1 24 2 = X.1 7 2 ∧ X'.1 24 3 = X.1 7 3) ∧ (∀ j, j < 16 → X'.1 25 j = X.1 8 j) ∧ ∀ j, j < 2320 → X'.1 26 j = X.1 9 j := by
  obtain ⟨P, p1, p2, p3, p4, p5, p6⟩ := p_pcopy (o := 24) (a := 7) (by omega) (ro X (22 + 1) (cpy (X.1 (1 + 1)) (X.1 (22 + 1)) 0 0 145))
  refine ⟨az_i (az_i P 21 0 0) 21 1 (-1), ?_, fun k h1 h2 h3 h4 h5 => ?_, ?_, ⟨rfl, rfl⟩, fun j hj => ?_, ?_, fun j hj => ?_, fun j hj => ?_⟩
  · unfold f_X1_begin
    rw [p_copy, Option.bind_some, p1, Option.bind_some]
  · rw [gi_k h1, gi_k h1, p2 k h3 h4 h5, ro_ne h2]
  · show P.2 = _
    rw [p3]; rfl
  · rw [gi_k (by decide), gi_k (by decide), p2 23 (by decide) (by decide) (by decide), ro_eq, cpy_in (by omega)]
    exact congrArg (X.1 2) (by omega)
  · rw [gi_k (by decide), gi_k (by decide), p4.1, p4.2, ro_ne (by decide)]; exact ⟨rfl, rfl⟩
  · rw [gi_k (by decide), gi_k (by decide)]; exact (p5 j hj).trans (by rw [ro_ne (by decide)])
  · rw [gi_k (by decide), gi_k (by decide)]; exact (p6 j hj).trans (by rw [ro_ne (by decide)])
theorem c_giveUp (X : az_M) : ∃ X', f_X1_giveUp X = some X' ∧ (∀ k, k ≠ 2 → k ≠ 7 → k ≠ 8 → k ≠ 9 → X'.1 k = X.1 k) ∧ X'.2 = X.2 ∧ (∀ j, j < 145 → X'.1 2 j = X.1 23 j) ∧ (X'.1 7 2 = X.1 24 2 ∧ X'.1 7 3 = X.1 24 3) ∧ (∀ j, j < 16 → X'.1 8 j = X.1 25 j) ∧ ∀ j, j < 2320 → X'.1 9 j = X.1 26 j := by
  obtain ⟨P, p1, p2, p3, p4, p5, p6⟩ := p_pcopy (o := 7) (a := 24) (by omega) (ro X (1 + 1) (cpy (X.1 (22 + 1)) (X.1 (1 + 1)) 0 0 145))
  refine ⟨P, ?_, fun k h1 h2 h3 h4 => ?_, ?_, fun j hj => ?_, ?_, fun j hj => ?_, fun j hj => ?_⟩
  · unfold f_X1_giveUp
    rw [p_copy, Option.bind_some, p1, Option.bind_some]
  · rw [p2 k h2 h3 h4, ro_ne h1]
  · rw [p3]; rfl
  · rw [p2 2 (by decide) (by decide) (by decide), ro_eq, cpy_in (by omega)]
    exact congrArg (X.1 23) (by omega)
  · rw [p4.1, p4.2, ro_ne (by decide)]; exact ⟨rfl, rfl⟩
  · exact (p5 j hj).trans (by rw [ro_ne (by decide)])
  · exact (p6 j hj).trans (by rw [ro_ne (by decide)])
theorem r_begin (x1 : Int32) (M : az_M) : ∃ R, f_X12_orders_77 sp_G sp_G x1 0 M = f_X12_orders_140 sp_G sp_G x1 0 R ∧ (∀ k, k ≠ 40 → k ≠ 47 → k ≠ 48 → R.1 k = M.1 k) ∧ (∀ j, j ≠ 53 → j ≠ 54 → R.1 40 j = M.1 40 j) ∧ (R.1 40 53 = 0 ∧ R.1 40 54 = -1) ∧ R.2 = M.2 ∧ (∀ j, j < 2400 → R.1 47 j = M.1 45 j) ∧ ∀ j, j < 16 → R.1 48 j = M.1 46 j := by
  have e1 : f_X12_orders_77 sp_G sp_G x1 (nI 0) M = f_X12_orders_104 sp_G sp_G x1 (nI 0) (ro M 47 (fun j => if 0 ≤ j ∧ j < 0 + 2400 then M.1 45 (j - 0) else M.1 47 j)) := by
    refine lp_fill (f := fun F i M => f_X12_orders_77 sp_G F x1 i M) (fin := fun M => f_X12_orders_104 sp_G sp_G x1 (nI 0) M) (M := M) (k := 47) (d := 0) (n := 2400) (g := fun i => M.1 45 i) (F := sp_G) ?_ ?_ (by decide)
    · intro F i h hi hh
      show f_X12_orders_77 sp_G (F + 1) x1 (nI i) _ = f_X12_orders_77 sp_G F x1 (nI (i + 1)) _
      rw [f_X12_orders_77, if_neg (by rw [show (2400 : Int32) = nI 2400 from rfl, n_le (by omega) (by omega)]; omega), if_neg (nI_in (by omega) (by decide)), if_neg (nI_in (by omega) (by decide)), n_cl (by omega), show nI i + 1 = nI (i + 1) from (nI_succ i).symm, az_i_ro, ro_eq, ro_ro, ro_ne (show (45 : Nat) ≠ 47 by decide), Nat.zero_add]
    · intro F h
      show f_X12_orders_77 sp_G (F + 1) x1 (nI 2400) _ = _
      rw [f_X12_orders_77, if_pos (by decide)]; rfl
  obtain ⟨X, hX⟩ : ∃ X, X = ro M 47 (fun j => if 0 ≤ j ∧ j < 0 + 2400 then M.1 45 (j - 0) else M.1 47 j) := ⟨_, rfl⟩
  have e2 : f_X12_orders_104 sp_G sp_G x1 (nI 0) X = f_X12_orders_140 sp_G sp_G x1 0 (az_i (az_i (ro X 48 (fun j => if 0 ≤ j ∧ j < 0 + 16 then X.1 46 (j - 0) else X.1 48 j)) 40 53 0) 40 54 (-1)) := by
    refine lp_fill (f := fun F i M => f_X12_orders_104 sp_G F x1 i M) (fin := fun M => f_X12_orders_140 sp_G sp_G x1 0 (az_i (az_i M 40 53 0) 40 54 (-1))) (M := X) (k := 48) (d := 0) (n := 16) (g := fun i => X.1 46 i) (F := sp_G) ?_ ?_ (by decide)
    · intro F i h hi hh
      show f_X12_orders_104 sp_G (F + 1) x1 (nI i) _ = f_X12_orders_104 sp_G F x1 (nI (i + 1)) _
      rw [f_X12_orders_104, if_neg (by rw [show (16 : Int32) = nI 16 from rfl, n_le (by omega) (by omega)]; omega), if_neg (nI_in (by omega) (by decide)), if_neg (nI_in (by omega) (by decide)), n_cl (by omega), show nI i + 1 = nI (i + 1) from (nI_succ i).symm, az_i_ro, ro_eq, ro_ro, ro_ne (show (46 : Nat) ≠ 48 by decide), Nat.zero_add]
    · intro F h
      show f_X12_orders_104 sp_G (F + 1) x1 (nI 16) _ = _
      rw [f_X12_orders_104, if_pos (by decide)]
  rw [← hX] at e1
  refine ⟨_, (show f_X12_orders_77 sp_G sp_G x1 0 M = f_X12_orders_77 sp_G sp_G x1 (nI 0) M from rfl).trans (e1.trans e2), fun k h1 h2 h3 => ?_, fun j h1 h2 => ?_, ⟨rfl, rfl⟩, ?_, fun j hj => ?_, fun j hj => ?_⟩
  · rw [gi_k h1, gi_k h1, ro_ne h3, hX, ro_ne h2]
  · rw [gi, if_pos rfl, if_neg h2, gi, if_pos rfl, if_neg h1, ro_ne (by decide), hX, ro_ne (by decide)]
  · rw [hX]; rfl
  · rw [gi_k (by decide), gi_k (by decide), ro_ne (by decide), hX, ro_eq]
    show (if 0 ≤ j ∧ j < 0 + 2400 then M.1 45 (j - 0) else M.1 47 j) = _
    rw [if_pos (by omega), Nat.sub_zero]
  · rw [gi_k (by decide), gi_k (by decide), ro_eq]
    show (if 0 ≤ j ∧ j < 0 + 16 then X.1 46 (j - 0) else X.1 48 j) = _
    rw [if_pos (by omega), Nat.sub_zero, hX, ro_ne (by decide)]
theorem r_giveBack (x1 : Int32) (M : az_M) : ∃ R, f_X12_giveBack sp_G x1 M = some R ∧ (∀ k, k ≠ 40 → k ≠ 42 → k ≠ 45 → k ≠ 46 → R.1 k = M.1 k) ∧ (∀ j, j ≠ 8 → R.1 40 j = M.1 40 j) ∧ R.1 40 8 = x1 ∧ R.1 42 = r_back (M.1 42) (M.1 45) 20 ∧ R.2 = M.2 ∧ (∀ j, j < 2400 → R.1 45 j = M.1 47 j) ∧ ∀ j, j < 16 → R.1 46 j = M.1 48 j := by
  obtain ⟨W, hW⟩ : ∃ W, W = ro M 42 (r_back (M.1 42) (M.1 45) 20) := ⟨_, rfl⟩
  have e1 : f_X12_giveBack_8 sp_G sp_G x1 (nI 0) W = f_X12_giveBack_35 sp_G sp_G x1 (nI 0) (ro W 45 (fun j => if 0 ≤ j ∧ j < 0 + 2400 then W.1 47 (j - 0) else W.1 45 j)) := by
    refine lp_fill (f := fun F i M => f_X12_giveBack_8 sp_G F x1 i M) (fin := fun M => f_X12_giveBack_35 sp_G sp_G x1 (nI 0) M) (M := W) (k := 45) (d := 0) (n := 2400) (g := fun i => W.1 47 i) (F := sp_G) ?_ ?_ (by decide)
    · intro F i h hi hh
      show f_X12_giveBack_8 sp_G (F + 1) x1 (nI i) _ = f_X12_giveBack_8 sp_G F x1 (nI (i + 1)) _
      rw [f_X12_giveBack_8, if_neg (by rw [show (2400 : Int32) = nI 2400 from rfl, n_le (by omega) (by omega)]; omega), if_neg (nI_in (by omega) (by decide)), if_neg (nI_in (by omega) (by decide)), n_cl (by omega), show nI i + 1 = nI (i + 1) from (nI_succ i).symm, az_i_ro, ro_eq, ro_ro, ro_ne (show (47 : Nat) ≠ 45 by decide), Nat.zero_add]
    · intro F h
      show f_X12_giveBack_8 sp_G (F + 1) x1 (nI 2400) _ = _
      rw [f_X12_giveBack_8, if_pos (by decide)]; rfl
  obtain ⟨X, hX⟩ : ∃ X, X = ro W 45 (fun j => if 0 ≤ j ∧ j < 0 + 2400 then W.1 47 (j - 0) else W.1 45 j) := ⟨_, rfl⟩
  have e2 : f_X12_giveBack_35 sp_G sp_G x1 (nI 0) X = some (az_i (ro X 46 (fun j => if 0 ≤ j ∧ j < 0 + 16 then X.1 48 (j - 0) else X.1 46 j)) 40 8 x1) := by
    refine lp_fill (f := fun F i M => f_X12_giveBack_35 sp_G F x1 i M) (fin := fun M => some (az_i M 40 8 x1)) (M := X) (k := 46) (d := 0) (n := 16) (g := fun i => X.1 48 i) (F := sp_G) ?_ ?_ (by decide)
    · intro F i h hi hh
      show f_X12_giveBack_35 sp_G (F + 1) x1 (nI i) _ = f_X12_giveBack_35 sp_G F x1 (nI (i + 1)) _
      rw [f_X12_giveBack_35, if_neg (by rw [show (16 : Int32) = nI 16 from rfl, n_le (by omega) (by omega)]; omega), if_neg (nI_in (by omega) (by decide)), if_neg (nI_in (by omega) (by decide)), n_cl (by omega), show nI i + 1 = nI (i + 1) from (nI_succ i).symm, az_i_ro, ro_eq, ro_ro, ro_ne (show (48 : Nat) ≠ 46 by decide), Nat.zero_add]
    · intro F h
      show f_X12_giveBack_35 sp_G (F + 1) x1 (nI 16) _ = _
      rw [f_X12_giveBack_35, if_pos (by decide)]
  rw [← hX] at e1
  have e0 : f_X12_giveBack sp_G x1 M = f_X12_giveBack_8 sp_G sp_G x1 (nI 0) W := by
    unfold f_X12_giveBack
    rw [show f_X12_putBack sp_G 20 M = some (ro M 42 (r_back (M.1 42) (M.1 45) 20)) from p_putBack (q := 20) (by omega) M, Option.bind_some, ← hW]
    rfl
  refine ⟨_, e0.trans (e1.trans e2), fun k h1 h2 h3 h4 => ?_, fun j h1 => ?_, rfl, ?_, ?_, fun j hj => ?_, fun j hj => ?_⟩
  · rw [gi_k h1, ro_ne h4, hX, ro_ne h3, hW, ro_ne h2]
  · rw [gi, if_pos rfl, if_neg h1, ro_ne (by decide), hX, ro_ne (by decide), hW, ro_ne (by decide)]
  · rw [gi_k (by decide), ro_ne (by decide), hX, ro_ne (by decide), hW, ro_eq]
  · rw [hX, hW]; rfl
  · rw [gi_k (by decide), ro_ne (by decide), hX, ro_eq]
    show (if 0 ≤ j ∧ j < 0 + 2400 then W.1 47 (j - 0) else W.1 45 j) = _
    rw [if_pos (by omega), Nat.sub_zero, hW, ro_ne (by decide)]
  · rw [gi_k (by decide), ro_eq]
    show (if 0 ≤ j ∧ j < 0 + 16 then X.1 48 (j - 0) else X.1 46 j) = _
    rw [if_pos (by omega), Nat.sub_zero, hX, ro_ne (by decide), hW, ro_ne (by decide)]
