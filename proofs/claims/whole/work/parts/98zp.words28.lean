/-! RUNNING ORDERS: the words -/
def ow (N : Nat → Int32) (pl pp : Nat) (s w : Int32) : sp_E := fun j => if j = 0 then N 16 else if j = 1 then N 0 else if j = 2 then N 1 else if j = 3 then N 2 else if j = 4 then s else if j = 5 then w else if j < 16 then (if j - 6 < pp then N (83 + (j - 6)) else -1) else (if j - 16 < pl then N (4 + (j - 16)) else -1)
theorem p_words {M : az_M} {pl pp : Nat} (h23 : M.1 2 23 = nI pl) (h24 : M.1 2 24 = nI pp) (hl : pl ≤ 12) (hp : pp ≤ 10) : ∃ M', f_X1_setWords sp_G M = some M' ∧ (∀ j, j < 28 → M'.1 27 j = ow (M.1 2) pl pp (M.1 21 0) (M.1 21 1) j) ∧ (∀ k, k ≠ 27 → M'.1 k = M.1 k) ∧ M'.2 = M.2 := by
  obtain ⟨h0, hh0⟩ : ∃ h0, h0 = up (up (up (up (up (up (M.1 27) 0 (M.1 2 16)) 1 (M.1 2 0)) 2 (M.1 2 1)) 3 (M.1 2 2)) 4 (M.1 21 0)) 5 (M.1 21 1) := ⟨_, rfl⟩
  have e0 : f_X1_setWords sp_G M = f_X1_setWords_83 sp_G sp_G (nI 0) (ro M 27 h0) := by
    unfold f_X1_setWords
    rw [hh0]
    simp only [az_i_ro, ro_eq, ro_ro, ro_ne (show (2 : Nat) ≠ 27 by decide), ro_ne (show (21 : Nat) ≠ 27 by decide)]
    rfl
  have e1 : f_X1_setWords_83 sp_G sp_G (nI 0) (ro M 27 h0) = f_X1_setWords_133 sp_G sp_G (nI 0) (ro (ro M 27 h0) 27 (fun j => if 6 ≤ j ∧ j < 6 + 10 then (if j - 6 < pp then M.1 2 (83 + (j - 6)) else -1) else (ro M 27 h0).1 27 j)) := by
    refine lp_fill (f := fun F i M => f_X1_setWords_83 sp_G F i M) (fin := fun M => f_X1_setWords_133 sp_G sp_G (nI 0) M) (M := ro M 27 h0) (k := 27) (d := 6) (n := 10) (g := fun i => if i < pp then M.1 2 (83 + i) else -1) (F := sp_G) ?_ ?_ (by decide)
    · intro F i h hi hh
      show f_X1_setWords_83 sp_G (F + 1) (nI i) _ = f_X1_setWords_83 sp_G F (nI (i + 1)) _
      rw [ro_ro, ro_ro, f_X1_setWords_83, if_neg (by rw [show (10 : Int32) = nI 10 from rfl, n_le (by omega) (by omega)]; omega)]
      unfold f_X1_setWords_124
      rw [show (6 : Int32) + nI i = nI (6 + i) from n_addl 6 i, if_neg (nI_in (by omega) (by decide)), n_cl (by omega), show nI i + 1 = nI (i + 1) from (nI_succ i).symm, show (83 : Int32) + nI i = nI (83 + i) from n_addl 83 i, if_neg (nI_in (by omega) (by decide)), n_cl (by omega), ro_ne (show (2 : Nat) ≠ 27 by decide)]
      by_cases hip : i < pp
      · rw [p_hasPerson1 (o := 1) (n := pp) (by rw [ro_ne (by decide)]; exact h24) (by omega) hip, Option.bind_some, if_neg (by decide), az_i_ro, ro_eq, ro_ro]
        simp only [if_pos hip]
        rw [if_neg (nIn (by omega) (by omega))]
      · rw [p_hasPerson0 (o := 1) (Or.inr (by rw [ro_ne (by decide), h24, n_le (by omega) (by omega)]; omega)), Option.bind_some, if_pos rfl, az_i_ro, ro_eq, ro_ro]
        simp only [if_neg hip]
    · intro F h
      show f_X1_setWords_83 sp_G (F + 1) (nI 10) _ = _
      rw [f_X1_setWords_83, if_pos (by decide)]; rfl
  rw [ro_ro] at e1
  obtain ⟨h1, hh1⟩ : ∃ h1 : Nat → Int32, h1 = (fun j => if 6 ≤ j ∧ j < 6 + 10 then (if j - 6 < pp then M.1 2 (83 + (j - 6)) else -1) else (ro M 27 h0).1 27 j) := ⟨_, rfl⟩
  rw [← hh1] at e1
  have e2 : f_X1_setWords_133 sp_G sp_G (nI 0) (ro M 27 h1) = some (ro (ro M 27 h1) 27 (fun j => if 16 ≤ j ∧ j < 16 + 12 then (if j - 16 < pl then M.1 2 (4 + (j - 16)) else -1) else (ro M 27 h1).1 27 j)) := by
    refine lp_fill (f := fun F i M => f_X1_setWords_133 sp_G F i M) (fin := fun M => some M) (M := ro M 27 h1) (k := 27) (d := 16) (n := 12) (g := fun i => if i < pl then M.1 2 (4 + i) else -1) (F := sp_G) ?_ ?_ (by decide)
    · intro F i h hi hh
      show f_X1_setWords_133 sp_G (F + 1) (nI i) _ = f_X1_setWords_133 sp_G F (nI (i + 1)) _
      rw [ro_ro, ro_ro, f_X1_setWords_133, if_neg (by rw [show (12 : Int32) = nI 12 from rfl, n_le (by omega) (by omega)]; omega)]
      unfold f_X1_setWords_173
      rw [show (16 : Int32) + nI i = nI (16 + i) from n_addl 16 i, if_neg (nI_in (by omega) (by decide)), n_cl (by omega), show nI i + 1 = nI (i + 1) from (nI_succ i).symm, show (4 : Int32) + nI i = nI (4 + i) from n_addl 4 i, if_neg (nI_in (by omega) (by decide)), n_cl (by omega), ro_ne (show (2 : Nat) ≠ 27 by decide)]
      by_cases hip : i < pl
      · rw [p_hasPlace1 (o := 1) (n := pl) (by rw [ro_ne (by decide)]; exact h23) (by omega) hip, Option.bind_some, if_neg (by decide), az_i_ro, ro_eq, ro_ro]
        simp only [if_pos hip]
        rw [if_neg (nIn (by omega) (by omega))]
      · rw [p_hasPlace0 (o := 1) (Or.inr (by rw [ro_ne (by decide), h23, n_le (by omega) (by omega)]; omega)), Option.bind_some, if_pos rfl, az_i_ro, ro_eq, ro_ro]
        simp only [if_neg hip]
    · intro F h
      show f_X1_setWords_133 sp_G (F + 1) (nI 12) _ = _
      rw [f_X1_setWords_133, if_pos (by decide)]
  refine ⟨_, (e0.trans e1).trans e2, fun j hj => ?_, fun k hk => by rw [ro_ne hk, ro_ne hk], rfl⟩
  rw [ro_eq]
  show (if 16 ≤ j ∧ j < 16 + 12 then (if j - 16 < pl then M.1 2 (4 + (j - 16)) else -1) else (ro M 27 h1).1 27 j) = _
  unfold ow
  rw [ro_eq, hh1]
  show (if 16 ≤ j ∧ j < 16 + 12 then (if j - 16 < pl then M.1 2 (4 + (j - 16)) else -1) else if 6 ≤ j ∧ j < 6 + 10 then (if j - 6 < pp then M.1 2 (83 + (j - 6)) else -1) else (ro M 27 h0).1 27 j) = _
  rw [ro_eq, hh0]
  by_cases c16 : 16 ≤ j
  · rw [if_pos (show 16 ≤ j ∧ j < 16 + 12 by omega), if_neg (show ¬ j = 0 by omega), if_neg (show ¬ j = 1 by omega), if_neg (show ¬ j = 2 by omega), if_neg (show ¬ j = 3 by omega), if_neg (show ¬ j = 4 by omega), if_neg (show ¬ j = 5 by omega), if_neg (show ¬ j < 16 by omega)]
  · rw [if_neg (show ¬ (16 ≤ j ∧ j < 16 + 12) by omega)]
    by_cases c6 : 6 ≤ j
    · rw [if_pos (show 6 ≤ j ∧ j < 6 + 10 by omega), if_neg (show ¬ j = 0 by omega), if_neg (show ¬ j = 1 by omega), if_neg (show ¬ j = 2 by omega), if_neg (show ¬ j = 3 by omega), if_neg (show ¬ j = 4 by omega), if_neg (show ¬ j = 5 by omega), if_pos (show j < 16 by omega)]
    · rw [if_neg (show ¬ (6 ≤ j ∧ j < 6 + 10) by omega)]
      rcases (show j = 0 ∨ j = 1 ∨ j = 2 ∨ j = 3 ∨ j = 4 ∨ j = 5 by omega) with rfl | rfl | rfl | rfl | rfl | rfl <;> rfl
