/-! THE REFERENCE KEEPS A LAW -/
theorem r_146 {M : az_M} {b m : Nat} (hb : b + 900 ≤ 5550) (hm : m ≤ 400) (h23 : M.1 40 23 = nI m) : ∀ (e x F : Nat) (h : Nat → Int32), x + e = m → e < F → ∃ h', f_X12_law_146 sp_G F (nI b) (nI x) (ro M 42 h) = ((f_X12_tell (((az_i (ro M 42 h') 42 4 (((ro M 42 h').1 42 4) + 1)).1 42 4) - 1) (az_i (ro M 42 h') 42 4 (((ro M 42 h').1 42 4) + 1))).bind fun q26 => some (q26.1, q26.2)) ∧ (∀ k, x ≤ k → k < m → h' (b + 98 + 2 * k) = M.1 51 k ∧ h' (b + 98 + 2 * k + 1) = M.1 52 k) ∧ ∀ j, j < b + 98 + 2 * x ∨ b + 98 + 2 * m ≤ j → h' j = h j := by
  intro e
  induction e with
  | zero =>
    intro x F h hx hF
    obtain ⟨F, rfl⟩ : ∃ F1, F = F1 + 1 := ⟨F - 1, by omega⟩
    refine ⟨h, ?_, fun k h1 h2 => by omega, fun _ _ => rfl⟩
    rw [f_X12_law_146, if_pos (by rw [ro_ne (by decide), h23]; exact nI_le (by omega) (by omega))]
  | succ e ih =>
    intro x F h hx hF
    obtain ⟨F, rfl⟩ : ∃ F1, F = F1 + 1 := ⟨F - 1, by omega⟩
    obtain ⟨h', a1, a2, a3⟩ := ih (x + 1) F (up (up h (b + 98 + 2 * x) (M.1 51 x)) (b + 98 + 2 * x + 1) (M.1 52 x)) (by omega) (by omega)
    refine ⟨h', ?_, fun k h1 h2 => ?_, fun j hj => ?_⟩
    · rw [f_X12_law_146, if_neg (by rw [ro_ne (by decide), h23, n_le (by omega) (by omega)]; omega), if_neg (nI_in (by omega) (by decide)), show nI b + 98 = nI (b + 98) from n_addr 98 b, show (2 : Int32) * nI x = nI (2 * x) from n_mull 2 x, n_add, if_neg (nI_in (by omega) (by omega)), if_neg (nI_in (by omega) (by decide)), show nI (b + 98 + 2 * x) + 1 = nI (b + 98 + 2 * x + 1) from n_addr 1 _, if_neg (nI_in (by omega) (by omega)), n_cl (by omega), n_cl (by omega), n_cl (by omega), show nI x + 1 = nI (x + 1) from (nI_succ x).symm]
      have e1 : az_i (ro M 42 h) 42 (b + 98 + 2 * x) ((ro M 42 h).1 51 x) = ro M 42 (up h (b + 98 + 2 * x) (M.1 51 x)) := by rw [az_i_ro, ro_eq, ro_ro, ro_ne (by decide)]
      have e2 : az_i (ro M 42 (up h (b + 98 + 2 * x) (M.1 51 x))) 42 (b + 98 + 2 * x + 1) ((ro M 42 (up h (b + 98 + 2 * x) (M.1 51 x))).1 52 x) = ro M 42 (up (up h (b + 98 + 2 * x) (M.1 51 x)) (b + 98 + 2 * x + 1) (M.1 52 x)) := by rw [az_i_ro, ro_eq, ro_ro, ro_ne (by decide)]
      rw [e1, e2]; exact a1
    · by_cases hk : k = x
      · subst hk
        rw [a3 _ (Or.inl (by omega)), a3 _ (Or.inl (by omega)), up_ne (by omega), up_eq, up_eq]; exact ⟨rfl, rfl⟩
      · exact a2 k (by omega) h2
    · rw [a3 j (by omega), up_ne (by omega), up_ne (by omega)]
theorem r_store {M : az_M} {n b len m : Nat} (hn : n < 6) (hb : b = 150 + 900 * n) (hlen : len ≤ 12) (hm : m ≤ 400) (h21 : M.1 40 21 = nI len) (h23 : M.1 40 23 = nI m) (h4 : M.1 42 4 = nI n) : ∃ M', f_X12_law_111 sp_G sp_G (nI b) 0 M = some (nI n, M') ∧ (∀ a, a ≠ 40 → a ≠ 42 → M'.1 a = M.1 a) ∧ (∀ j, j ≠ 1 → M'.1 40 j = M.1 40 j) ∧ M'.1 40 1 = 0 ∧ M'.2 = M.2 ∧ M'.1 42 4 = nI (n + 1) ∧ (∀ j, j < 8 * len → M'.1 42 (b + 2 + j) = M.1 50 j) ∧ (∀ k, k < m → M'.1 42 (b + 98 + 2 * k) = M.1 51 k ∧ M'.1 42 (b + 98 + 2 * k + 1) = M.1 52 k) ∧ ∀ j, j ≠ 4 → j < b + 2 ∨ b + 900 ≤ j → M'.1 42 j = M.1 42 j := by
  have e111 : f_X12_law_111 sp_G sp_G (nI b) (nI 0) M = f_X12_law_146 sp_G sp_G (nI b) 0 (ro M 42 (fun j => if b + 2 ≤ j ∧ j < b + 2 + 8 * len then M.1 50 (j - (b + 2)) else M.1 42 j)) := by
    refine lp_fill (f := fun F i M => f_X12_law_111 sp_G F (nI b) i M) (fin := fun M => f_X12_law_146 sp_G sp_G (nI b) 0 M) (M := M) (k := 42) (d := b + 2) (n := 8 * len) (g := fun i => M.1 50 i) (F := sp_G) ?_ ?_ (by show 8 * len < 1000000; omega)
    · intro F i h hi hh
      show f_X12_law_111 sp_G (F + 1) (nI b) (nI i) _ = f_X12_law_111 sp_G F (nI b) (nI (i + 1)) _
      rw [f_X12_law_111, if_neg (by rw [ro_ne (by decide), h21, show (8 : Int32) * nI len = nI (8 * len) from n_mull 8 len, n_le (by omega) (by omega)]; omega), if_neg (nI_in (by omega) (by omega)), show nI b + 2 = nI (b + 2) from n_addr 2 b, n_add, if_neg (nI_in (by omega) (by omega)), n_cl (by omega), n_cl (by omega), show nI i + 1 = nI (i + 1) from (nI_succ i).symm, az_i_ro, ro_eq, ro_ro, ro_ne (by decide)]
    · intro F h
      show f_X12_law_111 sp_G (F + 1) (nI b) (nI (8 * len)) _ = _
      rw [f_X12_law_111, if_pos (by rw [ro_ne (by decide), h21, show (8 : Int32) * nI len = nI (8 * len) from n_mull 8 len]; exact nI_le (Nat.le_refl _) (by omega))]
  obtain ⟨h', a1, a2, a3⟩ := r_146 (M := M) (b := b) (by omega) hm h23 m 0 sp_G (fun j => if b + 2 ≤ j ∧ j < b + 2 + 8 * len then M.1 50 (j - (b + 2)) else M.1 42 j) (by omega) (by show m < 1000000; omega)
  have h'4 : h' 4 = nI n := by rw [a3 4 (Or.inl (by omega)), if_neg (by omega)]; exact h4
  have e4 : (ro M 42 h').1 42 4 + 1 = nI (n + 1) := by rw [ro_eq, h'4]; exact (nI_succ n).symm
  have e5 : (az_i (ro M 42 h') 42 4 (nI (n + 1))).1 42 4 - 1 = nI n := by rw [gi, if_pos rfl, if_pos rfl]; exact nI_pred n
  refine ⟨az_i (az_i (ro M 42 h') 42 4 (nI (n + 1))) 40 1 0, ?_, fun a p q => by rw [gi_k p, gi_k q, ro_ne q], fun j hj => by rw [gi, if_pos rfl, if_neg hj, gi_k (by decide), ro_ne (by decide)], by rw [gi, if_pos rfl, if_pos rfl], rfl, by rw [gi_k (by decide), gi, if_pos rfl, if_pos rfl], fun j hj => ?_, fun k hk => ?_, fun j hj hj2 => ?_⟩
  · rw [show f_X12_law_111 sp_G sp_G (nI b) 0 M = _ from e111, show f_X12_law_146 sp_G sp_G (nI b) 0 _ = _ from a1, e4, e5, p_tell (nI_pos' (by omega))]
    rfl
  · rw [gi_k (by decide), gi, if_pos rfl, if_neg (by omega), ro_eq, a3 _ (Or.inl (by omega)), if_pos (by omega), Nat.add_sub_cancel_left]
  · rw [gi_k (by decide), gi, if_pos rfl, if_neg (by omega), gi, if_pos rfl, if_neg (by omega), ro_eq]; exact a2 k (by omega) hk
  · rw [gi_k (by decide), gi, if_pos rfl, if_neg hj, ro_eq, a3 j (by omega), if_neg (by omega)]
