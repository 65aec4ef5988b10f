/-! RUNNING ORDERS: small things -/
theorem p_get16 {Z : az_S × Nat} (hZ : Z.1.2 18 = 72) {k j : Nat} (hk : k < 12) (hj : j < 6) (M : az_M) : f_X10_get Z 16 (nI k) (nI j) M = some (M.1 18 (6 * k + j)) := by
  unfold f_X10_get
  rw [show (16 + 2 : Nat) = 18 from rfl, hZ, show nI k * 6 = nI (k * 6) from n_mulr 6 k, n_add, if_neg (nI_in (by omega) (by omega)), n_cl (by omega), show k * 6 + j = 6 * k + j by omega]
theorem i_6432 (u : Int32) : u.toInt64.toInt32 = u := by simp
/-- words within: a sum is a number -/
theorem ow_in {B pl pp : Nat} {N : Nat → Int32} (h : sp_rg B N) (hB : B ≤ 1000000000) (hl : pl ≤ 12) (hp : pp ≤ 10) {s w : Int32} (hs : -1000000000 ≤ s.toInt ∧ s.toInt ≤ 1000000000) (hw : -1000000000 ≤ w.toInt ∧ w.toInt ≤ 1000000000) (hh : ∀ p, p < 10 → sp_in (N (83 + p)) (-1000000000) 1000000000) (hd : ∀ p, p < 12 → sp_in (N (4 + p)) (-1000000000) 1000000000) : ∀ j, j < 28 → -1000000000 ≤ (ow N pl pp s w j).toInt ∧ (ow N pl pp s w j).toInt ≤ 1000000000 := by
  intro j hj
  have m1 : (-1 : Int32).toInt = -1 := rfl
  unfold ow
  by_cases c0 : j = 0
  · rw [if_pos c0]; have := h.2.1.1; unfold sp_in at this; omega
  · rw [if_neg c0]
    by_cases c1 : j = 1
    · rw [if_pos c1]; have := h.1.1; unfold sp_in at this; omega
    · rw [if_neg c1]
      by_cases c2 : j = 2
      · rw [if_pos c2]; have := h.1.2.1; unfold sp_in at this; omega
      · rw [if_neg c2]
        by_cases c3 : j = 3
        · rw [if_pos c3]; have := h.1.2.2.1; unfold sp_in at this; omega
        · rw [if_neg c3]
          by_cases c4 : j = 4
          · rw [if_pos c4]; exact hs
          · rw [if_neg c4]
            by_cases c5 : j = 5
            · rw [if_pos c5]; exact hw
            · rw [if_neg c5]
              by_cases c16 : j < 16
              · rw [if_pos c16]
                by_cases cp : j - 6 < pp
                · rw [if_pos cp]; exact hh _ (by omega)
                · rw [if_neg cp]; omega
              · rw [if_neg c16]
                by_cases cp : j - 16 < pl
                · rw [if_pos cp]; exact hd _ (by omega)
                · rw [if_neg cp]; omega
