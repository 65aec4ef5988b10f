/-- both readers read orders -/
theorem ord_read {T : Nat → Nat} {L : Nat} {Z : az_S × Nat} (hL : L ≤ 400) (h255 : ∀ i, T i ≤ 255) (hZ : Z.1.2 17 = 400) (hZ8 : Z.1.2 18 = 72) {M Mr : az_M} (hT : Tc T L M) (hTr : Tr T L Mr) (hW : RWk Mr) : ∃ Mc0 Mr0, (∀ a, a ≠ 15 → a ≠ 16 → Mc0.1 a = M.1 a) ∧ Mc0.2 = M.2 ∧ (∀ a, a ≠ 40 → Mr0.1 a = Mr.1 a) ∧ (∀ j, j ≠ 14 → j ≠ 15 → j ≠ 16 → j ≠ 18 → j ≠ 19 → j ≠ 20 → j ≠ 21 → j ≠ 23 → j ≠ 26 → Mr0.1 40 j = Mr.1 40 j) ∧ (∀ a, a ≠ 40 → Mr0.2.1 a = Mr.2.1 a) ∧ Mr0.2.2 = Mr.2.2 ∧ Mr0.1 40 18 = -1 ∧ RD T L 1 69 (fun C D k n x => ordOk x ∧ ordC C D k n x) ordR (f_X12_orders_46 sp_G) Mc0 Mr0 (f_X5_read Z sp_G 1 M) ((f_X12_beginText sp_G 1 Mr).bind fun q1 => (f_X12_readOrder sp_G q1).bind fun q3 => f_X12_orders_19 sp_G sp_G q3) := by
  obtain ⟨Mc, a1, a2, a3, a4, a5⟩ := c_start (o := 1) hL h255 hT
  obtain ⟨Mr0, b1, b2, b3, b4, b5, b6, b7⟩ := r_start (o := 1) hL h255 (by decide) hTr hW
  refine ⟨Mc, Mr0, a3, a5, b4, b5, b6, b7, b3.2, ?_⟩
  unfold f_X5_read
  rw [if_pos (Or.inr rfl), show f_X5_nextToken sp_G (az_i (az_i (az_i (az_i (az_i (az_i M 15 2 1) 16 2 0) 16 3 0) 15 5 0) 15 7 0) 15 8 0) = some Mc from a1, Option.bind_some, show f_X12_beginText sp_G 1 Mr = some Mr0 from b1, Option.bind_some]
  exact j_read (Z := Z) (clC := f_X5_readOrder Z sp_G) (readR := f_X12_readOrder sp_G) (loopR := fun F M => f_X12_orders_19 sp_G F M) hL h255 (Or.inr rfl)
    (fun C D C' D' k n n' x h hn h1 h2 => ⟨h.1, h.2.cong hn h1 h2⟩) (fun Op Ar D Op' Ar' D' k n n' x h hn h1 h2 => h.cong hn h1 h2)
    (fun i c n m k Mc Mr hk h1 h2 h3 => j_ordC hL h255 hZ hZ8 hk h1 h2 h3)
    (fun i c m Mr h1 h2 => by
      refine ⟨badM Mr i, ?_, badM_bad.1, badM_bad.2.1, badM_bad.2.2.q 69⟩
      rw [r_ordHead h1]
      unfold f_X12_readOrder_43
      rw [if_pos (show (12 : Int32) ≤ Mr.1 40 21 by rw [h2]; decide), ite_self]
      unfold f_X12_readOrder_63 f_X12_readOrder_64
      rw [h1.mustBad, Option.bind_some, if_neg bad19])
    (fun F M => by
      show f_X12_orders_19 sp_G (F + 1) M = _
      rw [f_X12_orders_19])
    (fun F k M h1 h2 => by
      rw [f_X5_read_42, if_neg (by rw [show (12 : Int32) = nI 12 from rfl, n_le (by omega) (by omega)]; omega), if_neg (by rw [h1]; decide)])
    Mc Mr0 12 0 sp_G sp_G Mc Mr0 (tsk T L L 0) 0 0 0 [] (by decide) (by decide) (by decide) rfl a2 b2 b3.1 (cQ.refl 0 0 Mc) (rQ.refl 69 0 0 Mr0) (fun c x h => (by cases h))
