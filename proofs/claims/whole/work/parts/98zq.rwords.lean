/-! RUNNING ORDERS: the reference's words -/
def rw6 (M : az_M) (a b c d e f : Int32) : az_M := az_i (az_l (az_l (az_l (az_l (az_l (az_l M 59 1 a.toInt64) 59 2 b.toInt64) 59 3 c.toInt64) 59 4 d.toInt64) 59 5 e.toInt64) 59 6 f.toInt64) 40 56 0
theorem p_runHead {k : Nat} (hk : k < 12) (M : az_M) : f_X12_run sp_G (nI (8 * k)) M = (if (rw6 M (M.1 42 6) (M.1 42 11) (M.1 42 12) (M.1 42 13) (M.1 40 53) (M.1 40 54)).1 69 (8 * k + 6) ≤ (rw6 M (M.1 42 6) (M.1 42 11) (M.1 42 12) (M.1 42 13) (M.1 40 53) (M.1 40 54)).1 69 (8 * k + 5) then f_X12_run_119 sp_G (nI (8 * k)) (rw6 M (M.1 42 6) (M.1 42 11) (M.1 42 12) (M.1 42 13) (M.1 40 53) (M.1 40 54)) else (f_X12_sumOf sp_G (nI (8 * k + 5)) (rw6 M (M.1 42 6) (M.1 42 11) (M.1 42 12) (M.1 42 13) (M.1 40 53) (M.1 40 54))).bind fun q12 => (if (q12.2.1 40 56) = 0 then (if q12.1 = 0 then f_X12_run_117 sp_G q12.2 else f_X12_run_119 sp_G (nI (8 * k)) q12.2) else f_X12_run_117 sp_G q12.2)) := by
  unfold f_X12_run
  rw [show f_X12_term 0 M = some (M.1 42 6) from p_term (k := 0) (by decide) M, Option.bind_some, show f_X12_bulletOf 0 (az_l M 59 1 (M.1 42 6).toInt64) = some (M.1 42 11) from p_bulletOf (k := 0) (by decide) _, Option.bind_some, show f_X12_bulletOf 1 (az_l (az_l M 59 1 (M.1 42 6).toInt64) 59 2 (M.1 42 11).toInt64) = some (M.1 42 12) from p_bulletOf (k := 1) (by decide) _, Option.bind_some, show f_X12_bulletOf 2 (az_l (az_l (az_l M 59 1 (M.1 42 6).toInt64) 59 2 (M.1 42 11).toInt64) 59 3 (M.1 42 12).toInt64) = some (M.1 42 13) from p_bulletOf (k := 2) (by decide) _, Option.bind_some, show nI (8 * k) + 5 = nI (8 * k + 5) from n_addr 5 _, show nI (8 * k) + 6 = nI (8 * k + 6) from n_addr 6 _, if_neg (nI_in (by omega) (by decide)), if_neg (nI_in (by omega) (by decide)), n_cl (by omega), n_cl (by omega)]
  rfl
theorem rw6_59 (M : az_M) (a b c d e f : Int32) : (rw6 M a b c d e f).2.1 59 1 = a.toInt64 ∧ (rw6 M a b c d e f).2.1 59 2 = b.toInt64 ∧ (rw6 M a b c d e f).2.1 59 3 = c.toInt64 ∧ (rw6 M a b c d e f).2.1 59 4 = d.toInt64 ∧ (rw6 M a b c d e f).2.1 59 5 = e.toInt64 ∧ (rw6 M a b c d e f).2.1 59 6 = f.toInt64 := ⟨rfl, rfl, rfl, rfl, rfl, rfl⟩
theorem o_env {N : Nat → Int32} {M : az_M} {pl pp : Nat} {s w : Int32} (pr : sp_pr N (M.1 42)) (h23 : N 23 = nI pl) (h24 : N 24 = nI pp) (hl : pl ≤ 12) (hp : pp ≤ 10) (h59 : M.2.1 59 1 = (N 16).toInt64 ∧ M.2.1 59 2 = (N 0).toInt64 ∧ M.2.1 59 3 = (N 1).toInt64 ∧ M.2.1 59 4 = (N 2).toInt64 ∧ M.2.1 59 5 = s.toInt64 ∧ M.2.1 59 6 = w.toInt64) : rEnv 1 (ow N pl pp s w) M := by
  refine Or.inr ⟨rfl, fun j hj => ?_, ⟨pp, by rw [← h24]; exact pr.2.2.2.1.2.1.symm, hp, fun p hp' => ?_⟩, pl, by rw [← h23]; exact pr.2.2.2.1.1.symm, hl, fun p hp' => ?_⟩
  · rcases (show j = 0 ∨ j = 1 ∨ j = 2 ∨ j = 3 ∨ j = 4 ∨ j = 5 by omega) with rfl | rfl | rfl | rfl | rfl | rfl
    · exact h59.1
    · exact h59.2.1
    · exact h59.2.2.1
    · exact h59.2.2.2.1
    · exact h59.2.2.2.2.1
    · exact h59.2.2.2.2.2
  · unfold ow
    rw [if_neg (show ¬ 6 + p = 0 by omega), if_neg (show ¬ 6 + p = 1 by omega), if_neg (show ¬ 6 + p = 2 by omega), if_neg (show ¬ 6 + p = 3 by omega), if_neg (show ¬ 6 + p = 4 by omega), if_neg (show ¬ 6 + p = 5 by omega), if_pos (show 6 + p < 16 by omega), Nat.add_sub_cancel_left, (pr.2.2.2.2.2.1 p hp').2.2]
  · unfold ow
    rw [if_neg (show ¬ 16 + p = 0 by omega), if_neg (show ¬ 16 + p = 1 by omega), if_neg (show ¬ 16 + p = 2 by omega), if_neg (show ¬ 16 + p = 3 by omega), if_neg (show ¬ 16 + p = 4 by omega), if_neg (show ¬ 16 + p = 5 by omega), if_neg (show ¬ 16 + p < 16 by omega), Nat.add_sub_cancel_left, (pr.2.2.2.2.1 p hp').2.2.2]
