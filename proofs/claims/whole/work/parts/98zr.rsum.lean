/-! RUNNING ORDERS: the reference reckons a sum -/
/-- what reckoning an order's sum may change in the reference -/
def sp_rs (M M' : az_M) : Prop := (∀ k, k ≠ 40 → M'.1 k = M.1 k) ∧ (∀ j, j ≠ 20 → j ≠ 38 → j ≠ 56 → M'.1 40 j = M.1 40 j) ∧ M'.1 40 20 = M.1 40 20 ∧ (∀ k, k ≠ 40 → k ≠ 60 → M'.2.1 k = M.2.1 k) ∧ (∀ j, j ≠ 39 → M'.2.1 40 j = M.2.1 40 j) ∧ M'.2.2 = M.2.2
theorem sp_rs.refl (M : az_M) : sp_rs M M := ⟨fun _ _ => rfl, fun _ _ _ _ => rfl, rfl, fun _ _ _ => rfl, fun _ _ => rfl, rfl⟩
theorem sp_rs.trans {M M' M'' : az_M} (h : sp_rs M M') (g : sp_rs M' M'') : sp_rs M M'' := ⟨fun k a => (g.1 k a).trans (h.1 k a), fun j a b c => (g.2.1 j a b c).trans (h.2.1 j a b c), g.2.2.1.trans h.2.2.1, fun k a b => (g.2.2.2.1 k a b).trans (h.2.2.2.1 k a b), fun j a => (g.2.2.2.2.1 j a).trans (h.2.2.2.2.1 j a), g.2.2.2.2.2.trans h.2.2.2.2.2⟩
theorem r_sumOf {p a b kk : Nat} {Op Ar : Nat → Int32} {φ : sp_E → Option Int32} (hp : p + 1 < 96) (h : rSeg 1 Op Ar a b kk φ) (hk : kk ≤ 50) (hb : b ≤ 400) {M : az_M} {e : sp_E} (h20 : M.1 40 20 = 0) (h56 : M.1 40 56 = 0) (d1 : M.1 69 p = nI a) (d2 : M.1 69 (p + 1) = nI b) (hc : ∀ j, a ≤ j → j < b → M.1 51 j = Op j ∧ M.1 52 j = Ar j) (he : rEnv 1 e M) : ∃ v M', f_X12_sumOf sp_G (nI p) M = some (v, M') ∧ (φ e = none → M'.1 40 56 = 1) ∧ (∀ u, φ e = some u → M'.1 40 56 = 0 ∧ v = u.toInt64) ∧ sp_rs M M' := by
  have hab := h.1
  have e1 : ∀ a', a' ≠ 40 → (az_i M 40 20 1).1 a' = M.1 a' := fun a' p => gi_k p
  obtain ⟨Q, a1, a2, a3, a4, a5, a6, a7, a8⟩ := r_mean h hk hb (M := az_i M 40 20 1) (e := e) (by rw [gi, if_pos rfl, if_pos rfl]; rfl) (fun j x y => Or.inr ⟨rfl, by rw [e1 51 (by decide)]; exact (hc j x y).1, by rw [e1 52 (by decide)]; exact (hc j x y).2⟩) (by unfold rEnv; rw [e1 42 (by decide)]; exact he)
  have q38 : (az_i Q 40 20 0).1 40 38 = Q.1 40 38 := by rw [gi, if_pos rfl, if_neg (by decide)]
  have fr : sp_rs M (az_i (az_i Q 40 20 0) 40 56 (Q.1 40 38)) := by
    refine ⟨fun k hk' => by rw [gi_k hk', gi_k hk', a4 k hk', e1 k hk'], fun j p1 p2 p3 => ?_, ?_, fun k p1 p2 => a6 k p1 p2, fun j hj => a7 j hj, a8⟩
    · rw [gi, if_pos rfl, if_neg p3, gi, if_pos rfl, if_neg p1, a5 j p2, gi, if_pos rfl, if_neg p1]
    · rw [gi, if_pos rfl, if_neg (by decide), gi, if_pos rfl, if_pos rfl, h20]
  have h01 : Q.1 40 38 = 0 ∨ Q.1 40 38 = 1 := by
    cases hφ : φ e with
    | none => exact Or.inr (a2 hφ)
    | some u => exact Or.inl (a3 u hφ).1
  refine ⟨Q.2.1 40 39, az_i (az_i Q 40 20 0) 40 56 (Q.1 40 38), ?_, fun hn => by rw [gi, if_pos rfl, if_pos rfl]; exact a2 hn, fun u hu => ⟨by rw [gi, if_pos rfl, if_pos rfl]; exact (a3 u hu).1, (a3 u hu).2⟩, fr⟩
  unfold f_X12_sumOf
  rw [if_pos h56, show nI p + 1 = nI (p + 1) from (nI_succ p).symm, if_neg (nI_in (by omega) (by decide)), if_neg (nI_in (by omega) (by decide)), n_cl (by omega), n_cl (by omega), d1, d2, if_neg (by rw [n_eq (by omega) (by omega)]; omega), if_neg (nIn (by omega) (by omega)), if_neg (nIn (by omega) (by omega)), e1 69 (by decide), d1, d2, a1, Option.bind_some, q38, if_pos h01]
  rfl
