/-! the start -/
set_option maxRecDepth 100000 in
set_option maxHeartbeats 2000000 in
theorem inv0 : az_Inv 0 az_Z0 az_M0 := by
  have r2 : ∀ j, j < 145 → az_M0.1 2 j = az_M0.1 42 (sp_tr j) := by decide +kernel
  have n25 : az_M0.1 2 25 = 0 := rfl
  refine ⟨⟨⟨Nat.le_refl _, fun k _ => ⟨rfl, rfl⟩⟩, ⟨fun i _ => rfl, fun k u _ h => (nomatch h)⟩⟩, ⟨?_, fun k _ _ j t h => (nomatch h)⟩, ⟨sp_pr.mk (by rw [n25]; decide) (fun j hj _ => r2 j hj), ?_⟩, ⟨fun _ => [], ⟨0, by omega, rfl, rfl, rfl, Or.inl rfl, fun i hi => absurd hi (by omega)⟩, Or.inl rfl⟩, ⟨rfl, ⟨by decide, by decide⟩, ?_⟩, ⟨rfl, rfl, rfl, rfl⟩, ⟨rfl, rfl, rfl, rfl, rfl⟩, ⟨0, 0, by omega, by omega, rfl, rfl, rfl, fun k hk => absurd hk (by omega)⟩, ⟨Or.inl ⟨rfl, rfl, rfl⟩, Or.inl ⟨rfl, rfl, rfl⟩, fun t h => (nomatch h), fun t h => (nomatch h)⟩, ⟨rfl, Or.inl rfl⟩, ⟨rfl, fun _ _ => rfl, fun _ _ => rfl, fun _ _ => rfl⟩⟩
  · have tb : ∀ k, k < 71 → az_kd.getD k 0 < 13 → ∀ j, j < 60 → az_fk (az_y (az_kd.getD k 0) j) = 2 → az_rt (az_kd.getD k 0) k j < 71 := by decide +kernel
    have h3 : ∀ k, k < 71 → az_kd.getD k 0 < 13 → k + 3 < 71 := by decide +kernel
    intro k hk hc j h
    by_cases hj : j < 60
    · exact tb k hk hc j hj h
    · obtain ⟨i, rfl⟩ : ∃ i, j = i + 60 := ⟨j - 60, by omega⟩
      have hk3 := h3 k hk hc
      have K : ∀ c, c < 13 → az_fk (az_y c (i + 60)) = 2 → az_rt c k (i + 60) < 71 := by
        intro c hc h
        match c, hc, h with
        | 0, _, _ => show k + 1 < 71; omega
        | 1, _, _ => show 27 < 71; omega
        | 2, _, _ => show 33 < 71; omega
        | 3, _, h => exact absurd h (by show ¬ (0 = 2); omega)
        | 4, _, _ => show k + 1 < 71; omega
        | 5, _, _ => show 5 < 71; omega
        | 6, _, _ => show k + 1 < 71; omega
        | 7, _, _ => show 39 < 71; omega
        | 8, _, _ => show 20 < 71; omega
        | 9, _, _ => show k + 1 < 71; omega
        | 10, _, h => exact absurd h (by show ¬ (0 = 2); omega)
        | 11, _, _ => show 12 < 71; omega
        | 12, _, _ => show 70 < 71; omega
        | n + 13, hc, _ => exact absurd hc (by omega)
      exact K _ hc h
  · unfold sp_rg sp_in sp_B
    refine ⟨by decide +kernel, by decide +kernel, by decide +kernel, by decide +kernel, by decide +kernel, by decide +kernel, fun q hq => absurd hq (by rw [n25]; exact Nat.not_lt_zero q)⟩
  · intro i _
    refine ⟨rfl, ?_⟩
    show sp_in (0 : Int32) 0 255
    exact ⟨by decide, by decide⟩
