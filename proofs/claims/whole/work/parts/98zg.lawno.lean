/-! law(): the tape, texts that are refused -/
theorem in_nat {x : Int32} {hi : Int} (h : sp_in x 0 hi) : x = nI x.toNatClampNeg ∧ (x.toNatClampNeg : Int) ≤ hi := by
  rcases n_cases x with h1 | ⟨k, hk, rfl⟩
  · have := h.1
    rw [Int32.lt_iff_toInt_lt] at h1
    have e : (0 : Int32).toInt = 0 := rfl
    omega
  · rw [n_cl hk]
    have := h.2
    rw [n_int hk] at this
    exact ⟨rfl, this⟩
/-- the tape as both readers see it -/
theorem tape_of {M : az_M} (h : M.1 5 1 = M.1 40 13 ∧ sp_in (M.1 5 1) 0 400 ∧ ∀ i, i < 400 → M.1 6 i = M.1 49 i ∧ sp_in (M.1 6 i) 0 255) : ∃ T L, L ≤ 400 ∧ (∀ i, T i ≤ 255) ∧ Tc T L M ∧ M.1 40 13 = nI L ∧ ∀ i, i < 400 → M.1 49 i = nI (T i) := by
  obtain ⟨h1, h2, h3⟩ := h
  have a := in_nat h2
  refine ⟨fun i => if i < 400 then (M.1 6 i).toNatClampNeg else 0, (M.1 5 1).toNatClampNeg, by omega, fun i => ?_, ⟨a.1, fun i hi => ?_⟩, by rw [← h1]; exact a.1, fun i hi => ?_⟩
  · show (if i < 400 then (M.1 6 i).toNatClampNeg else 0) ≤ 255
    by_cases hi : i < 400
    · rw [if_pos hi]; have := (in_nat (h3 i hi).2).2; omega
    · rw [if_neg hi]; omega
  · show M.1 6 i = nI (if i < 400 then (M.1 6 i).toNatClampNeg else 0)
    rw [if_pos hi]; exact (in_nat (h3 i hi).2).1
  · show M.1 49 i = nI (if i < 400 then (M.1 6 i).toNatClampNeg else 0)
    rw [if_pos hi, ← (h3 i hi).1]; exact (in_nat (h3 i hi).2).1
theorem az_Inv.lens {m : Nat} {Z : az_S × Nat} {M : az_M} (h : az_Inv m Z M) : Z.1.2 17 = 400 ∧ Z.1.2 18 = 72 ∧ Z.1.2 20 = 11 ∧ Z.1.2 27 = 28 := by
  have g := h.1.1.2
  exact ⟨by rw [(g 17 (by decide)).2]; rfl, by rw [(g 18 (by decide)).2]; rfl, by rw [(g 20 (by decide)).2]; rfl, by rw [(g 27 (by decide)).2]; rfl⟩
/-- what the class's reader gives -/
theorem law_class {m : Nat} {Z : az_S × Nat} {M : az_M} (h : az_Inv m Z M) : ∃ r Mc1, f_X5_read Z sp_G 0 M = some (r, Mc1) ∧ (∀ a, a ≠ 15 → a ≠ 16 → a ≠ 17 → a ≠ 18 → Mc1.1 a = M.1 a) ∧ Mc1.2 = M.2 ∧ ((∃ j, j ≤ 400 ∧ r = nI j) ∨ (r = -1 ∧ ∃ n len, Mc1.1 16 2 = nI n ∧ n ≤ 400 ∧ Mc1.1 16 3 = nI len ∧ 1 ≤ len ∧ len ≤ 12)) := by
  obtain ⟨z1, z2, -, -⟩ := h.lens
  obtain ⟨T, L, hL, h255, hT, t1, t2⟩ := tape_of h.2.2.2.2.1
  obtain ⟨Mc0, Mr0, a1, a2, -, -, -, -, -, hr⟩ := law_read (Z := Z) hL h255 z1 z2 hT (Mr := M) ⟨t1, t2⟩ h.2.2.2.2.2.2.2.2.2.2.2
  rcases hr with ⟨Mc', j, X, Mr', e1, e2, e3, -⟩ | ⟨Mc', X, i, c, n, mm, l, e1, -, -, e4, -, ⟨e6, -, e8, e9⟩, e10, -⟩
  · exact ⟨nI j, Mc', e1, fun a p q r s => by rw [e3.1 a p q r s, a1 a p q], by rw [e3.2.2.2.2.2, a2], Or.inl ⟨j, e2, rfl⟩⟩
  · have := e4.2.2.1
    have := e4.2.2.2.1
    exact ⟨-1, Mc', e1, fun a p q r s => by rw [e10.1 a p q r s, a1 a p q], by rw [e10.2.2.2.2.2, a2], Or.inr ⟨rfl, n, l.length, e4.2.1.2.2.2, by omega, e6, e8, e9⟩⟩
theorem az_rokz.same {Z : az_S × Nat} {M M' : az_M} (h : az_rokz Z M) (e : M'.2 = M.2) : az_rokz Z M' := by unfold az_rokz at h ⊢; rw [e]; exact h
/-- a law too many, a law that can't be read -/
theorem law_no {m : Nat} {Z : az_S × Nat} {M M' : az_M} (h : az_Inv m Z M) {v : Int32} {j j' : Nat} (hj : (j = 3 ∧ j' = 5) ∨ (j = 4 ∧ j' = 6)) (FK : ∀ a, a ≠ 0 → a ≠ 5 → a ≠ 12 → a ≠ 15 → a ≠ 16 → a ≠ 17 → a ≠ 18 → a ≠ 40 → a ≠ 41 → a ≠ 50 → a ≠ 51 → a ≠ 52 → a ≠ 53 → a ≠ 54 → M'.1 a = M.1 a)
    (F40 : ∀ q, q = 8 ∨ q = 11 ∨ q = 55 ∨ q = 58 → M'.1 40 q = M.1 40 q) (F2 : M'.2.2 = M.2.2) (FL : ∀ k, k ≠ 40 → M'.2.1 k = M.2.1 k) (F5 : M'.1 5 1 = 0 ∧ M'.1 40 13 = 0 ∧ M'.1 40 20 = 0) (F0 : M'.1 0 12 = M'.1 40 1 ∧ M'.1 0 13 = M'.1 40 18 ∧ M'.1 0 14 = M.1 0 14 ∧ M'.1 0 15 = M.1 0 15) (F12 : M'.1 12 = up (M.1 12) j (M.1 12 j + 1)) (F41 : M'.1 41 = up (M.1 41) j' (M.1 41 j' + 1)) : az_Inv (m + 1) Z M' := by
  obtain ⟨g1, g2, g3, ⟨ls, g4, g4b⟩, g5, g6, g7, g8, g9, g10, g11⟩ := h.mono
  have fk := fun a (p : a = 2 ∨ a = 3 ∨ a = 6 ∨ a = 7 ∨ a = 8 ∨ a = 9 ∨ a = 28 ∨ a = 29 ∨ a = 34 ∨ a = 42 ∨ a = 43 ∨ a = 44 ∨ a = 45 ∨ a = 46 ∨ a = 49 ∨ a = 70 ∨ 71 ≤ a) => FK a (by omega) (by omega) (by omega) (by omega) (by omega) (by omega) (by omega) (by omega) (by omega) (by omega) (by omega) (by omega) (by omega) (by omega)
  refine az_Inv.step h (by omega) (by rw [fk 2 (by omega), fk 42 (by omega)]; exact g3) (by rw [fk 3 (by omega)]) (by rw [fk 3 (by omega)]) (fun _ _ => by rw [fk 42 (by omega)]) (fun k hk => fk k (by omega)) F2 (Or.inr ⟨fun _ _ => by rw [fk 34 (by omega)], fk 2 (by omega)⟩) ⟨by rw [F5.1, F5.2.1], by rw [F5.1]; unfold sp_in; decide, fun i hi => by rw [fk 6 (by omega), fk 49 (by omega)]; exact g5.2.2 i hi⟩ ⟨F0.1, F0.2.1, ?_, ?_⟩ ?_ ?_ (fk 43 (by omega)) (fk 44 (by omega)) ?_ F5.2.2 (fun k hk => FL k (by omega))
  · rw [F0.2.2.1, F40 11 (by omega)]; exact g6.2.2.1
  · rw [F0.2.2.2, F40 55 (by omega)]; exact g6.2.2.2
  · obtain ⟨a, b, c, d, e⟩ := g7
    rw [F12, F41]
    rcases hj with ⟨rfl, rfl⟩ | ⟨rfl, rfl⟩
    · exact ⟨a, b, c, congrArg (· + 1) d, e⟩
    · exact ⟨a, b, c, d, congrArg (· + 1) e⟩
  · rw [fk 7 (by omega), fk 8 (by omega), fk 9 (by omega), fk 46 (by omega), fk 45 (by omega), F40 8 (by omega)]; exact g8
  · rw [fk 28 (by omega), fk 29 (by omega), fk 70 (by omega), F40 58 (by omega)]; exact g10
