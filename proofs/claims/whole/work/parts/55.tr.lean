/-- where the reference keeps what the class keeps in a slot -/
def sp_tr (j : Nat) : Nat :=
  if j < 4 then 11 + j else if j < 16 then 20 + 4 * (j - 4) else if j < 21 then 6 + (j - 16) else if j < 23 then 15 + (j - 21) else if j < 27 then j - 23
  else if j < 39 then 17 + 4 * (j - 27) else if j < 51 then 18 + 4 * (j - 39) else if j < 63 then 19 + 4 * (j - 51)
  else if j < 73 then 65 + 3 * (j - 63) else if j < 83 then 66 + 3 * (j - 73) else if j < 93 then 67 + 3 * (j - 83)
  else if j < 100 then 95 + 4 * (j - 93) else if j < 107 then 96 + 4 * (j - 100) else if j < 114 then 97 + 4 * (j - 107) else if j < 121 then 98 + 4 * (j - 114) else 123 + (j - 121)
/-- a slot that counts: of quarrels only those that are there -/
def sp_live (n : Nat) (j : Nat) : Prop := j < 93 ∨ (93 ≤ j ∧ j < 100 ∧ j - 93 < n) ∨ (100 ≤ j ∧ j < 107 ∧ j - 100 < n) ∨ (107 ≤ j ∧ j < 114 ∧ j - 107 < n) ∨ (114 ≤ j ∧ j < 121 ∧ j - 114 < n) ∨ 121 ≤ j
theorem sp_tr_inj : ∀ i, i < 145 → ∀ j, j < 145 → i ≠ j → sp_tr i ≠ sp_tr j := by decide +kernel
theorem sp_tr_lt : ∀ i, i < 145 → sp_tr i < 147 ∧ sp_tr i ≠ 4 ∧ sp_tr i ≠ 5 := by decide +kernel
theorem tr_4 {p : Nat} (h : p < 12) : sp_tr (4 + p) = 20 + 4 * p := by
  have : ∀ p, p < 12 → sp_tr (4 + p) = 20 + 4 * p := by decide +kernel
  exact this p h
theorem tr_16 {p : Nat} (h : p < 5) : sp_tr (16 + p) = 6 + p := by
  have : ∀ p, p < 5 → sp_tr (16 + p) = 6 + p := by decide +kernel
  exact this p h
theorem tr_27 {p : Nat} (h : p < 12) : sp_tr (27 + p) = 17 + 4 * p := by
  have : ∀ p, p < 12 → sp_tr (27 + p) = 17 + 4 * p := by decide +kernel
  exact this p h
theorem tr_39 {p : Nat} (h : p < 12) : sp_tr (39 + p) = 18 + 4 * p := by
  have : ∀ p, p < 12 → sp_tr (39 + p) = 18 + 4 * p := by decide +kernel
  exact this p h
theorem tr_51 {p : Nat} (h : p < 12) : sp_tr (51 + p) = 19 + 4 * p := by
  have : ∀ p, p < 12 → sp_tr (51 + p) = 19 + 4 * p := by decide +kernel
  exact this p h
theorem tr_63 {p : Nat} (h : p < 10) : sp_tr (63 + p) = 65 + 3 * p := by
  have : ∀ p, p < 10 → sp_tr (63 + p) = 65 + 3 * p := by decide +kernel
  exact this p h
theorem tr_73 {p : Nat} (h : p < 10) : sp_tr (73 + p) = 66 + 3 * p := by
  have : ∀ p, p < 10 → sp_tr (73 + p) = 66 + 3 * p := by decide +kernel
  exact this p h
theorem tr_83 {p : Nat} (h : p < 10) : sp_tr (83 + p) = 67 + 3 * p := by
  have : ∀ p, p < 10 → sp_tr (83 + p) = 67 + 3 * p := by decide +kernel
  exact this p h
theorem tr_93 {p : Nat} (h : p < 7) : sp_tr (93 + p) = 95 + 4 * p := by
  have : ∀ p, p < 7 → sp_tr (93 + p) = 95 + 4 * p := by decide +kernel
  exact this p h
theorem tr_100 {p : Nat} (h : p < 7) : sp_tr (100 + p) = 96 + 4 * p := by
  have : ∀ p, p < 7 → sp_tr (100 + p) = 96 + 4 * p := by decide +kernel
  exact this p h
theorem tr_107 {p : Nat} (h : p < 7) : sp_tr (107 + p) = 97 + 4 * p := by
  have : ∀ p, p < 7 → sp_tr (107 + p) = 97 + 4 * p := by decide +kernel
  exact this p h
theorem tr_114 {p : Nat} (h : p < 7) : sp_tr (114 + p) = 98 + 4 * p := by
  have : ∀ p, p < 7 → sp_tr (114 + p) = 98 + 4 * p := by decide +kernel
  exact this p h
theorem tr_121 {p : Nat} (h : p < 24) : sp_tr (121 + p) = 123 + p := by
  have : ∀ p, p < 24 → sp_tr (121 + p) = 123 + p := by decide +kernel
  exact this p h
theorem sp_pr.mk {N R : Nat → Int32} (hq : (N 25).toNatClampNeg ≤ 7) (h : ∀ j, j < 145 → sp_live (N 25).toNatClampNeg j → N j = R (sp_tr j)) : sp_pr N R := by
  have L : ∀ j, j < 93 ∨ 121 ≤ j → sp_live (N 25).toNatClampNeg j := fun j hj => by unfold sp_live; omega
  refine ⟨⟨h 0 (by decide) (L _ (by decide)), h 1 (by decide) (L _ (by decide)), h 2 (by decide) (L _ (by decide)), h 3 (by decide) (L _ (by decide))⟩, fun t ht => ?_, ⟨h 21 (by decide) (L _ (by decide)), h 22 (by decide) (L _ (by decide))⟩, ⟨h 23 (by decide) (L _ (by decide)), h 24 (by decide) (L _ (by decide)), h 25 (by decide) (L _ (by decide)), h 26 (by decide) (L _ (by decide))⟩, fun p hp => ⟨?_, ?_, ?_, ?_⟩, fun p hp => ⟨?_, ?_, ?_⟩, fun q hqq => ⟨?_, ?_, ?_, ?_⟩, fun i hi => ?_⟩
  · rw [← tr_16 ht]; exact h _ (by omega) (L _ (by omega))
  · rw [← tr_27 hp]; exact h _ (by omega) (L _ (by omega))
  · rw [← tr_39 hp]; exact h _ (by omega) (L _ (by omega))
  · rw [← tr_51 hp]; exact h _ (by omega) (L _ (by omega))
  · rw [← tr_4 hp]; exact h _ (by omega) (L _ (by omega))
  · rw [← tr_63 hp]; exact h _ (by omega) (L _ (by omega))
  · rw [← tr_73 hp]; exact h _ (by omega) (L _ (by omega))
  · rw [← tr_83 hp]; exact h _ (by omega) (L _ (by omega))
  · rw [← tr_93 (by omega)]; exact h _ (by omega) (by unfold sp_live; omega)
  · rw [← tr_100 (by omega)]; exact h _ (by omega) (by unfold sp_live; omega)
  · rw [← tr_107 (by omega)]; exact h _ (by omega) (by unfold sp_live; omega)
  · rw [← tr_114 (by omega)]; exact h _ (by omega) (by unfold sp_live; omega)
  · rw [← tr_121 hi]; exact h _ (by omega) (L _ (by omega))
theorem sp_pr.at {N R : Nat → Int32} (h : sp_pr N R) (hq : (N 25).toNatClampNeg ≤ 7) {j : Nat} (hj : j < 145) (hl : sp_live (N 25).toNatClampNeg j) : N j = R (sp_tr j) := by
  obtain ⟨⟨a0, a1, a2, a3⟩, b, ⟨c1, c2⟩, ⟨d0, d1, d2, d3⟩, e, f, g, i⟩ := h
  unfold sp_live at hl
  by_cases h1 : j < 4
  · rcases (show j = 0 ∨ j = 1 ∨ j = 2 ∨ j = 3 by omega) with rfl | rfl | rfl | rfl <;> assumption
  by_cases h2 : j < 16
  · obtain ⟨p, rfl⟩ : ∃ p, j = 4 + p := ⟨j - 4, by omega⟩
    rw [tr_4 (by omega)]; exact (e p (by omega)).2.2.2
  by_cases h3 : j < 21
  · obtain ⟨p, rfl⟩ : ∃ p, j = 16 + p := ⟨j - 16, by omega⟩
    rw [tr_16 (by omega)]; exact b p (by omega)
  by_cases h4 : j < 27
  · rcases (show j = 21 ∨ j = 22 ∨ j = 23 ∨ j = 24 ∨ j = 25 ∨ j = 26 by omega) with rfl | rfl | rfl | rfl | rfl | rfl <;> assumption
  by_cases h5 : j < 39
  · obtain ⟨p, rfl⟩ : ∃ p, j = 27 + p := ⟨j - 27, by omega⟩
    rw [tr_27 (by omega)]; exact (e p (by omega)).1
  by_cases h6 : j < 51
  · obtain ⟨p, rfl⟩ : ∃ p, j = 39 + p := ⟨j - 39, by omega⟩
    rw [tr_39 (by omega)]; exact (e p (by omega)).2.1
  by_cases h7 : j < 63
  · obtain ⟨p, rfl⟩ : ∃ p, j = 51 + p := ⟨j - 51, by omega⟩
    rw [tr_51 (by omega)]; exact (e p (by omega)).2.2.1
  by_cases h8 : j < 73
  · obtain ⟨p, rfl⟩ : ∃ p, j = 63 + p := ⟨j - 63, by omega⟩
    rw [tr_63 (by omega)]; exact (f p (by omega)).1
  by_cases h9 : j < 83
  · obtain ⟨p, rfl⟩ : ∃ p, j = 73 + p := ⟨j - 73, by omega⟩
    rw [tr_73 (by omega)]; exact (f p (by omega)).2.1
  by_cases h10 : j < 93
  · obtain ⟨p, rfl⟩ : ∃ p, j = 83 + p := ⟨j - 83, by omega⟩
    rw [tr_83 (by omega)]; exact (f p (by omega)).2.2
  by_cases h11 : j < 100
  · obtain ⟨p, rfl⟩ : ∃ p, j = 93 + p := ⟨j - 93, by omega⟩
    rw [tr_93 (by omega)]; exact (g p (by omega)).1
  by_cases h12 : j < 107
  · obtain ⟨p, rfl⟩ : ∃ p, j = 100 + p := ⟨j - 100, by omega⟩
    rw [tr_100 (by omega)]; exact (g p (by omega)).2.1
  by_cases h13 : j < 114
  · obtain ⟨p, rfl⟩ : ∃ p, j = 107 + p := ⟨j - 107, by omega⟩
    rw [tr_107 (by omega)]; exact (g p (by omega)).2.2.1
  by_cases h14 : j < 121
  · obtain ⟨p, rfl⟩ : ∃ p, j = 114 + p := ⟨j - 114, by omega⟩
    rw [tr_114 (by omega)]; exact (g p (by omega)).2.2.2
  obtain ⟨p, rfl⟩ : ∃ p, j = 121 + p := ⟨j - 121, by omega⟩
  rw [tr_121 (by omega)]; exact i p (by omega)
/-- the same number new on both sides -/
theorem sp_pr.upd {N R : Nat → Int32} (h : sp_pr N R) (hq : (N 25).toNatClampNeg ≤ 7) {a b : Nat} (ha : a < 145) (hb : b = sp_tr a) (h25 : a ≠ 25) (v : Int32) : sp_pr (up N a v) (up R b v) := by
  subst hb
  have e : up N a v 25 = N 25 := up_ne (fun e => h25 e.symm)
  refine sp_pr.mk (by rw [e]; exact hq) (fun j hj hl => ?_)
  rw [e] at hl
  by_cases hja : j = a
  · subst hja; rw [up_eq, up_eq]
  · rw [up_ne hja, up_ne (sp_tr_inj j hj a ha hja)]; exact h.at hq hj hl
/-- what a slot may hold -/
def sp_hi (B : Nat) (j : Nat) : Int :=
  if j < 1 then 999 else if j < 3 then 99 else if j < 4 then 1 else if j < 16 then B else if j < 17 then 999 else if j < 18 then 4 else if j < 19 then 99 else if j < 21 then 9 else if j < 23 then B
  else if j < 24 then 12 else if j < 25 then 10 else if j < 26 then 7 else if j < 27 then 24 else if j < 39 then 3 else if j < 51 then 99 else if j < 63 then 20 else if j < 73 then 10 else if j < 83 then 1 else 1006
def sp_lo (j : Nat) : Int := if j = 17 ∨ j = 18 ∨ j = 19 then 1 else 0
theorem sp_rg.upd {B : Nat} {N : Nat → Int32} (h : sp_rg B N) {a : Nat} (ha : a ≠ 23 ∧ a ≠ 24 ∧ a ≠ 25 ∧ (a < 93 ∨ 121 ≤ a)) {v : Int32} (hv : a < 93 → sp_in v (sp_lo a) (sp_hi B a)) : sp_rg B (up N a v) := by
  obtain ⟨⟨a0, a1, a2, a3⟩, ⟨b0, b1, b2, b3, b4⟩, ⟨c1, c2⟩, ⟨d0, d1, d2, d3⟩, e, f, g⟩ := h
  have key : ∀ j lo hi, j < 93 → sp_lo j = lo → sp_hi B j = hi → sp_in (N j) lo hi → sp_in (up N a v j) lo hi := by
    intro j lo hi hj h1 h2 h3
    by_cases hja : j = a
    · subst hja; rw [up_eq]; subst h1; subst h2; exact hv hj
    · rw [up_ne hja]; exact h3
  have e23 : up N a v 23 = N 23 := up_ne (by omega)
  have e24 : up N a v 24 = N 24 := up_ne (by omega)
  have e25 : up N a v 25 = N 25 := up_ne (by omega)
  refine ⟨⟨key 0 _ _ (by decide) rfl rfl a0, key 1 _ _ (by decide) rfl rfl a1, key 2 _ _ (by decide) rfl rfl a2, key 3 _ _ (by decide) rfl rfl a3⟩, ⟨key 16 _ _ (by decide) rfl rfl b0, key 17 _ _ (by decide) rfl rfl b1, key 18 _ _ (by decide) rfl rfl b2, key 19 _ _ (by decide) rfl rfl b3, key 20 _ _ (by decide) rfl rfl b4⟩, ⟨key 21 _ _ (by decide) rfl rfl c1, key 22 _ _ (by decide) rfl rfl c2⟩, ⟨by rw [e23]; exact d0, by rw [e24]; exact d1, by rw [e25]; exact d2, key 26 _ _ (by decide) rfl rfl d3⟩, fun p hp => ?_, fun p hp => ?_, fun q hq => ?_⟩
  · obtain ⟨w1, w2, w3, w4⟩ := e p hp
    refine ⟨key _ _ _ (by omega) ?_ ?_ w1, key _ _ _ (by omega) ?_ ?_ w2, key _ _ _ (by omega) ?_ ?_ w3, key _ _ _ (by omega) ?_ ?_ w4⟩
    all_goals first | (unfold sp_lo; rw [if_neg (by omega)]) | (unfold sp_hi; simp (disch := omega) only [if_true, if_false, or_false, false_or, or_true, true_or, and_true, true_and, and_false, false_and, not_true_eq_false, not_false_eq_true, Option.bind_some, Option.bind_none, reduceIte, ltT, ltF, leT, leF, eqT, eqF])
  · obtain ⟨w1, w2, w3⟩ := f p hp
    refine ⟨key _ _ _ (by omega) ?_ ?_ w1, key _ _ _ (by omega) ?_ ?_ w2, key _ _ _ (by omega) ?_ ?_ w3⟩
    all_goals first | (unfold sp_lo; rw [if_neg (by omega)]) | (unfold sp_hi; simp (disch := omega) only [if_true, if_false, or_false, false_or, or_true, true_or, and_true, true_and, and_false, false_and, not_true_eq_false, not_false_eq_true, Option.bind_some, Option.bind_none, reduceIte, ltT, ltF, leT, leF, eqT, eqF])
  · rw [e25] at hq
    have hq7 : q < 7 := by
      have := d2.2
      have h1 : (N 25).toNatClampNeg = (N 25).toInt.toNat := rfl
      omega
    rw [e23, e24, up_ne (by omega), up_ne (by omega), up_ne (by omega), up_ne (by omega)]
    exact g q hq
