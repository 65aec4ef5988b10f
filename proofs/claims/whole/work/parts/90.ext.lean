/-! more cells behind a world: what is said of those below stays -/
theorem p_reckonZ {Z Z' : az_S × Nat} {a0 a3 : Nat} (h1 : Z'.1.2 (a0 + 1) = Z.1.2 (a0 + 1)) (h3 : Z'.1.2 a3 = Z.1.2 a3) : f_X6_reckon Z' sp_G a0 a3 = f_X6_reckon Z sp_G a0 a3 := by
  have K : ∀ F, f_X6_reckon_19 Z' sp_G a0 a3 F = f_X6_reckon_19 Z sp_G a0 a3 F := by
    intro F
    induction F with
    | zero => rfl
    | succ F ih =>
      funext x3 x6 x7 M
      rw [f_X6_reckon_19, f_X6_reckon_19]
      simp only [f_X6_reckon_82, f_X6_reckon_302, f_X6_reckon_106, f_X6_reckon_85, f_X6_reckon_229, f_X6_reckon_203, f_X6_reckon_195, f_X6_reckon_183, f_X6_reckon_166, f_X6_reckon_287, f_X6_reckon_325, f_X6_reckon_308, h1, h3, ih]
  funext p1 p2 M
  unfold f_X6_reckon
  rw [K]
/-- a world that holds another -/
def zle (Z Z' : az_S × Nat) : Prop := Z.2 ≤ Z'.2 ∧ ∀ k, k < Z.2 → Z'.1.1 k = Z.1.1 k ∧ Z'.1.2 k = Z.1.2 k
theorem zle_zx (Z : az_S × Nat) (ks : List (Nat × Nat)) : zle Z (az_zx Z ks) := ⟨Nat.le_add_right _ _, fun k hk => ⟨if_pos hk, if_pos hk⟩⟩
theorem zle.tok {Z Z' : az_S × Nat} (h : zle Z Z') {t : Nat} (ht : az_tok Z t = true) : az_tok Z' t = true ∧ t + 2 < Z.2 := by
  unfold az_tok at ht ⊢
  simp only [Bool.and_eq_true, decide_eq_true_eq] at ht ⊢
  obtain ⟨⟨⟨h1, h2⟩, h3⟩, h4⟩ := ht
  have h0 := h.1
  refine ⟨⟨⟨⟨by omega, ?_⟩, ?_⟩, ?_⟩, h1⟩
  · rw [(h.2 t (by omega)).1]; exact h2
  · rw [(h.2 (t + 1) (by omega)).1]; exact h3
  · rw [(h.2 (t + 2) (by omega)).1]; exact h4
theorem zle.toko {Z Z' : az_S × Nat} (h : zle Z Z') {e : Option Nat} (ht : az_toko Z e = true) : az_toko Z' e = true := by
  cases e with
  | none => rfl
  | some t => exact (h.tok ht).1
theorem zle.pok {Z Z' : az_S × Nat} (h : zle Z Z') {t : Nat} (ht : az_pok Z t = true) : az_pok Z' t = true ∧ t + 1 < Z.2 := by
  unfold az_pok at ht ⊢
  simp only [Bool.and_eq_true, decide_eq_true_eq] at ht ⊢
  obtain ⟨⟨⟨h1, h2⟩, h3⟩, h4⟩ := ht
  have h0 := h.1
  refine ⟨⟨⟨⟨by omega, ?_⟩, ?_⟩, ?_⟩, h1⟩
  · rw [(h.2 t (by omega)).1]; exact h2
  · rw [(h.2 (t + 1) (by omega)).1]; exact h3
  · rw [(h.2 (t + 1) (by omega)).2]; exact h4
theorem zle.bok {Z Z' : az_S × Nat} (h : zle Z Z') {t : Nat} (ht : az_bok Z t = true) : az_bok Z' t = true ∧ t + 1 < Z.2 := by
  unfold az_bok at ht ⊢
  simp only [Bool.and_eq_true, decide_eq_true_eq] at ht ⊢
  obtain ⟨⟨⟨h1, h2⟩, h3⟩, h4⟩ := ht
  have h0 := h.1
  refine ⟨⟨⟨⟨by omega, ?_⟩, ?_⟩, ?_⟩, h1⟩
  · rw [(h.2 t (by omega)).1]; exact h2
  · rw [(h.2 (t + 1) (by omega)).1]; exact h3
  · rw [(h.2 (t + 1) (by omega)).2]; exact h4
theorem zle.shape {Z Z' : az_S × Nat} (h : zle Z Z') (hs : sp_shape Z) : sp_shape Z' := by
  have h0 := h.1
  have h1 := hs.1
  refine ⟨by omega, fun k hk => ?_⟩
  rw [(h.2 k (by omega)).1, (h.2 k (by omega)).2]; exact hs.2 k hk
theorem sp_RC.ext {Z Z' : az_S × Nat} {t : Nat} {A A' : Nat → Nat → Int32} {f g : Int32} {φ : sp_E → Option Int32} (h1 : Z'.1.2 (t + 1) = Z.1.2 (t + 1)) (h2 : Z'.1.2 20 = Z.1.2 20) (hA : A' (t + 1) = A (t + 1)) (h : sp_RC Z t A f g φ) : sp_RC Z' t A' f g φ := by
  intro M hM
  rw [p_reckonZ h1 h2]
  exact h M (hM.trans hA)
theorem sp_CT.ext {Z Z' : az_S × Nat} {t : Nat} {A A' : Nat → Nat → Int32} {l : sp_L} (hz : zle Z Z') (h71 : 71 ≤ Z.2) (hA : ∀ k, (k = t ∨ k = t + 1 ∨ k = t + 2) → A' k = A k) (h : sp_CT Z A t l) : sp_CT Z' A' t l := by
  obtain ⟨h1, h2, h3, h4, h5, h6⟩ := h
  obtain ⟨k1, k2⟩ := hz.tok h2
  refine ⟨h1, k1, by rw [hA t (by simp)]; exact h3, h4, by rw [(hz.2 (t + 2) (by omega)).2]; exact h5, fun c x hc => ?_⟩
  rw [hA (t + 2) (by simp)]
  obtain ⟨a, b, c⟩ := h6 c x hc
  exact ⟨a, b.ext (hz.2 (t + 1) (by omega)).2 (hz.2 20 (by omega)).2 (hA _ (by simp)), c.ext (hz.2 (t + 1) (by omega)).2 (hz.2 20 (by omega)).2 (hA _ (by simp))⟩
theorem sp_bk.ext {Z Z' : az_S × Nat} {A A' : Nat → Nat → Int32} {ref : Nat → Option Nat} {cnt inF : Int32} {R : Nat → Int32} {ls : Nat → sp_L} (hz : zle Z Z') (h71 : 71 ≤ Z.2) (hA : ∀ t, 71 ≤ t → az_tok Z t = true → ∀ k, (k = t ∨ k = t + 1 ∨ k = t + 2) → A' k = A k) (h : sp_bk Z A ref cnt inF R ls) : sp_bk Z' A' ref cnt inF R ls := by
  obtain ⟨n, h1, h2, h3, h4, h5, h6⟩ := h
  refine ⟨n, h1, h2, h3, h4, h5, fun i hi => ?_⟩
  obtain ⟨t, a, b, c⟩ := h6 i hi
  exact ⟨t, a, b.ext hz h71 (hA t b.1 b.2.1), c⟩
theorem sp_image.ext {B : Nat} {Z Z' : az_S × Nat} {M M' : az_M} {k : Nat} (hz : zle Z Z') (h71 : 71 ≤ Z.2) (h43 : ∀ j, j < 5550 → M'.1 43 (5550 * k + j) = M.1 43 (5550 * k + j)) (h44 : M'.1 44 k = M.1 44 k) (h10 : M'.2.2 10 k = M.2.2 10 k) (h11 : M'.2.2 11 k = M.2.2 11 k)
    (hA : ∀ t, 71 ≤ t → az_tok Z t = true → ∀ k, (k = t ∨ k = t + 1 ∨ k = t + 2) → M'.1 k = M.1 k) (hP : ∀ t, M.2.2 10 k = some t → 71 ≤ t → az_pok Z t = true → M'.1 (t + 1) = M.1 (t + 1)) (hB : ∀ u, M.2.2 11 k = some u → 71 ≤ u → az_bok Z u = true → (M'.1 u = M.1 u ∧ M'.2.2 (u + 1) = M.2.2 (u + 1))) (h : sp_image B Z M k) : sp_image B Z' M' k := by
  unfold sp_image at h ⊢
  rw [h44, h10, h11]
  rcases h with h | ⟨h1, t, u, ls, a1, a2, a3, a4, a5, a6, a7, a8, a9⟩
  · exact Or.inl h
  · refine Or.inr ⟨h1, t, u, ls, a1, a2, a3, a4, (hz.pok a5).1, (hz.bok a6).1, ?_, ?_, ?_⟩
    · rw [hP t a1 a3 a5]; exact a7.congR (fun j hj => h43 j (by omega)) a8.q7
    · rw [hP t a1 a3 a5]; exact a8
    · rw [(hB u a2 a4 a6).1, (hB u a2 a4 a6).2]
      exact (a9.ext hz h71 hA).congR (fun j hj => h43 j (by omega))
theorem sp_image.u71 {B : Nat} {Z : az_S × Nat} {M : az_M} {k u : Nat} (h : sp_image B Z M k) (hu : M.2.2 11 k = some u) : 71 ≤ u ∧ az_bok Z u = true := by
  rcases h with ⟨_, _, j11⟩ | ⟨_, t', u', _, _, j11, _, hu', _, hb, _⟩
  · rw [j11] at hu; cases hu
  · rw [j11] at hu; injection hu with hu; subst hu; exact ⟨hu', hb⟩
