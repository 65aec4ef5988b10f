/-! THE PURE SIDE: small rows -/
theorem gi (M : az_M) (k j : Nat) (v : Int32) (k' j' : Nat) : (az_i M k j v).1 k' j' = if k' = k then (if j' = j then v else M.1 k' j') else M.1 k' j' := by
  by_cases h : k' = k
  · subst h; rw [az_i_eq, if_pos rfl]; rfl
  · rw [az_i_ne h, if_neg h]
theorem gi_k {M : az_M} {k j : Nat} {v : Int32} {k' : Nat} (h : k' ≠ k) : (az_i M k j v).1 k' = M.1 k' := az_i_ne h
theorem gi_2 (M : az_M) (k j : Nat) (v : Int32) : (az_i M k j v).2 = M.2 := rfl
theorem p_in (v lo hi : Int64) (M : az_M) : f_X12_in v lo hi M = some (if v < lo then 0 else if hi < v then 0 else 1) := by
  unfold f_X12_in f_X12_in_17 f_X12_in_18
  by_cases h1 : v < lo
  · rw [if_pos h1, if_pos h1]; rfl
  · rw [if_neg h1, if_neg h1]
    by_cases h2 : hi < v
    · rw [if_pos h2, if_pos h2]; rfl
    · rw [if_neg h2, if_neg h2]; rfl
theorem p_tell {v : Int32} (h : 0 ≤ v) (M : az_M) : f_X12_tell v M = some (v, az_i M 40 1 0) := by
  unfold f_X12_tell f_X12_tell_10 f_X12_tell_28
  rw [if_pos h, if_pos h]
def p_rf (M : az_M) (v : Int32) (j : Nat) : az_M := az_i (az_i M 40 1 v) 41 j (M.1 41 j + 1)
theorem p_tell1 (M : az_M) : f_X12_tell (-1) M = some (-1, p_rf M (-1) 1) := rfl
theorem p_tell2 (M : az_M) : f_X12_tell (-2) M = some (-2, p_rf M (-2) 2) := rfl
theorem p_tell3 (M : az_M) : f_X12_tell (-3) M = some (-3, p_rf M (-3) 3) := rfl
theorem p_tell5 (M : az_M) : f_X12_tell (-5) M = some (-5, p_rf M (-5) 5) := rfl
theorem p_tell6 (M : az_M) : f_X12_tell (-6) M = some (-6, p_rf M (-6) 6) := rfl
def p_rc (M : az_M) (v : Int32) (j : Nat) : az_M := az_i (az_i M 0 12 v) 12 j (M.1 12 j + 1)
theorem p_refuse1 (M : az_M) : f_X11_refuse (-1) M = some (-1, p_rc M (-1) 0) := rfl
theorem p_refuse2 (M : az_M) : f_X11_refuse (-2) M = some (-2, p_rc M (-2) 1) := rfl
theorem p_refuse3 (M : az_M) : f_X11_refuse (-3) M = some (-3, p_rc M (-3) 2) := rfl
theorem p_refuse5 (M : az_M) : f_X11_refuse (-5) M = some (-5, p_rc M (-5) 3) := rfl
theorem p_refuse6 (M : az_M) : f_X11_refuse (-6) M = some (-6, p_rc M (-6) 4) := rfl
theorem p_settle (v : Int32) (M : az_M) : f_X11_settle v M = some (v, az_i (az_i M 0 12 0) 34 13 0) := rfl
theorem p_settleAnew (v : Int32) (M : az_M) : f_X11_settleAnew v M = some (v, az_i (az_i (az_i M 7 3 0) 0 12 0) 34 13 0) := rfl
/-- the places that the invariant speaks of are the same -/
def sp_ke (M M' : az_M) : Prop :=
  (∀ k, (k = 2 ∨ k = 6 ∨ k = 8 ∨ k = 9 ∨ k = 12 ∨ k = 29 ∨ k = 41 ∨ k = 42 ∨ k = 43 ∨ k = 44 ∨ k = 46 ∨ k = 49 ∨ k = 70 ∨ 71 ≤ k) → M'.1 k = M.1 k) ∧
  (∀ j, j < 2400 → M'.1 45 j = M.1 45 j) ∧ (∀ j, j = 12 ∨ j = 13 ∨ j = 14 ∨ j = 15 → M'.1 0 j = M.1 0 j) ∧ (∀ j, j = 1 ∨ j = 2 → M'.1 3 j = M.1 3 j) ∧ M'.1 5 1 = M.1 5 1 ∧ (∀ j, j = 2 ∨ j = 3 → M'.1 7 j = M.1 7 j) ∧ M'.1 28 1 = M.1 28 1 ∧ (∀ j, j = 0 ∨ j = 1 ∨ j = 2 ∨ j = 3 ∨ j = 13 → M'.1 34 j = M.1 34 j) ∧
  (∀ j, j = 1 ∨ j = 8 ∨ j = 11 ∨ j = 13 ∨ j = 18 ∨ j = 20 ∨ j = 55 ∨ j = 58 → M'.1 40 j = M.1 40 j) ∧ (∀ k, k = 55 ∨ k = 56 ∨ k = 57 → M'.2.1 k = M.2.1 k) ∧ M'.2.2 = M.2.2
theorem sp_RC.cong {Z : az_S × Nat} {t : Nat} {A A' : Nat → Nat → Int32} {f g : Int32} {φ : sp_E → Option Int32} (hA : A' (t + 1) = A (t + 1)) (h : sp_RC Z t A f g φ) : sp_RC Z t A' f g φ := fun M hM => h M (hM.trans hA)
theorem sp_CT.cong {Z : az_S × Nat} {t : Nat} {A A' : Nat → Nat → Int32} {l : sp_L} (hA : ∀ k, 71 ≤ k → A' k = A k) (h : sp_CT Z A t l) : sp_CT Z A' t l := by
  obtain ⟨h1, h2, h3, h4, h5, h6⟩ := h
  refine ⟨h1, h2, by rw [hA t h1]; exact h3, h4, h5, fun c x hc => ?_⟩
  rw [hA (t + 2) (by omega)]
  obtain ⟨a, b, c⟩ := h6 c x hc
  exact ⟨a, b.cong (hA _ (by omega)), c.cong (hA _ (by omega))⟩
theorem sp_bk.cong {Z : az_S × Nat} {A A' : Nat → Nat → Int32} {ref : Nat → Option Nat} {cnt inF : Int32} {R : Nat → Int32} {ls : Nat → sp_L} (hA : ∀ k, 71 ≤ k → A' k = A k) (h : sp_bk Z A ref cnt inF R ls) : sp_bk Z A' ref cnt inF R ls := by
  obtain ⟨n, h1, h2, h3, h4, h5, h6⟩ := h
  refine ⟨n, h1, h2, h3, h4, h5, fun i hi => ?_⟩
  obtain ⟨t, a, b, c⟩ := h6 i hi
  exact ⟨t, a, b.cong hA, c⟩
theorem sp_image.cong {B : Nat} {Z : az_S × Nat} {M M' : az_M} {k : Nat} (hA : ∀ k, 71 ≤ k → M'.1 k = M.1 k) (h43 : M'.1 43 = M.1 43) (h44 : M'.1 44 = M.1 44) (h2 : M'.2.2 = M.2.2) (h : sp_image B Z M k) : sp_image B Z M' k := by
  unfold sp_image at h ⊢
  rw [h43, h44, h2]
  rcases h with h | ⟨h1, t, u, ls, a1, a2, a3, a4, a5, a6, a7, a8, a9⟩
  · exact Or.inl h
  · exact Or.inr ⟨h1, t, u, ls, a1, a2, a3, a4, a5, a6, by rw [hA (t + 1) (by omega)]; exact a7, by rw [hA (t + 1) (by omega)]; exact a8, by rw [hA u a4]; exact a9.cong hA⟩
theorem sp_in.mono {x : Int32} {lo hi hi' : Int} (h : sp_in x lo hi) (hh : hi ≤ hi') : sp_in x lo hi' := ⟨h.1, Int.le_trans h.2 hh⟩
theorem sp_rg.mono {B B' : Nat} {N : Nat → Int32} (hB : B ≤ B') (h : sp_rg B N) : sp_rg B' N := by
  have hB' : (B : Int) ≤ (B' : Int) := Int.ofNat_le.mpr hB
  obtain ⟨h1, h2, h3, h4, h5, h6, h7⟩ := h
  exact ⟨h1, h2, ⟨h3.1.mono hB', h3.2.mono hB'⟩, h4, fun p hp => ⟨(h5 p hp).1, (h5 p hp).2.1, (h5 p hp).2.2.1, (h5 p hp).2.2.2.mono hB'⟩, h6, h7⟩
theorem sp_past.mono {B B' : Nat} {el cnt : Int32} {kinds prov : Nat → Int32} {n : Int32} {sorts und : Nat → Int32} (hB : B ≤ B') (h : sp_past B el cnt kinds prov n sorts und) : sp_past B' el cnt kinds prov n sorts und := by
  obtain ⟨e, c, h1, h2, h3, h4, h5, h6⟩ := h
  exact ⟨e, c, h1, h2, h3, h4, h5, fun k hk => ⟨(h6 k hk).1, (h6 k hk).2.1, (h6 k hk).2.2.1, (h6 k hk).2.2.2.mono hB⟩⟩
theorem sp_image.mono {B B' : Nat} {Z : az_S × Nat} {M : az_M} {k : Nat} (hB : B ≤ B') (h : sp_image B Z M k) : sp_image B' Z M k := by
  rcases h with h | ⟨h1, t, u, ls, a1, a2, a3, a4, a5, a6, a7, a8, a9⟩
  · exact Or.inl h
  · exact Or.inr ⟨h1, t, u, ls, a1, a2, a3, a4, a5, a6, a7, a8.mono hB, a9⟩
theorem sp_pr.congR {N R R' : Nat → Int32} (hR : ∀ j, j < 150 → R' j = R j) (hq : (N 25).toNatClampNeg ≤ 7) (h : sp_pr N R) : sp_pr N R' := by
  obtain ⟨h1, h2, h3, h4, h5, h6, h7, h8⟩ := h
  refine ⟨?_, fun t ht => ?_, ?_, ?_, fun p hp => ?_, fun p hp => ?_, fun q hq => ?_, fun i hi => ?_⟩
  · rw [hR 11 (by omega), hR 12 (by omega), hR 13 (by omega), hR 14 (by omega)]; exact h1
  · rw [hR _ (by omega)]; exact h2 t ht
  · rw [hR 15 (by omega), hR 16 (by omega)]; exact h3
  · rw [hR 0 (by omega), hR 1 (by omega), hR 2 (by omega), hR 3 (by omega)]; exact h4
  · rw [hR (17 + 4 * p) (by omega), hR (18 + 4 * p) (by omega), hR (19 + 4 * p) (by omega), hR (20 + 4 * p) (by omega)]; exact h5 p hp
  · rw [hR (65 + 3 * p) (by omega), hR (66 + 3 * p) (by omega), hR (67 + 3 * p) (by omega)]; exact h6 p hp
  · rw [hR (95 + 4 * q) (by omega), hR (96 + 4 * q) (by omega), hR (97 + 4 * q) (by omega), hR (98 + 4 * q) (by omega)]; exact h7 q hq
  · rw [hR (123 + i) (by omega)]; exact h8 i hi
theorem sp_rg.q7 {B : Nat} {N : Nat → Int32} (h : sp_rg B N) : (N 25).toNatClampNeg ≤ 7 := by
  have := h.2.2.2.1.2.2.1.2
  show (N 25).toInt.toNat ≤ 7
  omega
theorem sp_past.congU {B : Nat} {el cnt : Int32} {kinds prov : Nat → Int32} {n : Int32} {sorts und und' : Nat → Int32} (hu : ∀ j, j < 2400 → und' j = und j) (h : sp_past B el cnt kinds prov n sorts und) : sp_past B el cnt kinds prov n sorts und' := by
  obtain ⟨e, c, h1, h2, h3, h4, h5, h6⟩ := h
  exact ⟨e, c, h1, h2, h3, h4, h5, fun k hk => ⟨(h6 k hk).1, (h6 k hk).2.1, (h6 k hk).2.2.1.congR (fun j hj => hu _ (by omega)) (h6 k hk).2.2.2.q7, (h6 k hk).2.2.2⟩⟩
theorem sp_B_mono (m : Nat) : sp_B m ≤ sp_B (m + 1) := by unfold sp_B; omega
theorem az_Inv.mono {m : Nat} {Z : az_S × Nat} {M : az_M} (h : az_Inv m Z M) : az_Inv (m + 1) Z M := by
  obtain ⟨h1, h2, h3, h4, h5, h6, h7, h8, h9, h10, h11⟩ := h
  exact ⟨h1, h2, ⟨h3.1, h3.2.mono (sp_B_mono m)⟩, h4, h5, h6, h7, h8.mono (sp_B_mono m), ⟨h9.1.mono (sp_B_mono m), h9.2.1.mono (sp_B_mono m), h9.2.2⟩, h10, h11⟩
theorem az_Inv.ke {m : Nat} {Z : az_S × Nat} {M M' : az_M} (k : sp_ke M M') (h : az_Inv m Z M) : az_Inv m Z M' := by
  obtain ⟨k1, kU, k2, k3, k4, k5, k6, k7, k8, k9, k10⟩ := k
  obtain ⟨h1, h2, h3, ⟨ls, h4, h4b⟩, h5, h6, h7, h8, h9, h10, h11⟩ := h
  have e2 := k1 2 (by simp); have e6 := k1 6 (by simp); have e8 := k1 8 (by simp); have e9 := k1 9 (by simp); have e12 := k1 12 (by simp)
  have e29 := k1 29 (by simp); have e41 := k1 41 (by simp); have e42 := k1 42 (by simp); have e43 := k1 43 (by simp); have e44 := k1 44 (by simp)
  have e46 := k1 46 (by simp); have e49 := k1 49 (by simp); have e70 := k1 70 (by simp)
  have hA : ∀ k, 71 ≤ k → M'.1 k = M.1 k := fun k hk => k1 k (by simp [hk])
  refine ⟨by rw [k10]; exact h1, ?_, ?_, ⟨ls, ?_, ?_⟩, ?_, ?_, ?_, ?_, ?_, ?_, ?_⟩
  · unfold az_rokz at h2 ⊢; rw [k10]; exact h2
  · rw [e2, e42]; exact h3
  · rw [k10, k3 1 (by simp), k3 2 (by simp), e42]; exact h4.cong hA
  · rw [k7 13 (by simp), k7 0 (by simp), k7 1 (by simp), k7 2 (by simp), k7 3 (by simp), k3 2 (by simp), e2]; exact h4b
  · rw [k4, k8 13 (by simp), e6, e49]; exact h5
  · rw [k2 12 (by simp), k2 13 (by simp), k2 14 (by simp), k2 15 (by simp), k8 1 (by simp), k8 18 (by simp), k8 11 (by simp), k8 55 (by simp)]; exact h6
  · rw [e12, e41]; exact h7
  · rw [k5 2 (by simp), k5 3 (by simp), e8, e9, k8 8 (by simp), e46]; exact h8.congU kU
  · rw [k10]
    exact ⟨h9.1.cong hA e43 e44 k10, h9.2.1.cong hA e43 e44 k10, h9.2.2⟩
  · rw [k6, k8 58 (by simp), e29, e70]; exact h10
  · rw [k8 20 (by simp), k9 55 (by simp), k9 56 (by simp), k9 57 (by simp)]; exact h11
/-- the reference's 'thrown' is of no matter -/
theorem sp_ke_thrown (M : az_M) (v : Int32) : sp_ke M (az_i M 40 0 v) := by
  have h40 : ∀ j, j ≠ 0 → (az_i M 40 0 v).1 40 j = M.1 40 j := fun j hj => by rw [gi, if_pos rfl, if_neg hj]
  have hk : ∀ k, k ≠ 40 → (az_i M 40 0 v).1 k = M.1 k := fun k h => gi_k h
  refine ⟨fun k h => hk k (by omega), fun j _ => by rw [hk 45 (by decide)], fun j _ => by rw [hk 0 (by decide)], fun j _ => by rw [hk 3 (by decide)], by rw [hk 5 (by decide)], fun j _ => by rw [hk 7 (by decide)], by rw [hk 28 (by decide)], fun j _ => by rw [hk 34 (by decide)], fun j h => h40 j (by omega), fun _ _ => rfl, rfl⟩
theorem ob_status : Ob_status az_Inv sp_G := by
  intro m Z M _ h
  exact ⟨_, _, rfl, by rw [h.2.2.2.2.2.1.1]; rfl, (h.ke (sp_ke_thrown M 0)).mono⟩
theorem ob_chips : Ob_chips az_Inv sp_G := by
  intro m Z M _ h
  exact ⟨_, _, rfl, by rw [h.2.2.2.2.2.1.2.2.1]; rfl, (h.ke (sp_ke_thrown M 0)).mono⟩
theorem ob_fault : Ob_fault az_Inv sp_G := by
  intro m Z M _ h
  exact ⟨_, _, rfl, by rw [h.2.2.2.2.2.1.2.1]; rfl, (h.ke (sp_ke_thrown M 0)).mono⟩
theorem ob_stopped : Ob_stopped az_Inv sp_G := by
  intro m Z M _ h
  exact ⟨_, _, rfl, by rw [h.2.2.2.2.2.1.2.2.2]; rfl, (h.ke (sp_ke_thrown M 0)).mono⟩
