theorem sp_RM.congR {R R' : Nat → Int32} {b : Nat} {f g : Int32} {φ : sp_E → Option Int32} (hR : ∀ j, b ≤ j → j < b + 900 → R' j = R j) (h : sp_RM R b f g φ) : sp_RM R' b f g φ := fun M e h1 => h M e (fun j h2 h3 => (h1 j h2 h3).trans (hR j h2 h3))
theorem sp_MT.congR {R R' : Nat → Int32} {i : Nat} {l : sp_L} (hl : l.length ≤ 12) (hR : ∀ j, 150 + 900 * i ≤ j → j < 150 + 900 * i + 900 → R' j = R j) (h : sp_MT R i l) : sp_MT R' i l := by
  obtain ⟨h1, h2⟩ := h
  refine ⟨by rw [hR _ (by omega) (by omega)]; exact h1, fun c x hc => ?_⟩
  have hcl : c < l.length := (List.getElem?_eq_some_iff.mp hc).1
  obtain ⟨a, b, d, e⟩ := h2 c x hc
  rw [hR (152 + 900 * i + 8 * c) (by omega) (by omega), hR (157 + 900 * i + 8 * c) (by omega) (by omega), hR (158 + 900 * i + 8 * c) (by omega) (by omega), hR (155 + 900 * i + 8 * c) (by omega) (by omega), hR (156 + 900 * i + 8 * c) (by omega) (by omega)]
  refine ⟨a, b, ?_, ?_⟩
  · split
    · rename_i hh; rw [if_pos hh] at d; exact d.congR hR
    · rename_i hh; rw [if_neg hh] at d; exact d
  · split
    · rename_i hh; rw [if_pos hh] at e; exact e
    · rename_i hh; rw [if_neg hh] at e; exact e.congR hR
theorem sp_bk.congR {Z : az_S × Nat} {A : Nat → Nat → Int32} {ref : Nat → Option Nat} {cnt inF : Int32} {R R' : Nat → Int32} {ls : Nat → sp_L} (hR : ∀ j, j = 4 ∨ j = 5 ∨ (150 ≤ j ∧ j < 5550) → R' j = R j) (h : sp_bk Z A ref cnt inF R ls) : sp_bk Z A ref cnt inF R' ls := by
  obtain ⟨n, h1, h2, h3, h4, h5, h6⟩ := h
  refine ⟨n, h1, h2, by rw [hR 4 (by simp)]; exact h3, by rw [hR 5 (by simp)]; exact h4, h5, fun i hi => ?_⟩
  obtain ⟨t, a, b, c, d⟩ := h6 i hi
  exact ⟨t, a, b, c.congR b.2.2.2.1 (fun j h1 h2 => hR j (by omega)), d⟩
theorem sp_B_le {m m' : Nat} (h : m ≤ m') : sp_B m ≤ sp_B m' := by unfold sp_B; omega
theorem az_Inv.step {m m' : Nat} {Z : az_S × Nat} {M M' : az_M} (h : az_Inv m Z M) (hm : m ≤ m')
    (hp : sp_pr (M'.1 2) (M'.1 42) ∧ sp_rg (sp_B m') (M'.1 2))
    (hb1 : M'.1 3 1 = M.1 3 1) (hb2 : M'.1 3 2 = M.1 3 2) (hb : ∀ j, j = 4 ∨ j = 5 ∨ (150 ≤ j ∧ j < 5550) → M'.1 42 j = M.1 42 j)
    (hA : ∀ k, 71 ≤ k → M'.1 k = M.1 k) (h2 : M'.2.2 = M.2.2)
    (hr : M'.1 34 13 = 0 ∨ ((∀ j, j = 0 ∨ j = 1 ∨ j = 2 ∨ j = 3 ∨ j = 13 → M'.1 34 j = M.1 34 j) ∧ M'.1 2 = M.1 2))
    (ht : M'.1 5 1 = M'.1 40 13 ∧ sp_in (M'.1 5 1) 0 400 ∧ ∀ i, i < 400 → M'.1 6 i = M'.1 49 i ∧ sp_in (M'.1 6 i) 0 255)
    (hs : M'.1 0 12 = M'.1 40 1 ∧ M'.1 0 13 = M'.1 40 18 ∧ M'.1 0 14 = M'.1 40 11 ∧ M'.1 0 15 = M'.1 40 55)
    (hf : M'.1 12 0 = M'.1 41 1 ∧ M'.1 12 1 = M'.1 41 2 ∧ M'.1 12 2 = M'.1 41 3 ∧ M'.1 12 3 = M'.1 41 5 ∧ M'.1 12 4 = M'.1 41 6)
    (hu : sp_past (sp_B m') (M'.1 7 2) (M'.1 7 3) (M'.1 8) (M'.1 9) (M'.1 40 8) (M'.1 46) (M'.1 45))
    (hi1 : M'.1 43 = M.1 43) (hi2 : M'.1 44 = M.1 44)
    (hd : M'.1 28 1 = M'.1 40 58 ∧ (M'.1 28 1 = 0 ∨ (M'.1 28 1 = 1 ∧ ∀ j, j < 6 → M'.1 29 j = M'.1 70 j)))
    (hc : M'.1 40 20 = 0) (hw : ∀ k, k = 55 ∨ k = 56 ∨ k = 57 → M'.2.1 k = M.2.1 k) : az_Inv m' Z M' := by
  obtain ⟨g1, g2, g3, ⟨ls, g4, g4b⟩, g5, g6, g7, g8, g9, g10, g11⟩ := h
  refine ⟨by rw [h2]; exact g1, ?_, hp, ⟨ls, ?_, ?_⟩, ht, hs, hf, hu, ?_, hd, hc, ?_⟩
  · unfold az_rokz at g2 ⊢; rw [h2]; exact g2
  · rw [h2, hb1, hb2]; exact (g4.cong hA).congR hb
  · rcases hr with hr | ⟨hr, hr2⟩
    · exact Or.inl hr
    · rw [hr 13 (by simp), hr 0 (by simp), hr 1 (by simp), hr 2 (by simp), hr 3 (by simp), hb2, hr2]; exact g4b
  · rw [h2]
    exact ⟨(g9.1.mono (sp_B_le hm)).cong hA hi1 hi2 h2, (g9.2.1.mono (sp_B_le hm)).cong hA hi1 hi2 h2, g9.2.2⟩
  · rw [hw 55 (by simp), hw 56 (by simp), hw 57 (by simp)]; exact g11.2
theorem sp_past.none {B : Nat} {el : Int32} {kinds prov sorts und : Nat → Int32} (h : ∃ e, e < 16 ∧ el = nI e) : sp_past B el 0 kinds prov 0 sorts und := by
  obtain ⟨e, h1, h2⟩ := h
  exact ⟨e, 0, h1, by omega, h2, rfl, rfl, fun k hk => absurd hk (by omega)⟩
theorem sp_past.el {B : Nat} {el cnt : Int32} {kinds prov : Nat → Int32} {n : Int32} {sorts und : Nat → Int32} (h : sp_past B el cnt kinds prov n sorts und) : ∃ e, e < 16 ∧ el = nI e := by
  obtain ⟨e, c, h1, _, h3, _⟩ := h
  exact ⟨e, h1, h3⟩
/-- a refused call -/
theorem az_Inv.refuse {m : Nat} {Z : az_S × Nat} {M : az_M} (h : az_Inv m Z M) {v : Int32} {j j' : Nat} (hj : (j = 0 ∧ j' = 1) ∨ (j = 1 ∧ j' = 2) ∨ (j = 2 ∧ j' = 3) ∨ (j = 3 ∧ j' = 5) ∨ (j = 4 ∧ j' = 6)) : az_Inv (m + 1) Z (p_rf (az_i (p_rc M v j) 40 0 0) v j') := by
  obtain ⟨g1, g2, g3, ⟨ls, g4, g4b⟩, g5, g6, g7, g8, g9, g10, g11⟩ := h.mono
  refine az_Inv.step h (by omega) g3 rfl rfl (fun _ _ => rfl) (fun k hk => ?_) rfl (Or.inr ⟨fun _ _ => rfl, rfl⟩) g5 ⟨rfl, g6.2⟩ ?_ g8 rfl rfl g10 g11.1 (fun _ _ => rfl)
  · unfold p_rf p_rc
    rw [gi_k (by omega), gi_k (by omega), gi_k (by omega), gi_k (by omega), gi_k (by omega)]
  · obtain ⟨a, b, c, d, e⟩ := g7
    have e12 : (p_rf (az_i (p_rc M v j) 40 0 0) v j').1 12 = up (M.1 12) j (M.1 12 j + 1) := rfl
    have e41 : (p_rf (az_i (p_rc M v j) 40 0 0) v j').1 41 = up (M.1 41) j' (M.1 41 j' + 1) := rfl
    rw [e12, e41]
    rcases hj with ⟨rfl, rfl⟩ | ⟨rfl, rfl⟩ | ⟨rfl, rfl⟩ | ⟨rfl, rfl⟩ | ⟨rfl, rfl⟩
    · exact ⟨congrArg (· + 1) a, b, c, d, e⟩
    · exact ⟨a, congrArg (· + 1) b, c, d, e⟩
    · exact ⟨a, b, congrArg (· + 1) c, d, e⟩
    · exact ⟨a, b, c, congrArg (· + 1) d, e⟩
    · exact ⟨a, b, c, d, congrArg (· + 1) e⟩
