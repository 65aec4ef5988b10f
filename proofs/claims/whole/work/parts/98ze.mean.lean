/-! WHAT A LAW'S TEXT MEANS -/
theorem c_mean {Z : az_S × Nat} {t a b kk wl a3 : Nat} {C : Nat → Int32} {φ : sp_E → Option Int32} (h : cS0 wl C a b kk φ) (hb : b ≤ Z.1.2 (t + 1)) (h4 : Z.1.2 (t + 1) ≤ 400) (hz : Z.1.2 a3 = wl) (ht : t + 1 ≠ 14) (h3 : a3 ≠ 14) (hk : kk ≤ 50) {M : az_M} (hA : ∀ j, a ≤ j → j < b → M.1 (t + 1) j = C j) : ∃ M', f_X6_reckon Z sp_G t a3 (nI a) (nI b) M = some (sp_enc (φ (M.1 a3)), M') ∧ (∀ k, k ≠ 14 → M'.1 k = M.1 k) ∧ M'.2 = M.2 := by
  unfold f_X6_reckon
  rcases h with ⟨rfl, rfl⟩ | h
  · rw [if_neg (fun e => by rw [n_lt (by omega) (by omega)] at e; omega)]
    exact ⟨M, rfl, fun _ _ => rfl, rfl⟩
  · obtain ⟨h1, h2, h3'⟩ := h
    rw [if_pos (by rw [n_lt (by omega) (by omega)]; exact h1)]
    obtain ⟨F', M', e1, e2, e3, e4, e5, e6⟩ := h3' Z t a3 b 0 sp_G M (Nat.le_refl _) hb h4 hz ht h3 hA (by omega) (by show b < 1000000 + a; omega)
    cases hp : φ (M.1 a3) with
    | none => exact ⟨M', e5 hp, e2, e3⟩
    | some v =>
      obtain ⟨q1, q2⟩ := e6 v hp
      refine ⟨M', ?_, e2, e3⟩
      obtain ⟨F', rfl⟩ : ∃ F1, F' = F1 + 1 := ⟨F' - 1, by omega⟩
      rw [show f_X6_reckon_19 Z sp_G t a3 sp_G (nI b) 0 (nI a) M = _ from q1, f_X6_reckon_19, if_pos (nI_le (Nat.le_refl _) (by omega))]
      unfold f_X6_reckon_308 f_X6_reckon_325
      rw [if_pos (show nI (0 + 1) = 1 from rfl), q2]; rfl
theorem t_mean {Z : az_S × Nat} {A : Nat → Nat → Int32} {t n : Nat} {l : sp_L} {C D : Nat → Int32} (h71 : 71 ≤ t) (htok : az_tok Z t = true) (h3 : A t 3 = nI l.length) (hl : l.length ≤ 12) (hD : Z.1.2 (t + 2) = 6 * l.length) (hN : Z.1.2 (t + 1) = n) (hn : n ≤ 400) (h20 : Z.1.2 20 = 11) (hC : ∀ j, j < n → A (t + 1) j = C j) (hD' : ∀ j, j < 6 * l.length → A (t + 2) j = D j) (h : ∀ (c : Nat) (x : sp_C), l[c]? = some x → lawOk x ∧ lawC C D c n x) : sp_CT Z A t l := by
  refine ⟨h71, htok, h3, hl, by omega, fun c x hc => ?_⟩
  have hcl : c < l.length := (List.getElem?_eq_some_iff.mp hc).1
  obtain ⟨-, a0, a1, a2, kk, kk', ⟨d1, d2, d3, d4, d5⟩, ⟨b1, b2, b3, b4, b5⟩, s1, s2⟩ := h c x hc
  rw [hD' (6 * c) (by omega), hD' (6 * c + 4) (by omega), hD' (6 * c + 5) (by omega), hD' (6 * c + 2) (by omega), hD' (6 * c + 3) (by omega), d2, d3, d4, d5]
  refine ⟨d1, fun M hM => ?_, fun M hM => ?_⟩
  · exact c_mean s2 (by omega) (by omega) h20 (by omega) (by decide) b5 (fun j _ hj => by rw [hM]; exact hC j (by omega))
  · exact c_mean s1 (by omega) (by omega) h20 (by omega) (by decide) b4 (fun j _ hj => by rw [hM]; exact hC j (by omega))
theorem r_mean {o a b kk : Nat} {Op Ar : Nat → Int32} {φ : sp_E → Option Int32} (h : rSeg o Op Ar a b kk φ) (hk : kk ≤ 50) (hb : b ≤ 400) {M : az_M} {e : sp_E} (h20 : M.1 40 20 = nI o) (hc : ∀ j, a ≤ j → j < b → rCode o M j (Op j) (Ar j)) (he : rEnv o e M) : ∃ M', f_X12_reckonAll sp_G (nI a) (nI b) M = some M' ∧ (φ e = none → M'.1 40 38 = 1) ∧ (∀ v, φ e = some v → M'.1 40 38 = 0 ∧ M'.2.1 40 39 = v.toInt64) ∧ (∀ k, k ≠ 40 → M'.1 k = M.1 k) ∧ (∀ j, j ≠ 38 → M'.1 40 j = M.1 40 j) ∧ (∀ k, k ≠ 40 → k ≠ 60 → M'.2.1 k = M.2.1 k) ∧ (∀ j, j ≠ 39 → M'.2.1 40 j = M.2.1 40 j) ∧ M'.2.2 = M.2.2 := by
  obtain ⟨h1, h2, h3⟩ := h
  have f0 := rfr_i M 0
  obtain ⟨F', M', e1, e2, e3, e4, e5⟩ := h3 e b 0 sp_G (az_i M 40 38 0) (Nat.le_refl _) hb (by rw [f0.2.1 20 (by decide)]; exact h20) (fun j p q => (hc j p q).fr f0) (he.fr f0) (by omega) (by rw [gi, if_pos rfl, if_pos rfl]) (by show b < 1000000 + a; omega)
  have f1 := f0.trans e2
  have fin : ∀ (w : Int64), (∀ k, k ≠ 40 → (az_l M' 40 39 w).1 k = M.1 k) ∧ (∀ j, j ≠ 38 → (az_l M' 40 39 w).1 40 j = M.1 40 j) ∧ (∀ k, k ≠ 40 → k ≠ 60 → (az_l M' 40 39 w).2.1 k = M.2.1 k) ∧ (∀ j, j ≠ 39 → (az_l M' 40 39 w).2.1 40 j = M.2.1 40 j) ∧ (az_l M' 40 39 w).2.2 = M.2.2 := by
    intro w
    exact ⟨fun k hk => f1.1 k hk, fun j hj => f1.2.1 j hj, fun k p q => by rw [gl_k p]; exact f1.2.2.1 k q, fun j hj => by rw [gl_j, if_neg hj, f1.2.2.1 40 (by decide)], f1.2.2.2⟩
  unfold f_X12_reckonAll
  cases hp : φ e with
  | none =>
    obtain ⟨x, q1, q2⟩ := e4 hp
    rw [show f_X12_reckonAll_10 sp_G sp_G (nI b) 0 (nI a) (az_i M 40 38 0) = _ from q1]
    unfold f_X12_reckonAll_360 f_X12_reckonAll_375
    by_cases hx : x ≤ 0
    · rw [if_pos hx]; exact ⟨_, rfl, fun _ => q2, fun v hv => (by cases hv), fin _⟩
    · rw [if_neg hx]; exact ⟨_, rfl, fun _ => q2, fun v hv => (by cases hv), fin _⟩
  | some v =>
    obtain ⟨q1, q2, q3⟩ := e5 v hp
    obtain ⟨F', rfl⟩ : ∃ F1, F' = F1 + 1 := ⟨F' - 1, by omega⟩
    rw [show f_X12_reckonAll_10 sp_G sp_G (nI b) 0 (nI a) (az_i M 40 38 0) = _ from q1, f_X12_reckonAll_10, if_pos (nI_le (Nat.le_refl _) (by omega))]
    unfold f_X12_reckonAll_360 f_X12_reckonAll_375
    rw [if_neg (by decide)]
    refine ⟨_, rfl, fun hv => (by cases hv), fun u hu => ⟨q2, ?_⟩, fin _⟩
    injection hu with hu
    rw [gl_j, if_pos rfl, q3, hu]
theorem m_mean {R Op Ar D : Nat → Int32} {i m : Nat} {l : sp_L} (hi : i < 6) (hm : m ≤ 400) (h1 : R (151 + 900 * i) = nI l.length) (hl : l.length ≤ 12) (hD : ∀ j, j < 8 * l.length → R (152 + 900 * i + j) = D j) (hO : ∀ k, k < m → R (150 + 900 * i + 98 + 2 * k) = Op k ∧ R (150 + 900 * i + 98 + 2 * k + 1) = Ar k) (h : ∀ (c : Nat) (x : sp_C), l[c]? = some x → lawOk x ∧ lawR Op Ar D c m x) : sp_MT R i l := by
  refine ⟨h1, fun c x hc => ?_⟩
  have hcl : c < l.length := (List.getElem?_eq_some_iff.mp hc).1
  obtain ⟨ok, b0, b1, b2, kk, kk', ⟨d1, d2, d3, d4, d5⟩, ⟨c1, c2, c3, c4, c5⟩, s1, s2⟩ := h c x hc
  have e0 : R (152 + 900 * i + 8 * c) = x.1 := by rw [hD (8 * c) (by omega)]; exact d1
  have e3 : R (155 + 900 * i + 8 * c) = nI b0 := by rw [show 155 + 900 * i + 8 * c = 152 + 900 * i + (8 * c + 3) by omega, hD _ (by omega)]; exact d2
  have e4 : R (156 + 900 * i + 8 * c) = nI b1 := by rw [show 156 + 900 * i + 8 * c = 152 + 900 * i + (8 * c + 4) by omega, hD _ (by omega)]; exact d3
  have e5 : R (157 + 900 * i + 8 * c) = nI b1 := by rw [show 157 + 900 * i + 8 * c = 152 + 900 * i + (8 * c + 5) by omega, hD _ (by omega)]; exact d4
  have e6 : R (158 + 900 * i + 8 * c) = nI b2 := by rw [show 158 + 900 * i + 8 * c = 152 + 900 * i + (8 * c + 6) by omega, hD _ (by omega)]; exact d5
  have go : ∀ (p q kk : Nat) (φ : sp_E → Option Int32), rSeg 0 Op Ar p q kk φ → kk ≤ 50 → q ≤ m → sp_RM R (150 + 900 * i) (nI p) (nI q) φ := by
    intro p q kk φ hs hk hq M e q1 q2 q3 q4
    refine r_mean hs hk (by omega) (e := e) (by rw [q2]; rfl) (fun j _ hj => Or.inl ⟨rfl, 150 + 900 * i, q3, by omega, ?_, ?_⟩) (Or.inl ⟨rfl, q4⟩)
    · rw [q1 _ (by omega) (by omega)]; exact (hO j (by omega)).1
    · rw [q1 _ (by omega) (by omega)]; exact (hO j (by omega)).2
  rw [e0, e3, e4, e5, e6]
  refine ⟨rfl, ok.1, ?_, ?_⟩
  · rcases s2 with ⟨rfl, hφ⟩ | s2
    · rw [if_neg (fun e => by rw [n_lt (by omega) (by omega)] at e; omega)]; exact hφ
    · rw [if_pos (by rw [n_lt (by omega) (by omega)]; exact s2.1)]
      exact go b1 b2 kk' x.2.1 s2 c5 c3
  · by_cases h4 : x.1 = 4
    · rw [if_pos h4] at s1 ⊢; exact s1
    · rw [if_neg h4] at s1 ⊢; exact go b0 b1 kk x.2.2 s1 c4 (by omega)
