/-! deeds -/
theorem ClsAt.to {Z : az_S × Nat} {B B' o o' : Nat} {inF : Int32} {ls : Nat → sp_L} {N N' : Nat → Int32} {M M' : az_M} (h : ClsAt Z B o inF ls N M) (h3 : M'.1 3 = M.1 3) (hA : ∀ k, 71 ≤ k → M'.1 k = M.1 k) (h2 : M'.2.2 = M.2.2) (hr : M'.1 (o' + 1) = N') (hg : sp_rg B' N') (hB : B' ≤ 1000000000) (ho : o' + 1 ≠ 20 ∧ o' + 1 ≠ 14) : ClsAt Z B' o' inF ls N' M' := by
  obtain ⟨⟨R, bk⟩, h1, _, _, _, _⟩ := h
  refine ⟨⟨R, ?_⟩, ?_, hr, hg, hB, ho⟩
  · rw [h2, h3]; exact bk.cong hA
  · rw [h3]; exact h1
def sp_dc (M M' : az_M) : Prop := (∀ k, k ≠ 2 → k ≠ 7 → k ≠ 8 → k ≠ 9 → k ≠ 14 → k ≠ 19 → k ≠ 20 → M'.1 k = M.1 k) ∧ M'.2 = M.2
theorem sp_dc.refl (M : az_M) : sp_dc M M := ⟨fun _ _ _ _ _ _ _ _ => rfl, rfl⟩
theorem sp_dc.trans {M M' M'' : az_M} (h : sp_dc M M') (g : sp_dc M' M'') : sp_dc M M'' := ⟨fun k a b c d e f i => (g.1 k a b c d e f i).trans (h.1 k a b c d e f i), g.2.trans h.2⟩
theorem sp_cf.dc {M M' : az_M} (h : sp_cf M M') : sp_dc M M' := ⟨fun k _ _ _ _ e _ i => h.1 k e i, h.2⟩
def sp_dr (M M' : az_M) : Prop := (∀ k, k ≠ 40 → k ≠ 42 → k ≠ 45 → k ≠ 46 → M'.1 k = M.1 k) ∧ (∀ j, j ≠ 8 → j ≠ 34 → j ≠ 38 → M'.1 40 j = M.1 40 j) ∧ (∀ k, k ≠ 40 → k ≠ 58 → k ≠ 60 → M'.2.1 k = M.2.1 k) ∧ M'.2.2 = M.2.2 ∧ ∀ j, j = 4 ∨ j = 5 ∨ 150 ≤ j → M'.1 42 j = M.1 42 j
theorem sp_dr.refl (M : az_M) : sp_dr M M := ⟨fun _ _ _ _ _ => rfl, fun _ _ _ _ => rfl, fun _ _ _ _ => rfl, rfl, fun _ _ => rfl⟩
theorem sp_dr.trans {M M' M'' : az_M} (h : sp_dr M M') (g : sp_dr M' M'') : sp_dr M M'' :=
  ⟨fun k a b c d => (g.1 k a b c d).trans (h.1 k a b c d), fun j a b c => (g.2.1 j a b c).trans (h.2.1 j a b c), fun k a b c => (g.2.2.1 k a b c).trans (h.2.2.1 k a b c), g.2.2.2.1.trans h.2.2.2.1, fun j hj => (g.2.2.2.2 j hj).trans (h.2.2.2.2 j hj)⟩
theorem sp_fq.dr {M M' : az_M} (h : sp_fq M M') : sp_dr M M' := ⟨fun k a b _ _ => h.1 k a b, fun j _ b c => h.2.1 j b c, h.2.2.1, h.2.2.2.2.1, h.2.2.2.2.2⟩
theorem az_Inv.deed {m : Nat} {Z : az_S × Nat} {M Mc Mr : az_M} (h : az_Inv m Z M) (dc : sp_dc M Mc) (dr : sp_dr (az_i (az_i (az_i Mc 0 12 0) 34 13 0) 40 0 0) Mr)
    (hp : sp_pr (Mc.1 2) (Mr.1 42)) (hg : sp_rg (sp_B (m + 1)) (Mc.1 2)) (hu : sp_past (sp_B (m + 1)) (Mc.1 7 2) (Mc.1 7 3) (Mc.1 8) (Mc.1 9) (Mr.1 40 8) (Mr.1 46) (Mr.1 45)) : az_Inv (m + 1) Z (az_i Mr 40 1 0) := by
  obtain ⟨g1, g2, g3, ⟨ls, g4, g4b⟩, g5, g6, g7, g8, g9, g10, g11⟩ := h.mono
  have K : ∀ k, k ≠ 40 → k ≠ 42 → k ≠ 45 → k ≠ 46 → k ≠ 0 → k ≠ 34 → (az_i Mr 40 1 0).1 k = Mc.1 k := fun k a b c d e f => by
    rw [gi_k a, dr.1 k a b c d, gi_k a, gi_k f, gi_k e]
  have K' : ∀ k, k ≠ 40 → k ≠ 42 → k ≠ 45 → k ≠ 46 → k ≠ 0 → k ≠ 34 → k ≠ 2 → k ≠ 7 → k ≠ 8 → k ≠ 9 → k ≠ 14 → k ≠ 19 → k ≠ 20 → (az_i Mr 40 1 0).1 k = M.1 k := fun k a b c d e f i1 i2 i3 i4 i5 i6 i7 => by
    rw [K k a b c d e f, dc.1 k i1 i2 i3 i4 i5 i6 i7]
  have J : ∀ j, j ≠ 0 → j ≠ 1 → j ≠ 8 → j ≠ 34 → j ≠ 38 → (az_i Mr 40 1 0).1 40 j = M.1 40 j := fun j h0 h1 h8 h34 h38 => by
    rw [gi, if_pos rfl, if_neg h1, dr.2.1 j h8 h34 h38, gi, if_pos rfl, if_neg h0, gi_k (by decide), gi_k (by decide), dc.1 40 (by decide) (by decide) (by decide) (by decide) (by decide) (by decide) (by decide)]
  have k42 : (az_i Mr 40 1 0).1 42 = Mr.1 42 := gi_k (by decide)
  have k0 : ∀ j, j ≠ 12 → (az_i Mr 40 1 0).1 0 j = M.1 0 j := fun j hj => by
    rw [gi_k (by decide), dr.1 0 (by decide) (by decide) (by decide) (by decide), gi_k (by decide), gi_k (by decide), gi, if_pos rfl, if_neg hj, dc.1 0 (by decide) (by decide) (by decide) (by decide) (by decide) (by decide) (by decide)]
  refine h.step (by omega) ⟨?_, ?_⟩ ?_ ?_ ?_ (fun k hk => K' k (by omega) (by omega) (by omega) (by omega) (by omega) (by omega) (by omega) (by omega) (by omega) (by omega) (by omega) (by omega) (by omega)) ?_ (Or.inl ?_) ?_ ⟨?_, ?_, ?_, ?_⟩ ?_ ?_ ?_ ?_ ?_ ?_ ?_
  · rw [k42, K 2 (by decide) (by decide) (by decide) (by decide) (by decide) (by decide)]; exact hp
  · rw [K 2 (by decide) (by decide) (by decide) (by decide) (by decide) (by decide)]; exact hg
  · rw [K' 3 (by decide) (by decide) (by decide) (by decide) (by decide) (by decide) (by decide) (by decide) (by decide) (by decide) (by decide) (by decide) (by decide)]
  · rw [K' 3 (by decide) (by decide) (by decide) (by decide) (by decide) (by decide) (by decide) (by decide) (by decide) (by decide) (by decide) (by decide) (by decide)]
  · intro j hj
    rw [k42, dr.2.2.2.2 j (by omega), gi_k (by decide), gi_k (by decide), gi_k (by decide), dc.1 42 (by decide) (by decide) (by decide) (by decide) (by decide) (by decide) (by decide)]
  · show Mr.2.2 = M.2.2
    rw [dr.2.2.2.1]; show Mc.2.2 = M.2.2; rw [dc.2]
  · rw [gi_k (by decide), dr.1 34 (by decide) (by decide) (by decide) (by decide)]; rfl
  · rw [K' 5 (by decide) (by decide) (by decide) (by decide) (by decide) (by decide) (by decide) (by decide) (by decide) (by decide) (by decide) (by decide) (by decide), K' 6 (by decide) (by decide) (by decide) (by decide) (by decide) (by decide) (by decide) (by decide) (by decide) (by decide) (by decide) (by decide) (by decide), K' 49 (by decide) (by decide) (by decide) (by decide) (by decide) (by decide) (by decide) (by decide) (by decide) (by decide) (by decide) (by decide) (by decide), J 13 (by decide) (by decide) (by decide) (by decide) (by decide)]; exact g5
  · show (az_i Mr 40 1 0).1 0 12 = 0
    rw [gi_k (by decide), dr.1 0 (by decide) (by decide) (by decide) (by decide)]; rfl
  · rw [k0 13 (by decide), J 18 (by decide) (by decide) (by decide) (by decide) (by decide)]; exact g6.2.1
  · rw [k0 14 (by decide), J 11 (by decide) (by decide) (by decide) (by decide) (by decide)]; exact g6.2.2.1
  · rw [k0 15 (by decide), J 55 (by decide) (by decide) (by decide) (by decide) (by decide)]; exact g6.2.2.2
  · rw [K' 12 (by decide) (by decide) (by decide) (by decide) (by decide) (by decide) (by decide) (by decide) (by decide) (by decide) (by decide) (by decide) (by decide), K' 41 (by decide) (by decide) (by decide) (by decide) (by decide) (by decide) (by decide) (by decide) (by decide) (by decide) (by decide) (by decide) (by decide)]; exact g7
  · rw [K 7 (by decide) (by decide) (by decide) (by decide) (by decide) (by decide), K 8 (by decide) (by decide) (by decide) (by decide) (by decide) (by decide), K 9 (by decide) (by decide) (by decide) (by decide) (by decide) (by decide)]
    exact hu
  · exact K' 43 (by decide) (by decide) (by decide) (by decide) (by decide) (by decide) (by decide) (by decide) (by decide) (by decide) (by decide) (by decide) (by decide)
  · exact K' 44 (by decide) (by decide) (by decide) (by decide) (by decide) (by decide) (by decide) (by decide) (by decide) (by decide) (by decide) (by decide) (by decide)
  · rw [K' 28 (by decide) (by decide) (by decide) (by decide) (by decide) (by decide) (by decide) (by decide) (by decide) (by decide) (by decide) (by decide) (by decide), K' 29 (by decide) (by decide) (by decide) (by decide) (by decide) (by decide) (by decide) (by decide) (by decide) (by decide) (by decide) (by decide) (by decide), K' 70 (by decide) (by decide) (by decide) (by decide) (by decide) (by decide) (by decide) (by decide) (by decide) (by decide) (by decide) (by decide) (by decide), J 58 (by decide) (by decide) (by decide) (by decide) (by decide)]; exact g10
  · rw [J 20 (by decide) (by decide) (by decide) (by decide) (by decide)]; exact g11.1
  · intro k hk
    show Mr.2.1 k = M.2.1 k
    rw [dr.2.2.1 k (by omega) (by omega) (by omega)]; show Mc.2.1 k = M.2.1 k; rw [dc.2]
/-- a deed's outcome, in class and reference: refused alike, or done alike -/
abbrev Deed (Z : az_S × Nat) (B : Nat) (inF : Int32) (ls : Nat → sp_L) (M Mr : az_M) : Prop := (ClsAt Z B 1 inF ls (M.1 2) M) ∧ (RefAt Z B inF ls (M.1 2) Mr) ∧ (sp_past B (M.1 7 2) (M.1 7 3) (M.1 8) (M.1 9) (Mr.1 40 8) (Mr.1 46) (Mr.1 45)) ∧ (sp_wl B (M.1 2))
theorem Deed.cls {Z : az_S × Nat} {B : Nat} {inF : Int32} {ls : Nat → sp_L} {M Mr : az_M} (h : Deed Z B inF ls M Mr) : ClsAt Z B 1 inF ls (M.1 2) M := h.1
theorem Deed.ref {Z : az_S × Nat} {B : Nat} {inF : Int32} {ls : Nat → sp_L} {M Mr : az_M} (h : Deed Z B inF ls M Mr) : RefAt Z B inF ls (M.1 2) Mr := h.2.1
theorem Deed.past {Z : az_S × Nat} {B : Nat} {inF : Int32} {ls : Nat → sp_L} {M Mr : az_M} (h : Deed Z B inF ls M Mr) : sp_past B (M.1 7 2) (M.1 7 3) (M.1 8) (M.1 9) (Mr.1 40 8) (Mr.1 46) (Mr.1 45) := h.2.2.1
theorem Deed.wl {Z : az_S × Nat} {B : Nat} {inF : Int32} {ls : Nat → sp_L} {M Mr : az_M} (h : Deed Z B inF ls M Mr) : sp_wl B (M.1 2) := h.2.2.2
theorem p_court {B : Nat} {N : Nat → Int32} (h : sp_rg B N) {k : Nat} (hk : k < 10) : ∃ c, N (73 + k) = nI c ∧ c ≤ 1 := by
  obtain ⟨c, h1, _, h2⟩ := (h.2.2.2.2.2.1 k hk).2.1.nat (by decide) (by decide)
  exact ⟨c, h1, by omega⟩
/-- both keep -/
theorem Deed.keep {Z : az_S × Nat} {B : Nat} {inF : Int32} {ls : Nat → sp_L} {M Mr : az_M} (D : Deed Z B inF ls M Mr) {v : Nat} (hv : v ≤ 2) : ∃ M' Mr', f_X3_keep 7 1 (nI v) M = some M' ∧ f_X12_remember sp_G (nI v) Mr = some Mr' ∧ Deed Z B inF ls M' Mr' ∧ M'.1 2 = M.1 2 ∧ sp_dc M M' ∧ sp_dr Mr Mr' ∧ (∀ k, k ≠ 7 → k ≠ 8 → k ≠ 9 → M'.1 k = M.1 k) ∧ Mr'.2 = Mr.2 := by
  have hu := D.past
  obtain ⟨e, c, he, hc, e1, e2, e3⟩ := D.past.nat
  rw [e1, e2, e3] at hu
  obtain ⟨M1, e', c', s, f1, b1, b2, b3, b4, b5, b6, b7⟩ := p_keep e1 e2 he hc (nI v)
  obtain ⟨M2, d', f3, i1, i2, i3, i4, i5⟩ := p_rem e3 hc (nI v)
  have r2 : M1.1 2 = M.1 2 := b1 2 (by decide) (by decide) (by decide)
  have r42 : M2.1 42 = Mr.1 42 := i1 42 (by decide) (by decide) (by decide)
  refine ⟨M1, M2, f1, f3, ⟨?_, ?_, ?_, ?_⟩, r2, ⟨fun k h2 h7 h8 h9 _ _ _ => b1 k h7 h8 h9, b2⟩, ⟨fun k h1 _ h3 h4 => i1 k h1 h3 h4, fun j h _ _ => i2 j h, fun k _ _ _ => by rw [i3], by rw [i3], fun j _ => by rw [r42]⟩, b1, i3⟩
  · rw [r2]
    exact D.cls.to (b1 3 (by decide) (by decide) (by decide)) (fun k hk => b1 k (by omega) (by omega) (by omega)) (by rw [b2]) (by rw [r2]) D.cls.rg D.cls.hB (by decide)
  · rw [r2]
    obtain ⟨bk, h20, pr, rg, hB⟩ := D.ref
    exact ⟨by rw [r42]; exact bk, by rw [i2 20 (by decide)]; exact h20, by rw [r42]; exact pr, rg, hB⟩
  · rw [b3, b4, i4]
    exact past_push hu he hc D.ref.pr D.cls.rg (by rw [sp_in_nI (by omega)]; omega) b5 b6 b7 i5
  · rw [r2]; exact D.wl
/-- both shoot -/
theorem Deed.shoot {Z : az_S × Nat} {B : Nat} {inF : Int32} {ls : Nat → sp_L} {M Mr : az_M} (D : Deed Z B inF ls M Mr) (hB : B + 1 ≤ 1000000000) {k q c : Nat} (hk : k < 10) (hq : q < 12) (hc : M.1 2 (73 + k) = nI c) (hc1 : c ≤ 1) : ∃ M' Mr', f_X8_shoot Z sp_G 1 (nI k) (nI q) M = some M' ∧ f_X12_shoot sp_G (nI c) (nI q) Mr = some Mr' ∧ Deed Z (B + 1) inF ls M' Mr' ∧ M'.1 2 = sp_fire (sp_law inF ls) (M.1 2) c q ∧ sp_dc M M' ∧ sp_fq Mr Mr' ∧ (∀ k, k ≠ 14 → k ≠ 20 → k ≠ 2 → M'.1 k = M.1 k) := by
  obtain ⟨M1, f1, r1, b1, b2⟩ := p_shoot1 D.cls hq hk hc hc1
  obtain ⟨M2, f2, p2, q2⟩ := r_shoot D.ref hq hc1
  obtain ⟨rg, wl⟩ := fire_rg D.cls.rg D.wl hB (sp_law inF ls) hq hc1
  have r1' : M1.1 2 = sp_fire (sp_law inF ls) (M.1 2) c q := r1
  refine ⟨M1, M2, f1, f2, ⟨?_, ?_, ?_, ?_⟩, r1, ⟨fun k h2 _ _ _ h14 _ h20 => b1 k h14 h20 h2, b2⟩, q2, fun k h1 h2 h3 => b1 k h1 h2 h3⟩
  · rw [r1']
    exact D.cls.to (b1 3 (by decide) (by decide) (by decide)) (fun k hk => b1 k (by omega) (by omega) (by omega)) (by rw [b2]) r1 rg hB (by decide)
  · rw [r1']; exact D.ref.fq q2 p2 rg hB
  · rw [b1 7 (by decide) (by decide) (by decide), b1 8 (by decide) (by decide) (by decide), b1 9 (by decide) (by decide) (by decide), q2.2.1 8 (by decide) (by decide), q2.1 46 (by decide) (by decide), q2.1 45 (by decide) (by decide)]
    exact D.past.mono (Nat.le_succ B)
  · rw [r1']; exact wl
theorem Deed.asked {Z : az_S × Nat} {B : Nat} {inF : Int32} {ls : Nat → sp_L} {M M' Mr Mr' : az_M} (D : Deed Z B inF ls M Mr) (f : sp_cf M M') (g : sp_fr Mr Mr') : Deed Z B inF ls M' Mr' := by
  have r2 : M'.1 2 = M.1 2 := f.1 2 (by decide) (by decide)
  refine ⟨?_, ?_, ?_, ?_⟩
  · rw [r2]; exact D.cls.cf f
  · rw [r2]; exact D.ref.fr g
  · rw [f.1 7 (by decide) (by decide), f.1 8 (by decide) (by decide), f.1 9 (by decide) (by decide), g.2.1 8 (by decide) (by decide), g.1 46 (by decide), g.1 45 (by decide)]
    exact D.past
  · rw [r2]; exact D.wl
theorem Deed.mono {Z : az_S × Nat} {B B' : Nat} {inF : Int32} {ls : Nat → sp_L} {M Mr : az_M} (D : Deed Z B inF ls M Mr) (h : B ≤ B') (hB : B' ≤ 1000000000) : Deed Z B' inF ls M Mr :=
  ⟨⟨D.cls.bk, D.cls.inF, D.cls.row, D.cls.rg.mono h, hB, D.cls.ho⟩, ⟨D.ref.bk, D.ref.h20, D.ref.pr, D.ref.rg.mono h, hB⟩, D.past.mono h, D.wl.mono h⟩
