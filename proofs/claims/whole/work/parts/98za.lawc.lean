/-! BOTH READERS: a clause of a law -/
def lawC (C D : Nat → Int32) (k n' : Nat) (x : sp_C) : Prop := ∃ a0 a1 a2 kk kk', (D (6 * k) = x.1 ∧ D (6 * k + 2) = nI a0 ∧ D (6 * k + 3) = nI a1 ∧ D (6 * k + 4) = nI a1 ∧ D (6 * k + 5) = nI a2) ∧ (a0 ≤ a1 ∧ a1 ≤ a2 ∧ a2 ≤ n' ∧ kk ≤ 50 ∧ kk' ≤ 50) ∧ cS0 11 C a0 a1 kk x.2.2 ∧ cS0 11 C a1 a2 kk' x.2.1
def lawR (Op Ar D : Nat → Int32) (k m' : Nat) (x : sp_C) : Prop := ∃ b0 b1 b2 kk kk', (D (8 * k) = x.1 ∧ D (8 * k + 3) = nI b0 ∧ D (8 * k + 4) = nI b1 ∧ D (8 * k + 5) = nI b1 ∧ D (8 * k + 6) = nI b2) ∧ (b0 ≤ b1 ∧ b1 ≤ b2 ∧ b2 ≤ m' ∧ kk ≤ 50 ∧ kk' ≤ 50) ∧ (if x.1 = 4 then x.2.2 = (fun _ => some 1) else rSeg 0 Op Ar b0 b1 kk x.2.2) ∧ rS0 0 Op Ar b1 b2 kk' x.2.1
def lawOk (x : sp_C) : Prop := (x.1 = 0 ∨ x.1 = 1 ∨ x.1 = 2 ∨ x.1 = 3 ∨ x.1 = 4) ∧ is01 x.2.1 ∧ sok 11 x.2.2
theorem lawC.cong {C D C' D' : Nat → Int32} {k n' n'' : Nat} {x : sp_C} (h : lawC C D k n' x) (hn : n' ≤ n'') (hC : ∀ j, j < n' → C' j = C j) (hD : ∀ j, j < 6 * (k + 1) → D' j = D j) : lawC C' D' k n'' x := by
  obtain ⟨a0, a1, a2, kk, kk', ⟨d1, d2, d3, d4, d5⟩, ⟨b1, b2, b3, b4, b5⟩, s1, s2⟩ := h
  exact ⟨a0, a1, a2, kk, kk', ⟨by rw [hD _ (by omega)]; exact d1, by rw [hD _ (by omega)]; exact d2, by rw [hD _ (by omega)]; exact d3, by rw [hD _ (by omega)]; exact d4, by rw [hD _ (by omega)]; exact d5⟩, ⟨b1, b2, by omega, b4, b5⟩, s1.cong (fun j _ hj => hC j (by omega)), s2.cong (fun j _ hj => hC j (by omega))⟩
theorem lawR.cong {Op Ar D Op' Ar' D' : Nat → Int32} {k n' n'' : Nat} {x : sp_C} (h : lawR Op Ar D k n' x) (hn : n' ≤ n'') (hC : ∀ j, j < n' → Op' j = Op j ∧ Ar' j = Ar j) (hD : ∀ j, j < 8 * (k + 1) → D' j = D j) : lawR Op' Ar' D' k n'' x := by
  obtain ⟨a0, a1, a2, kk, kk', ⟨d1, d2, d3, d4, d5⟩, ⟨b1, b2, b3, b4, b5⟩, s1, s2⟩ := h
  refine ⟨a0, a1, a2, kk, kk', ⟨by rw [hD _ (by omega)]; exact d1, by rw [hD _ (by omega)]; exact d2, by rw [hD _ (by omega)]; exact d3, by rw [hD _ (by omega)]; exact d4, by rw [hD _ (by omega)]; exact d5⟩, ⟨b1, b2, by omega, b4, b5⟩, ?_, s2.cong (fun j _ hj => hC j (by omega))⟩
  by_cases h4 : x.1 = 4
  · rw [if_pos h4] at s1 ⊢; exact s1
  · rw [if_neg h4] at s1 ⊢; exact s1.cong (fun j _ hj => hC j (by omega))
theorem p_findK {T : Nat → Nat} {L i a n : Nat} {M : az_M} {β : Type} (ha : a < 11) (hk : tokR T L i M) (hn : (wtab a).length = n) (f : Nat → Int32 → Int32 → az_M → Option β) (g : Nat → Int32) (E : Int32 → Option β)
    (hs : ∀ F x k, k < n → f (F + 1) x (nI k) M = (f_X12_isWord (lN (whash ((wtab a).getD k []))) M).bind fun q => if q = 0 then f F x (nI (k + 1)) M else f F (g k) (nI (k + 1)) M) (he : ∀ F x, f (F + 1) x (nI n) M = E x) :
    ∀ (e k F : Nat) (x : Int32), k + e = n → e < F → f F x (nI k) M = E (if tkd T L i = 1 ∧ tw T L i ∈ (wtab a).drop k then g (((wtab a).idxOf (tw T L i))) else x) := by
  intro e
  induction e with
  | zero =>
    intro k F x hk' hF
    obtain ⟨F, rfl⟩ : ∃ F1, F = F1 + 1 := ⟨F - 1, by omega⟩
    rw [show k = n by omega, he, List.drop_eq_nil_of_le (by omega), if_neg (by simp)]
  | succ e ih =>
    intro k F x hk' hF
    obtain ⟨F, rfl⟩ : ∃ F1, F = F1 + 1 := ⟨F - 1, by omega⟩
    have hkl : k < (wtab a).length := by omega
    have hd : (wtab a).drop k = (wtab a)[k] :: (wtab a).drop (k + 1) := List.drop_eq_getElem_cons hkl
    have hg : (wtab a).getD k [] = (wtab a)[k] := by rw [List.getD_eq_getElem?_getD, List.getElem?_eq_getElem hkl]; rfl
    have hl := wt_let a ha (wtab a)[k] (List.getElem_mem hkl)
    rw [hs F x k (by omega), hg, p_wordR hk hl.2.2 hl.1, Option.bind_some, ih (k + 1) F x (by omega) (by omega), ih (k + 1) F (g k) (by omega) (by omega), hd]
    have nd := wt_dup a ha
    have ndd : ((wtab a).drop k).Nodup := nd.sublist (List.drop_sublist k _)
    rw [hd, List.nodup_cons] at ndd
    by_cases h1 : tkd T L i = 1
    · by_cases hw : tw T L i = (wtab a)[k]
      · have hidx : (wtab a).idxOf (tw T L i) = k := by
          rw [hw]; exact nd.idxOf_getElem k hkl
        rw [if_pos (show tkd T L i = 1 ∧ tw T L i = (wtab a)[k] from ⟨h1, hw⟩), if_neg (by decide), if_neg (show ¬ (tkd T L i = 1 ∧ tw T L i ∈ (wtab a).drop (k + 1)) from fun e => ndd.1 (hw ▸ e.2)), if_pos ⟨h1, by rw [hw]; exact List.mem_cons_self⟩, hidx]
      · rw [if_neg (show ¬ (tkd T L i = 1 ∧ tw T L i = (wtab a)[k]) from fun e => hw e.2), if_pos rfl]
        by_cases hm : tw T L i ∈ (wtab a).drop (k + 1)
        · rw [if_pos ⟨h1, hm⟩, if_pos ⟨h1, List.mem_cons_of_mem _ hm⟩]
        · rw [if_neg (fun e => hm e.2), if_neg (fun e => (List.mem_cons.mp e.2).elim hw hm)]
    · rw [if_neg (show ¬ (tkd T L i = 1 ∧ tw T L i = (wtab a)[k]) from fun e => h1 e.1), if_pos rfl, if_neg (fun e => h1 e.1), if_neg (fun e => h1 e.1)]
/-- the reference finds a law's head -/
theorem r_lawHead {T : Nat → Nat} {L o i c m : Nat} {M : az_M} (h : RB T L o i c m M) : f_X12_readLaw sp_G M = (if wx T L i 0 = -1 then f_X12_readLaw_53 sp_G (wx T L i 0) M else if 12 ≤ M.1 40 21 then f_X12_readLaw_53 sp_G (wx T L i 0) M else f_X12_readLaw_54 sp_G (wx T L i 0) 1 M) := by
  have := p_findK (a := 0) (n := 5) (by decide) h.1.2 rfl (fun F x k M => f_X12_readLaw_4 sp_G F x k M) (fun k => nI k) (fun x => if x = -1 then f_X12_readLaw_53 sp_G x M else if 12 ≤ M.1 40 21 then f_X12_readLaw_53 sp_G x M else f_X12_readLaw_54 sp_G x 1 M) (fun F x k hk => by
    show f_X12_readLaw_4 sp_G (F + 1) x (nI k) M = _
    rw [f_X12_readLaw_4, if_neg (by rw [show (5 : Int32) = nI 5 from rfl, n_le (by omega) (by omega)]; omega), if_neg (nI_in (by omega) (by decide)), n_cl (by omega), h.2.2.2.2.2 k hk, rw_57 k hk]
    unfold f_X12_readLaw_27
    rw [show nI k + 1 = nI (k + 1) from (nI_succ k).symm]) (fun F x => by
    show f_X12_readLaw_4 sp_G (F + 1) x (nI 5) M = _
    rw [f_X12_readLaw_4, if_pos (by decide)]) 5 0 sp_G (-1) (by decide) (by decide)
  unfold f_X12_readLaw
  rw [wx_idx (by decide)]
  exact this
theorem sok_one {wl : Nat} : sok wl (fun _ => some 1) := by
  intro e v _ hv
  injection hv with hv
  rw [← hv]; decide
/-- the reference wipes a clause's places -/
theorem r_wipe {k : Nat} (hk : k < 12) (hd : Int32) : ∀ (e x F : Nat) (M : az_M), x + e = 8 → e < F → ∃ M', f_X12_readLaw_75 sp_G F hd (nI (8 * k)) (nI x) M = f_X12_readLaw_75 sp_G (F - e) hd (nI (8 * k)) (nI 8) M' ∧ (∀ a, a ≠ 50 → M'.1 a = M.1 a) ∧ (∀ j, j < 8 * k → M'.1 50 j = M.1 50 j) ∧ M'.2 = M.2 := by
  intro e
  induction e with
  | zero => intro x F M hx hF; exact ⟨M, by rw [show x = 8 by omega]; rfl, fun _ _ => rfl, fun _ _ => rfl, rfl⟩
  | succ e ih =>
    intro x F M hx hF
    obtain ⟨F, rfl⟩ : ∃ F1, F = F1 + 1 := ⟨F - 1, by omega⟩
    obtain ⟨M', a1, a2, a3, a4⟩ := ih (x + 1) F (az_i M 50 (8 * k + x) 0) (by omega) (by omega)
    refine ⟨M', ?_, fun a ha => by rw [a2 a ha, gi_k ha], fun j hj => by rw [a3 j hj, gi, if_pos rfl, if_neg (by omega)], by rw [a4]; rfl⟩
    rw [f_X12_readLaw_75, if_neg (by rw [show (8 : Int32) = nI 8 from rfl, n_le (by omega) (by omega)]; omega), n_add, if_neg (nI_in (by omega) (by omega)), n_cl (by omega), show nI x + 1 = nI (x + 1) from (nI_succ x).symm, a1, show F + 1 - (e + 1) = F - e by omega]
