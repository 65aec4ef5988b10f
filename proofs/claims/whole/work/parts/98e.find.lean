/-! queue(): the reference's own search -/
def fu : Nat → Nat
  | 0 => 0
  | d + 1 => 8 + (d + 1) * fu d
def orF (k : Nat) (M M' : az_M) : Prop := (∀ i, i ≠ 40 → i ≠ 42 → i ≠ 62 → i ≠ 63 → i ≠ 64 → i ≠ 65 → M'.1 i = M.1 i) ∧ (∀ j, j ≠ 34 → j ≠ 38 → j ≠ 47 → j ≠ 48 → M'.1 40 j = M.1 40 j) ∧ (∀ i, i ≠ 40 → i ≠ 58 → i ≠ 60 → M'.2.1 i = M.2.1 i) ∧ M'.2.2 = M.2.2 ∧ (∀ i, i < k → M'.1 62 i = M.1 62 i) ∧ ∀ j, j < 150 * k → M'.1 65 j = M.1 65 j
theorem orF.refl (k : Nat) (M : az_M) : orF k M M := ⟨fun _ _ _ _ _ _ _ => rfl, fun _ _ _ _ _ => rfl, fun _ _ _ _ => rfl, rfl, fun _ _ => rfl, fun _ _ => rfl⟩
theorem orF.trans {k : Nat} {M M' M'' : az_M} (h : orF k M M') (g : orF k M' M'') : orF k M M'' :=
  ⟨fun i a b c d e f => (g.1 i a b c d e f).trans (h.1 i a b c d e f), fun j a b c d => (g.2.1 j a b c d).trans (h.2.1 j a b c d), fun i a b c => (g.2.2.1 i a b c).trans (h.2.2.1 i a b c), g.2.2.2.1.trans h.2.2.2.1, fun i a => (g.2.2.2.2.1 i a).trans (h.2.2.2.2.1 i a), fun j a => (g.2.2.2.2.2 j a).trans (h.2.2.2.2.2 j a)⟩
theorem orF.mono {k k' : Nat} {M M' : az_M} (h : orF k M M') (hk : k' ≤ k) : orF k' M M' := ⟨h.1, h.2.1, h.2.2.1, h.2.2.2.1, fun i hi => h.2.2.2.2.1 i (by omega), fun j hj => h.2.2.2.2.2 j (by omega)⟩
theorem sp_fq.or {M M' : az_M} (h : sp_fq M M') (k : Nat) : orF k M M' := ⟨fun i a b _ _ _ _ => h.1 i a b, fun j a b _ _ => h.2.1 j a b, fun i a b c => h.2.2.1 i a b c, h.2.2.2.2.1, fun i _ => by rw [h.1 62 (by decide) (by decide)], fun j _ => by rw [h.1 65 (by decide) (by decide)]⟩
theorem orF_42 (k : Nat) (M : az_M) (f : Nat → Int32) : orF k M (ro M 42 f) := ⟨fun i _ a _ _ _ _ => ro_ne a, fun j _ _ _ _ => by rw [ro_ne (by decide)], fun _ _ _ _ => rfl, rfl, fun i _ => by rw [ro_ne (by decide)], fun j _ => by rw [ro_ne (by decide)]⟩
theorem orF_62 {k i : Nat} (M : az_M) (v : Int32) (h : k ≤ i) : orF k M (az_i M 62 i v) := ⟨fun x _ _ a _ _ _ => gi_k a, fun j _ _ _ _ => by rw [gi_k (by decide)], fun _ _ _ _ => rfl, rfl, fun x hx => by rw [gi, if_pos rfl, if_neg (by omega)], fun j _ => by rw [gi_k (by decide)]⟩
def brX (n k F : Nat) (M : az_M) : Option az_M := (if (nI n - 1) ≤ nI k then f_X12_findOrders_132 sp_G (f_X12_findOrders_41 sp_G F) (nI n) (nI k) 1 M else ((f_X12_keepWait sp_G (nI k + 1) M).bind fun q19 => (if (nI k + 1) < 0 ∨ 7 ≤ (nI k + 1).toNatClampNeg then none else f_X12_findOrders_146 sp_G (f_X12_findOrders_41 sp_G F) (nI n) (nI k + 1) (az_i q19 62 ((nI k + 1).toNatClampNeg) (-1)))))
def toR (pre : List Nat) (L : List (List Nat × Int32)) : List (List Nat × Int32) := L.map (fun x => (pre ++ x.1, x.2))
theorem r_level {Z : az_S × Nat} {inF : Int32} {ls : Nat → sp_L} {n : Nat} (hn : n ≤ 7) {d k B had : Nat} {Nc N R : Nat → Int32} {pre : List Nat} (hkn : k + (d + 1) = n) (wl : sp_wl B N) (sm : sp_sim Nc N) (hB : B + 8 * (d + 1) ≤ 1000000000) (h25 : N 25 = nI n) (hpre : pre.length = k) (hp7 : ∀ p, p ∈ pre → p < 7) (hhad : ∀ p, p < 7 → (had.testBit p = true ↔ p ∈ pre))
    (desc : ∀ (q : Nat) (Nc' N' : Nat → Int32) (Ls : List (List Nat × Int32)) (M1 : az_M) (F : Nat), q < n → had.testBit q = false → RefAt Z (B + 8) inF ls N' M1 → sp_wl (B + 8) N' → sp_sim Nc' N' → N' 25 = nI n → M1.1 62 k = nI q → (∀ i x, pre[i]? = some x → M1.1 62 i = nI x) → (∀ j, j < 150 → M1.1 65 (150 * k + j) = R j) → (∀ j, 150 ≤ j → M1.1 42 j = R j) → ordS M1 Ls → (Ls ++ toR pre ((sp_rows (sp_law inF ls) d (rem n (had ||| 2 ^ q)) Nc').map (fun x => (q :: x.1, x.2)))).length ≤ 1000000 → fu d ≤ F →
      ∃ F' M2, F ≤ F' + fu d ∧ brX n k F M1 = f_X12_findOrders_41 sp_G F' (nI n) (nI k) M2 ∧ orF (k + 1) M1 M2 ∧ M2.1 42 = R ∧ ordS M2 (Ls ++ toR pre ((sp_rows (sp_law inF ls) d (rem n (had ||| 2 ^ q)) Nc').map (fun x => (q :: x.1, x.2))))) :
    ∀ (c q F : Nat), q + c = n → ∀ (Ls : List (List Nat × Int32)) (M : az_M), c + 1 + ((List.range' q c).filter (fun q => !had.testBit q)).length * fu d ≤ F → RefAt Z B inF ls N M → M.1 42 = R → (∀ j, j < 150 → M.1 65 (150 * k + j) = R j) → M.1 62 k = nI q - 1 → (∀ i x, pre[i]? = some x → M.1 62 i = nI x) → ordS M Ls → (Ls ++ toR pre (((List.range' q c).filter (fun q => !had.testBit q)).flatMap (sp_kid (sp_law inF ls) n had d Nc))).length ≤ 1000000 →
      ∃ F' M', F ≤ F' + (c + 1 + ((List.range' q c).filter (fun q => !had.testBit q)).length * fu d) ∧ f_X12_findOrders_41 sp_G F (nI n) (nI k) M = f_X12_findOrders_41 sp_G F' (nI n) (nI k - 1) M' ∧ orF k M M' ∧ M'.1 42 = cpy (M.1 65) R (150 * (k - 1)) 0 150 ∧ ordS M' (Ls ++ toR pre (((List.range' q c).filter (fun q => !had.testBit q)).flatMap (sp_kid (sp_law inF ls) n had d Nc))) := by
  have em1 : ∀ k : Nat, nI k + (-1) = nI k - 1 := fun k => by rw [Int32.sub_eq_add_neg]
  have ep1 : ∀ q : Nat, nI q - 1 + 1 = nI q := fun q => by rw [Int32.sub_add_cancel]
  have os : ∀ (X Y : az_M) (Ls : List (List Nat × Int32)), X.1 63 = Y.1 63 → X.1 64 = Y.1 64 → X.1 40 47 = Y.1 40 47 → X.1 40 48 = Y.1 40 48 → ordS Y Ls → ordS X Ls := fun X Y Ls a b c d h => by unfold ordS; rw [a, b, c, d]; exact h
  intro c
  induction c with
  | zero =>
    intro q F hq Ls M hF RM h42 h65 h62 hpr hS hL
    obtain ⟨F, rfl⟩ : ∃ F1, F = F1 + 1 := ⟨F - 1, by omega⟩
    have hqn : q = n := by omega
    rw [f_X12_findOrders_41, if_neg (nI_pos (by omega)), if_neg (nI_in (by omega) (by decide)), if_neg (nI_in (by omega) (by decide)), if_neg (nI_in (by omega) (by decide)), n_cl (by omega), h62, ep1, gi, if_pos rfl, if_pos rfl, if_pos (by rw [hqn]), em1]
    unfold f_X12_findOrders_78
    generalize hY : az_i M 62 k (nI q) = Y
    have yk : ∀ i, i ≠ 62 → Y.1 i = M.1 i := fun i h => by rw [← hY, gi_k h]
    have fY : orF k M Y := by rw [← hY]; exact orF_62 M _ (Nat.le_refl k)
    have put : ∀ s, s ≤ 7 → s = k - 1 → ∃ F' M', F + 1 ≤ F' + (0 + 1 + ((List.range' q 0).filter (fun q => !had.testBit q)).length * fu d) ∧ ((f_X12_putWait sp_G (nI s) Y).bind fun q23 => f_X12_findOrders_41 sp_G F (nI n) (nI k - 1) q23) = f_X12_findOrders_41 sp_G F' (nI n) (nI k - 1) M' ∧ orF k M M' ∧ M'.1 42 = cpy (M.1 65) R (150 * (k - 1)) 0 150 ∧ ordS M' (Ls ++ toR pre (((List.range' q 0).filter (fun q => !had.testBit q)).flatMap (sp_kid (sp_law inF ls) n had d Nc))) := by
      intro s hs hsk
      rw [p_putWait hs, Option.bind_some]
      refine ⟨F, _, by simp, rfl, fY.trans (orF_42 k Y _), ?_, ?_⟩
      · rw [ro_eq, yk 65 (by decide), yk 42 (by decide), h42, hsk]
      · rw [show List.range' q 0 = [] from rfl, List.filter_nil, List.flatMap_nil, show toR pre [] = [] from rfl, List.append_nil]
        exact os _ _ _ (by rw [ro_ne (by decide), yk 63 (by decide)]) (by rw [ro_ne (by decide), yk 64 (by decide)]) (by rw [ro_ne (by decide), yk 40 (by decide)]) (by rw [ro_ne (by decide), yk 40 (by decide)]) hS
    by_cases h0 : k = 0
    · rw [if_neg (by rw [h0]; decide)]
      exact put 0 (by omega) (by omega)
    · obtain ⟨k', rfl⟩ : ∃ k', k = k' + 1 := ⟨k - 1, by omega⟩
      have hp := put k' (by omega) (by omega)
      rw [nI_pred] at hp ⊢
      rw [if_pos (nI_pos' (by omega))]
      exact hp
  | succ c ihc =>
    intro q F hq Ls M hF RM h42 h65 h62 hpr hS hL
    obtain ⟨F, rfl⟩ : ∃ F1, F = F1 + 1 := ⟨F - 1, by omega⟩
    rw [f_X12_findOrders_41, if_neg (nI_pos (by omega)), if_neg (nI_in (by omega) (by decide)), if_neg (nI_in (by omega) (by decide)), if_neg (nI_in (by omega) (by decide)), n_cl (by omega), h62, ep1, gi, if_pos rfl, if_pos rfl, if_neg (by rw [n_eq (by omega) (by omega)]; omega)]
    generalize hY : az_i M 62 k (nI q) = Y
    have yk : ∀ i, i ≠ 62 → Y.1 i = M.1 i := fun i h => by rw [← hY, gi_k h]
    have fY : orF k M Y := by rw [← hY]; exact orF_62 M _ (Nat.le_refl k)
    have Y62 : Y.1 62 k = nI q := by rw [← hY, gi, if_pos rfl, if_pos rfl]
    have Ypr : ∀ i x, pre[i]? = some x → Y.1 62 i = nI x := fun i x h => by
      have := (List.getElem?_eq_some_iff.mp h).1
      rw [fY.2.2.2.2.1 i (by omega)]; exact hpr i x h
    have hq1 : nI q = nI (q + 1) - 1 := (nI_pred q).symm
    rw [p_isFresh (q := q) (pre := pre) (by omega) (by omega) hpre hp7 Ypr Y62, Option.bind_some]
    rw [List.range'_succ, List.filter_cons] at hF hL ⊢
    have RY : RefAt Z B inF ls N Y := ⟨by rw [yk 42 (by decide)]; exact RM.bk, by rw [yk 40 (by decide)]; exact RM.h20, by rw [yk 42 (by decide)]; exact RM.pr, RM.rg, RM.hB⟩
    have RX : ∀ X : az_M, X.1 42 = M.1 42 → X.1 40 20 = M.1 40 20 → RefAt Z B inF ls N X := fun X a b => ⟨by rw [a]; exact RM.bk, by rw [b]; exact RM.h20, by rw [a]; exact RM.pr, RM.rg, RM.hB⟩
    by_cases hbit : had.testBit q = true
    · rw [if_pos ((hhad q (by omega)).mp hbit), if_pos rfl]
      rw [hbit, if_neg (by decide)] at hF hL ⊢
      obtain ⟨F', M', a1, a2, a3, a4, a5⟩ := ihc (q + 1) F (by omega) Ls Y (by omega) RY (by rw [yk 42 (by decide)]; exact h42) (fun j hj => by rw [yk 65 (by decide)]; exact h65 j hj) (Y62.trans hq1) Ypr (os Y M Ls (yk 63 (by decide)) (yk 64 (by decide)) (by rw [yk 40 (by decide)]) (by rw [yk 40 (by decide)]) hS) hL
      exact ⟨F', M', by omega, a2, fY.trans a3, by rw [a4, yk 65 (by decide)], a5⟩
    · have hbf : had.testBit q = false := by simpa using hbit
      rw [if_neg (fun e => hbit ((hhad q (by omega)).mpr e)), if_neg (show ¬ (1 : Int32) = 0 by decide), if_neg (show ¬ (nI k < 0 ∨ 7 ≤ k) from fun e => e.elim (nI_pos (by omega)) (by omega))]
      rw [hbf, if_pos (show (!false) = true from rfl), List.length_cons, Nat.succ_mul] at hF
      rw [hbf, if_pos (show (!false) = true from rfl), List.flatMap_cons] at hL
      rw [hbf, if_pos (show (!false) = true from rfl), List.length_cons, Nat.succ_mul, List.flatMap_cons]
      obtain ⟨r, M1, s1, s2, s3, s4⟩ := r_had RY wl sm (q := q) (by rw [h25, n_cl (by omega)]; omega) (by omega)
      rw [s1, Option.bind_some]
      have m65 : M1.1 65 = M.1 65 := by rw [s2.1 65 (by decide) (by decide), yk 65 (by decide)]
      have m62 : ∀ i, M1.1 62 i = Y.1 62 i := fun i => by rw [s2.1 62 (by decide) (by decide)]
      have m42 : ∀ j, 150 ≤ j → M1.1 42 j = R j := fun j hj => by rw [s2.2.2.2.2.2 j (by omega), yk 42 (by decide), h42]
      have oS1 : ordS M1 Ls := os M1 M Ls (by rw [s2.1 63 (by decide) (by decide), yk 63 (by decide)]) (by rw [s2.1 64 (by decide) (by decide), yk 64 (by decide)]) (by rw [s2.2.1 47 (by decide) (by decide), yk 40 (by decide)]) (by rw [s2.2.1 48 (by decide) (by decide), yk 40 (by decide)]) hS
      cases hm : sp_miss (sp_law inF ls) Nc q with
      | none =>
        obtain rfl := s3 hm
        have hk0 : sp_kid (sp_law inF ls) n had d Nc q = [] := by unfold sp_kid; rw [hm]
        rw [hk0, List.nil_append] at hL ⊢
        rw [if_pos rfl]
        unfold f_X12_findOrders_132 f_X12_findOrders_141 f_X12_findOrders_146
        rw [if_pos rfl, p_putWait (by omega), Option.bind_some]
        generalize hX : ro M1 42 (cpy (M1.1 65) (M1.1 42) (150 * k) 0 150) = X
        have X42 : X.1 42 = R := by
          rw [← hX, ro_eq]
          funext j
          by_cases hj : j < 150
          · rw [cpy_in (by omega), m65, Nat.sub_zero]; exact h65 j hj
          · rw [cpy_out (by omega)]; exact m42 j (by omega)
        have fX : orF (k + 1) M1 X := by rw [← hX]; exact orF_42 _ _ _
        have fMX : orF k M X := fY.trans ((s2.or k).trans (fX.mono (by omega)))
        obtain ⟨F', M', a1, a2, a3, a4, a5⟩ := ihc (q + 1) F (by omega) Ls X (by omega) (RX X (X42.trans h42.symm) (fMX.2.1 20 (by decide) (by decide) (by decide) (by decide))) X42 (fun j hj => by rw [fX.2.2.2.2.2 _ (by omega), m65]; exact h65 j hj) (by rw [fX.2.2.2.2.1 k (by omega), m62, Y62]; exact hq1) (fun i x h => by rw [fX.2.2.2.2.1 i (by have := (List.getElem?_eq_some_iff.mp h).1; omega), m62]; exact Ypr i x h) (os X M1 Ls (by rw [← hX, ro_ne (by decide)]) (by rw [← hX, ro_ne (by decide)]) (by rw [← hX, ro_ne (by decide)]) (by rw [← hX, ro_ne (by decide)]) oS1) hL
        refine ⟨F', M', by omega, a2, fMX.trans a3, ?_, a5⟩
        rw [a4]
        funext j
        by_cases hj : j < 150
        · rw [cpy_in (by omega), cpy_in (by omega), fX.2.2.2.2.2 _ (by omega), m65]
        · rw [cpy_out (by omega), cpy_out (by omega)]
      | some Nc' =>
        obtain ⟨rfl, N', R', wl', sm', n25⟩ := s4 Nc' hm
        have hk1 : sp_kid (sp_law inF ls) n had d Nc q = (sp_rows (sp_law inF ls) d (rem n (had ||| 2 ^ q)) Nc').map (fun x => (q :: x.1, x.2)) := by unfold sp_kid; rw [hm]
        have htr : ∀ A B, toR pre (A ++ B) = toR pre A ++ toR pre B := fun A B => List.map_append
        rw [hk1, htr, ← List.append_assoc] at hL ⊢
        rw [if_neg (show ¬ (1 : Int32) = 0 by decide)]
        obtain ⟨F1, M2, b1, b2, b3, b4, b5⟩ := desc q Nc' N' Ls M1 F (by omega) hbf R' wl' sm' (n25.trans h25) ((m62 k).trans Y62) (fun i x h => (m62 i).trans (Ypr i x h)) (fun j hj => by rw [m65]; exact h65 j hj) m42 oS1 (by rw [List.length_append] at hL; omega) (by omega)
        have b2' : (if (nI n - 1) ≤ nI k then f_X12_findOrders_132 sp_G (f_X12_findOrders_41 sp_G F) (nI n) (nI k) 1 M1 else ((f_X12_keepWait sp_G (nI k + 1) M1).bind fun q19 => (if (nI k + 1) < 0 ∨ 7 ≤ (nI k + 1).toNatClampNeg then none else f_X12_findOrders_146 sp_G (f_X12_findOrders_41 sp_G F) (nI n) (nI k + 1) (az_i q19 62 ((nI k + 1).toNatClampNeg) (-1))))) = _ := b2
        rw [b2']
        have fM2 : orF k M M2 := fY.trans ((s2.or k).trans (b3.mono (by omega)))
        obtain ⟨F', M', a1, a2, a3, a4, a5⟩ := ihc (q + 1) F1 (by omega) _ M2 (by omega) (RX M2 (b4.trans h42.symm) (fM2.2.1 20 (by decide) (by decide) (by decide) (by decide))) b4 (fun j hj => by rw [b3.2.2.2.2.2 _ (by omega), m65]; exact h65 j hj) (by rw [b3.2.2.2.2.1 k (by omega), m62, Y62]; exact hq1) (fun i x h => by rw [b3.2.2.2.2.1 i (by have := (List.getElem?_eq_some_iff.mp h).1; omega), m62]; exact Ypr i x h) b5 hL
        refine ⟨F', M', by omega, a2, fM2.trans a3, ?_, a5⟩
        rw [a4]
        funext j
        by_cases hj : j < 150
        · rw [cpy_in (by omega), cpy_in (by omega), b3.2.2.2.2.2 _ (by omega), m65]
        · rw [cpy_out (by omega), cpy_out (by omega)]
theorem rem_lt {n had q : Nat} (h : q ∈ rem n had) : q < n ∧ had.testBit q = false := by
  obtain ⟨a, b⟩ := List.mem_filter.mp h
  exact ⟨List.mem_range.mp a, by simpa using b⟩
theorem r_orders {Z : az_S × Nat} {inF : Int32} {ls : Nat → sp_L} {n : Nat} (hn : n ≤ 7) : ∀ (d k : Nat), k + (d + 1) = n → ∀ (B : Nat) (Nc N R : Nat → Int32) (had : Nat) (pre : List Nat), sp_wl B N → sp_sim Nc N → B + 8 * (d + 1) ≤ 1000000000 → N 25 = nI n → pre.length = k → (∀ p, p ∈ pre → p < 7) → had < 128 → (∀ p, p < 7 → (had.testBit p = true ↔ p ∈ pre)) → (rem n had).length = d + 1 →
    ∀ (c q F : Nat), q + c = n → ∀ (Ls : List (List Nat × Int32)) (M : az_M), c + 1 + ((List.range' q c).filter (fun q => !had.testBit q)).length * fu d ≤ F → RefAt Z B inF ls N M → M.1 42 = R → (∀ j, j < 150 → M.1 65 (150 * k + j) = R j) → M.1 62 k = nI q - 1 → (∀ i x, pre[i]? = some x → M.1 62 i = nI x) → ordS M Ls → (Ls ++ toR pre (((List.range' q c).filter (fun q => !had.testBit q)).flatMap (sp_kid (sp_law inF ls) n had d Nc))).length ≤ 1000000 →
      ∃ F' M', F ≤ F' + (c + 1 + ((List.range' q c).filter (fun q => !had.testBit q)).length * fu d) ∧ f_X12_findOrders_41 sp_G F (nI n) (nI k) M = f_X12_findOrders_41 sp_G F' (nI n) (nI k - 1) M' ∧ orF k M M' ∧ M'.1 42 = cpy (M.1 65) R (150 * (k - 1)) 0 150 ∧ ordS M' (Ls ++ toR pre (((List.range' q c).filter (fun q => !had.testBit q)).flatMap (sp_kid (sp_law inF ls) n had d Nc))) := by
  intro d
  induction d with
  | zero =>
    intro k hkn B Nc N R had pre wl sm hB h25 hpre hp7 hh hhad hrem
    refine r_level hn hkn wl sm hB h25 hpre hp7 hhad ?_
    intro q Nc' N' Ls M1 F hq hbf R1 wl1 sm1 n25 h62 hpr h65 h42 hS hL hF
    unfold brX f_X12_findOrders_132 f_X12_findOrders_141 f_X12_findOrders_146
    rw [if_pos (by rw [show (1 : Int32) = nI 1 from rfl, n_sub (by omega), n_le (by omega) (by omega)]; omega), if_neg (by decide)]
    have w0 := R1.rg.1.1
    have hn0 : N' 0 = Nc' 0 := (sm1.at (j := 0) (by omega)).symm
    rw [sp_rows] at hL ⊢
    rw [List.length_append] at hL
    obtain ⟨M2, a1, a2, a3, a4, a5⟩ := p_keepOrder (n := n) (M := M1) (Ls := Ls) (r := pre ++ [q]) (w := Nc' 0) hn (by rw [List.length_append, hpre, List.length_singleton]; omega) (fun i x h => by
      by_cases hi : i < k
      · rw [List.getElem?_append_left (by omega)] at h; exact hpr i x h
      · rw [List.getElem?_append_right (by omega), hpre] at h
        have hik : i = k := by have := (List.getElem?_eq_some_iff.mp h).1; rw [List.length_singleton] at this; omega
        subst hik
        rw [Nat.sub_self] at h
        injection h with h
        rw [← h]; exact h62) (by rw [← R1.pr.1.1]; exact hn0) (by rw [← hn0]; exact w0.1) hS (by omega)
    rw [a1, Option.bind_some, p_putWait (by omega), Option.bind_some]
    refine ⟨F, _, Nat.le_add_right _ _, rfl, ⟨fun i h1 h2 h3 h4 h5 h6 => by rw [ro_ne h2, a3 i h1 h4 h5], fun j _ _ h1 h2 => by rw [ro_ne (by decide), a4 j h1 h2], fun i _ _ _ => by rw [ro_2, a5], by rw [ro_2, a5], fun i _ => by rw [ro_ne (by decide), a3 62 (by decide) (by decide) (by decide)], fun j _ => by rw [ro_ne (by decide), a3 65 (by decide) (by decide) (by decide)]⟩, ?_, ?_⟩
    · rw [ro_eq]
      funext j
      by_cases hj : j < 150
      · rw [cpy_in (by omega), a3 65 (by decide) (by decide) (by decide), Nat.sub_zero]; exact h65 j hj
      · rw [cpy_out (by omega), a3 42 (by decide) (by decide) (by decide)]; exact h42 j (by omega)
    · have : toR pre (List.map (fun x => (q :: x.1, x.2)) [(([] : List Nat), Nc' 0)]) = [(pre ++ [q], Nc' 0)] := rfl
      rw [this]
      unfold ordS
      rw [ro_ne (by decide), ro_ne (by decide), ro_ne (by decide)]
      exact a2
  | succ d ih =>
    intro k hkn B Nc N R had pre wl sm hB h25 hpre hp7 hh hhad hrem
    refine r_level hn hkn wl sm hB h25 hpre hp7 hhad ?_
    intro q Nc' N' Ls M1 F hq hbf R1 wl1 sm1 n25 h62 hpr h65 h42 hS hL hF
    unfold brX f_X12_findOrders_146
    rw [if_neg (by rw [show (1 : Int32) = nI 1 from rfl, n_sub (by omega), n_le (by omega) (by omega)]; omega), show nI k + 1 = nI (k + 1) from (nI_succ k).symm, p_keepWait (by omega), Option.bind_some, if_neg (nI_in (by omega) (by decide)), n_cl (by omega)]
    generalize hX : az_i (ro M1 65 (cpy (M1.1 42) (M1.1 65) 0 (150 * (k + 1)) 150)) 62 (k + 1) (-1) = X
    have xk : ∀ i, i ≠ 62 → i ≠ 65 → X.1 i = M1.1 i := fun i h1 h2 => by rw [← hX, gi_k h1, ro_ne h2]
    have x2 : X.2 = M1.2 := by rw [← hX]; rfl
    have x62 : ∀ i, i ≠ k + 1 → X.1 62 i = M1.1 62 i := fun i h => by rw [← hX, gi, if_pos rfl, if_neg h, ro_ne (by decide)]
    have x65 : X.1 65 = cpy (M1.1 42) (M1.1 65) 0 (150 * (k + 1)) 150 := by rw [← hX, gi_k (by decide), ro_eq]
    have fX : orF (k + 1) M1 X := ⟨fun i _ _ a _ _ b => xk i a b, fun j _ _ _ _ => by rw [xk 40 (by decide) (by decide)], fun i _ _ _ => by rw [x2], by rw [x2], fun i hi => x62 i (by omega), fun j hj => by rw [x65, cpy_out (by omega)]⟩
    have hlr := rem_len n (by omega) had hh q hq hbf
    have hh' := had_or hh (show q < 7 by omega)
    have hrem' : (rem n (had ||| 2 ^ q)).length = d + 1 := by omega
    have hrows : sp_rows (sp_law inF ls) (d + 1) (rem n (had ||| 2 ^ q)) Nc' = ((List.range' 0 n).filter (fun p => !(had ||| 2 ^ q).testBit p)).flatMap (sp_kid (sp_law inF ls) n (had ||| 2 ^ q) d Nc') := by
      rw [rows_kid, ← List.range_eq_range']; rfl
    have hfl : ((List.range' 0 n).filter (fun p => !(had ||| 2 ^ q).testBit p)).length = d + 1 := by rw [← List.range_eq_range']; exact hrem'
    have em : toR pre ((sp_rows (sp_law inF ls) (d + 1) (rem n (had ||| 2 ^ q)) Nc').map (fun x => (q :: x.1, x.2))) = toR (pre ++ [q]) (((List.range' 0 n).filter (fun p => !(had ||| 2 ^ q).testBit p)).flatMap (sp_kid (sp_law inF ls) n (had ||| 2 ^ q) d Nc')) := by
      rw [hrows]
      unfold toR
      rw [List.map_map]
      refine List.map_congr_left fun x _ => ?_
      show (pre ++ q :: x.1, x.2) = (pre ++ [q] ++ x.1, x.2)
      rw [List.append_assoc]; rfl
    rw [em] at hL ⊢
    have hfu : n + 1 + (d + 1) * fu d ≤ fu (d + 1) := by
      show n + 1 + (d + 1) * fu d ≤ 8 + (d + 1) * fu d
      omega
    obtain ⟨F', M2, a1, a2, a3, a4, a5⟩ := ih (k + 1) (by omega) (B + 8) Nc' N' (M1.1 42) (had ||| 2 ^ q) (pre ++ [q]) wl1 sm1 (by omega) n25 (by rw [List.length_append, hpre]; rfl) (fun p hp => by
      rcases List.mem_append.mp hp with h | h
      · exact hp7 p h
      · have := List.mem_singleton.mp h; omega) hh' (fun p hp => by
      rw [Nat.testBit_or, Nat.testBit_two_pow, List.mem_append, List.mem_singleton, Bool.or_eq_true, decide_eq_true_eq, hhad p hp]
      exact ⟨fun h => h.elim Or.inl (fun e => Or.inr e.symm), fun h => h.elim Or.inl (fun e => Or.inr e.symm)⟩) hrem' n 0 F (by omega) Ls X (by rw [hfl]; omega) ⟨by rw [xk 42 (by decide) (by decide)]; exact R1.bk, by rw [xk 40 (by decide) (by decide)]; exact R1.h20, by rw [xk 42 (by decide) (by decide)]; exact R1.pr, R1.rg, R1.hB⟩ (xk 42 (by decide) (by decide)) (fun j hj => by rw [x65, cpy_in (by omega)]; exact congrArg (M1.1 42) (by omega)) (by rw [← hX, gi, if_pos rfl, if_pos rfl]; rfl) (fun i x h => by
      by_cases hi : i < k
      · rw [List.getElem?_append_left (by omega)] at h; rw [x62 i (by omega)]; exact hpr i x h
      · rw [List.getElem?_append_right (by omega), hpre] at h
        have hik : i = k := by have := (List.getElem?_eq_some_iff.mp h).1; rw [List.length_singleton] at this; omega
        subst hik
        rw [Nat.sub_self] at h
        injection h with h
        rw [x62 i (by omega), ← h]; exact h62) (by unfold ordS; rw [xk 63 (by decide) (by decide), xk 64 (by decide) (by decide), xk 40 (by decide) (by decide)]; exact hS) hL
    rw [nI_pred] at a2
    rw [hfl] at a1
    refine ⟨F', M2, by omega, a2, fX.trans a3, ?_, a5⟩
    rw [a4, Nat.add_sub_cancel]
    funext j
    by_cases hj : j < 150
    · rw [cpy_in (by omega), x65, cpy_out (by omega), Nat.sub_zero]; exact h65 j hj
    · rw [cpy_out (by omega)]; exact h42 j (by omega)
