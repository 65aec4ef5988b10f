theorem p_in1 {k lo hi : Nat} (hk : k < 2147483648) (h1 : OfNat.ofNat lo ≤ k) (h2 : k ≤ OfNat.ofNat hi) (hl : OfNat.ofNat lo < 9223372036854775808) (hh : OfNat.ofNat hi < 9223372036854775808) (M : az_M) : f_X12_in (nI k).toInt64 (no_index (OfNat.ofNat lo)) (no_index (OfNat.ofNat hi)) M = some 1 := by
  rw [p_in, if_neg (by rw [l_ltr hl hk]; omega), if_neg (by rw [l_ltl hh hk]; omega)]
/-- an argument is within, or neither program takes it -/
theorem r_cases (p : Int32) (lo hi : Nat) (hl : lo < 2147483648) (hh : hi < 2147483648) : (∃ k, lo ≤ k ∧ k ≤ hi ∧ p = nI k) ∨ ((p < nI lo ∨ nI hi < p) ∧ ∀ M, f_X12_in p.toInt64 (OfNat.ofNat lo) (OfNat.ofNat hi) M = some 0) := by
  rcases n_cases p with h | ⟨k, hk, rfl⟩
  · refine Or.inr ⟨Or.inl ?_, fun M => ?_⟩
    · have := nI_pos' hl
      rw [Int32.lt_iff_toInt_lt] at h ⊢
      rw [Int32.le_iff_toInt_le] at this
      omega
    · rw [p_in, if_pos]
      have h1 := l_neg h
      have h2 : ((OfNat.ofNat lo : Int64)).toInt = (lo : Int) := l_lit (by omega)
      rw [Int64.lt_iff_toInt_lt] at h1 ⊢
      have : (0 : Int64).toInt = 0 := rfl
      omega
  · by_cases h1 : lo ≤ k
    · by_cases h2 : k ≤ hi
      · exact Or.inl ⟨k, h1, h2, rfl⟩
      · refine Or.inr ⟨Or.inr (by rw [n_lt hh hk]; omega), fun M => ?_⟩
        rw [p_in, if_neg (by rw [l_ltr (c := lo) (show lo < _ by omega) hk]; exact fun h => absurd (show k < lo from h) (by omega)), if_pos (by rw [l_ltl (c := hi) (show hi < _ by omega) hk]; exact (show hi < k by omega))]
    · refine Or.inr ⟨Or.inl (by rw [n_lt hk hl]; omega), fun M => ?_⟩
      rw [p_in, if_pos (by rw [l_ltr (c := lo) (show lo < _ by omega) hk]; exact (show k < lo by omega))]
theorem az_Inv.anew {m : Nat} {Z : az_S × Nat} {M M' : az_M} (h : az_Inv m Z M) (hp : sp_pr (M'.1 2) (M'.1 42)) (hg : sp_rg (sp_B (m + 1)) (M'.1 2))
    (hR : ∀ j, j = 4 ∨ j = 5 ∨ (150 ≤ j ∧ j < 5550) → M'.1 42 j = M.1 42 j)
    (e40 : M'.1 40 20 = M.1 40 20 ∧ M'.1 40 13 = M.1 40 13 ∧ M'.1 40 18 = M.1 40 18 ∧ M'.1 40 11 = M.1 40 11 ∧ M'.1 40 55 = M.1 40 55 ∧ M'.1 40 58 = M.1 40 58 ∧ M'.1 40 1 = 0 ∧ M'.1 40 8 = 0)
    (e0 : M'.1 0 12 = 0 ∧ M'.1 0 13 = M.1 0 13 ∧ M'.1 0 14 = M.1 0 14 ∧ M'.1 0 15 = M.1 0 15) (e7 : M'.1 7 3 = 0 ∧ M'.1 7 2 = M.1 7 2) (e34 : M'.1 34 13 = 0)
    (ek : ∀ k, k ≠ 0 ∧ k ≠ 2 ∧ k ≠ 7 ∧ k ≠ 34 ∧ k ≠ 40 ∧ k ≠ 42 → M'.1 k = M.1 k) (e2 : M'.2 = M.2) : az_Inv (m + 1) Z M' := by
  obtain ⟨g1, g2, g3, ⟨ls, g4, g4b⟩, g5, g6, g7, g8, g9, g10, g11⟩ := h.mono
  obtain ⟨a1, a2, a3, a4, a5, a6, a7, a8⟩ := e40
  obtain ⟨b1, b2, b3, b4⟩ := e0
  refine az_Inv.step h (by omega) ⟨hp, hg⟩ (by rw [ek 3 (by decide)]) (by rw [ek 3 (by decide)]) hR (fun k hk => ek k (by omega)) (by rw [e2]) (Or.inl e34) ?_ ⟨by rw [b1, a7], by rw [b2, a3]; exact g6.2.1, by rw [b3, a4]; exact g6.2.2.1, by rw [b4, a5]; exact g6.2.2.2⟩ ?_ ?_ (ek 43 (by decide)) (ek 44 (by decide)) ?_ (by rw [a1]; exact g11.1) (fun k _ => by rw [e2])
  · rw [ek 5 (by decide), ek 6 (by decide), ek 49 (by decide), a2]; exact g5
  · rw [ek 12 (by decide), ek 41 (by decide)]; exact g7
  · rw [e7.1, e7.2, a8]; exact sp_past.none g8.el
  · rw [ek 28 (by decide), ek 29 (by decide), ek 70 (by decide), a6]; exact g10
theorem t_refuse {m : Nat} {Z : az_S × Nat} {M : az_M} (h : az_Inv m Z M) {f g : az_M → Option (Int32 × az_M)} {v : Int32} {j j' : Nat} (hj : (j = 0 ∧ j' = 1) ∨ (j = 1 ∧ j' = 2) ∨ (j = 2 ∧ j' = 3) ∨ (j = 3 ∧ j' = 5) ∨ (j = 4 ∧ j' = 6)) (hf : f M = some (v, p_rc M v j)) (hg : ∀ M, g M = some (v, p_rf (az_i M 40 0 0) v j')) : ∃ (r : Int32) (M1 M2 : az_M), f M = some (r, M1) ∧ g M1 = some (r, M2) ∧ az_Inv (m + 1) Z M2 :=
  ⟨v, _, _, hf, hg _, h.refuse hj⟩
theorem t_put {m : Nat} {Z : az_S × Nat} {M : az_M} (h : az_Inv m Z M) {a v : Nat} (ha : a < 145 ∧ a ≠ 23 ∧ a ≠ 24 ∧ a ≠ 25 ∧ a < 93) (hv : v < 2147483648 ∧ sp_lo a ≤ v ∧ (v : Int) ≤ sp_hi (sp_B (m + 1)) a) : az_Inv (m + 1) Z (az_i (az_i (az_i (az_i (az_i (az_i (az_i (az_i M 2 a (nI v)) 7 3 0) 0 12 0) 34 13 0) 40 0 0) 40 8 0) 42 (sp_tr a) (nI v)) 40 1 0) := by
  obtain ⟨hp, hg⟩ := h.2.2.1
  have e2 : (az_i (az_i (az_i (az_i (az_i (az_i (az_i (az_i M 2 a (nI v)) 7 3 0) 0 12 0) 34 13 0) 40 0 0) 40 8 0) 42 (sp_tr a) (nI v)) 40 1 0).1 2 = up (M.1 2) a (nI v) := rfl
  have e42 : (az_i (az_i (az_i (az_i (az_i (az_i (az_i (az_i M 2 a (nI v)) 7 3 0) 0 12 0) 34 13 0) 40 0 0) 40 8 0) 42 (sp_tr a) (nI v)) 40 1 0).1 42 = up (M.1 42) (sp_tr a) (nI v) := rfl
  have ht := sp_tr_lt a (by omega)
  refine h.anew ?_ ?_ ?_ ⟨rfl, rfl, rfl, rfl, rfl, rfl, rfl, rfl⟩ ⟨rfl, rfl, rfl, rfl⟩ ⟨rfl, rfl⟩ rfl (fun q hq => ?_) rfl
  · rw [e2, e42]; exact hp.upd hg.q7 (by omega) rfl (by omega) _
  · rw [e2]; refine (hg.mono (sp_B_mono m)).upd (by omega) (fun _ => ?_)
    rw [sp_in_nI hv.1]; exact hv.2
  · intro j hj; rw [e42, up_ne (by omega)]
  · rw [gi_k (by omega), gi_k (by omega), gi_k (by omega), gi_k (by omega), gi_k (by omega), gi_k (by omega), gi_k (by omega), gi_k (by omega)]
theorem i_bad {α : Type} {p lo hi : Int32} {A B : α} (h : p < lo ∨ hi < p) : (if p < lo then A else if p ≤ hi then B else A) = A := by
  by_cases h1 : p < lo
  · rw [if_pos h1]
  · rw [if_neg h1, if_neg]
    have := h.resolve_left h1
    rw [Int32.lt_iff_toInt_lt] at this
    rw [Int32.le_iff_toInt_le]; omega
theorem i_bad' {α : Type} {p lo hi : Int32} {A B : α} (h : p < lo ∨ hi < p) : (if p < lo then A else if hi < p then A else B) = A := by
  by_cases h1 : p < lo
  · rw [if_pos h1]
  · rw [if_neg h1, if_pos (h.resolve_left h1)]
theorem i_good {α : Type} {v lo hi : Nat} {A B C : α} (h1 : lo ≤ v) (h2 : v ≤ hi) (h3 : hi < 2147483648) : (if nI v < nI lo then A else if nI v ≤ nI hi then B else C) = B := by
  rw [if_neg (nI_nlt h1 (by omega)), if_pos (nI_le h2 h3)]
theorem i_good' {α : Type} {v lo hi : Nat} {A B C : α} (h1 : lo ≤ v) (h2 : v ≤ hi) (h3 : hi < 2147483648) : (if nI v < nI lo then A else if nI hi < nI v then B else C) = C := by
  rw [if_neg (nI_nlt h1 (by omega)), if_neg (nI_nlt h2 h3)]
theorem g_in {v lo hi : Nat} (h1 : lo ≤ v) (h2 : v ≤ hi) (h3 : hi < 2147483648) (M : az_M) : f_X12_in (nI v).toInt64 (OfNat.ofNat lo) (OfNat.ofNat hi) M = some 1 := p_in1 (by omega) h1 h2 (show lo < _ by omega) (show hi < _ by omega) M
theorem ob_put : Ob_put az_Inv sp_G := by
  intro m Z M a1 a2 _ h
  obtain ⟨⟨⟨p0, p1, p2, _⟩, _⟩, hg⟩ := h.2.2.1
  rcases r_cases a1 0 2 (by decide) (by decide) with ⟨k, _, hk, rfl⟩ | ⟨hn, hi⟩
  · have bad : f_X11_put (nI k) a2 M = some (-1, p_rc M (-1) 0) → (∀ M, f_X12_put (nI k) a2 M = some (-1, p_rf (az_i M 40 0 0) (-1) 1)) → ∃ (r : Int32) (M1 M2 : az_M), f_X11_put (nI k) a2 M = some (r, M1) ∧ f_X12_put (nI k) a2 M1 = some (r, M2) ∧ az_Inv (m + 1) Z M2 := fun h1 h2 => t_refuse h (j := 0) (j' := 1) (v := -1) (by simp) h1 h2
    rcases (show k = 0 ∨ k = 1 ∨ k = 2 by omega) with rfl | rfl | rfl
    · rcases r_cases a2 0 999 (by decide) (by decide) with ⟨v, _, hv, rfl⟩ | ⟨hn, hi⟩
      · refine ⟨_, _, _, (i_good (lo := 0) (hi := 999) (Nat.zero_le v) hv (by decide)).trans rfl, ?_, t_put (a := 0) (v := v) h (by decide) ⟨by omega, by show (0 : Int) ≤ v; omega, by show (v : Int) ≤ 999; omega⟩⟩
        exact (congrArg (fun x => Option.bind x _) (g_in (Nat.zero_le v) hv (by decide) _)).trans (congrArg (fun x => some (x, _)) p0.symm)
      · exact bad ((i_bad (lo := 0) (hi := 999) hn).trans rfl) (fun M => (congrArg (fun x => Option.bind x _) (hi _)).trans rfl)
    · rcases r_cases a2 0 99 (by decide) (by decide) with ⟨v, _, hv, rfl⟩ | ⟨hn, hi⟩
      · refine ⟨_, _, _, (i_good (lo := 0) (hi := 99) (Nat.zero_le v) hv (by decide)).trans rfl, ?_, t_put (a := 1) (v := v) h (by decide) ⟨by omega, by show (0 : Int) ≤ v; omega, by show (v : Int) ≤ 99; omega⟩⟩
        exact (congrArg (fun x => Option.bind x _) (g_in (Nat.zero_le v) hv (by decide) _)).trans (congrArg (fun x => some (x, _)) p1.symm)
      · exact bad ((i_bad (lo := 0) (hi := 99) hn).trans rfl) (fun M => (congrArg (fun x => Option.bind x _) (hi _)).trans rfl)
    · rcases r_cases a2 0 99 (by decide) (by decide) with ⟨v, _, hv, rfl⟩ | ⟨hn, hi⟩
      · refine ⟨_, _, _, (i_good (lo := 0) (hi := 99) (Nat.zero_le v) hv (by decide)).trans rfl, ?_, t_put (a := 2) (v := v) h (by decide) ⟨by omega, by show (0 : Int) ≤ v; omega, by show (v : Int) ≤ 99; omega⟩⟩
        exact (congrArg (fun x => Option.bind x _) (g_in (Nat.zero_le v) hv (by decide) _)).trans (congrArg (fun x => some (x, _)) p2.symm)
      · exact bad ((i_bad (lo := 0) (hi := 99) hn).trans rfl) (fun M => (congrArg (fun x => Option.bind x _) (hi _)).trans rfl)
  · refine t_refuse h (j := 0) (j' := 1) (v := -1) (by simp) ?_ (fun M => (congrArg (fun x => Option.bind x _) (hi _)).trans rfl)
    unfold f_X11_put
    by_cases h1 : a1 < 0
    · rw [if_pos h1]; rfl
    · rw [if_neg h1, if_pos]; · rfl
      have := hn.resolve_left h1
      rw [Int32.lt_iff_toInt_lt] at this
      rw [Int32.le_iff_toInt_le]
      have e : (nI 2).toInt = 2 := rfl
      have e2 : (3 : Int32).toInt = 3 := rfl
      omega
