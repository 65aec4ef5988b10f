/-! law() -/
theorem ty10 : ∀ j, az_fk (az_y 10 j) = 2 → j ≤ 1 := by
  intro j
  match j with
  | 0 => intro _; omega
  | 1 => intro _; omega
  | 2 => intro h; exact absurd h (by decide)
  | j + 3 => intro h; exact absurd (show (0 : Nat) = 2 from h) (by decide)
/-- a law is kept: the invariant -/
theorem law_yes {m n len N mm : Nat} {Z : az_S × Nat} {M M' : az_M} {l : sp_L} {C D Op Ar Dr : Nat → Int32} (h : az_Inv m Z M) (hn : n < 6) (h31 : M.1 3 1 = nI n) (hlen : l.length = len) (hl12 : len ≤ 12) (hN : N ≤ 400) (hmm : mm ≤ 400)
    (hl : ∀ (c : Nat) (x : sp_C), l[c]? = some x → (lawOk x ∧ lawC C D c N x) ∧ lawR Op Ar Dr c mm x)
    (FK : ∀ a, a < Z.2 → a ≠ 0 → a ≠ 3 → a ≠ 5 → a ≠ 15 → a ≠ 16 → a ≠ 17 → a ≠ 18 → a ≠ 34 → a ≠ 40 → a ≠ 42 → a ≠ 50 → a ≠ 51 → a ≠ 52 → a ≠ 53 → a ≠ 54 → M'.1 a = M.1 a)
    (F40 : ∀ q, q = 8 ∨ q = 11 ∨ q = 55 ∨ q = 58 → M'.1 40 q = M.1 40 q) (F2 : M'.2.2 = fun q => if q = 4 then va_up (M.2.2 4) n (some Z.2) else M.2.2 q) (FL : ∀ k, k ≠ 40 → M'.2.1 k = M.2.1 k) (F5 : M'.1 5 1 = 0 ∧ M'.1 40 13 = 0 ∧ M'.1 40 20 = 0) (F0 : M'.1 0 12 = M'.1 40 1 ∧ M'.1 0 13 = M'.1 40 18 ∧ M'.1 0 14 = M.1 0 14 ∧ M'.1 0 15 = M.1 0 15) (F34 : M'.1 34 13 = 0) (F3 : M'.1 3 1 = nI (n + 1) ∧ M'.1 3 2 = M.1 3 2)
    (G0 : M'.1 Z.2 3 = nI len) (G1 : ∀ j, j < N → M'.1 (Z.2 + 1) j = C j) (G2 : ∀ j, j < 6 * len → M'.1 (Z.2 + 2) j = D j)
    (R4 : M'.1 42 4 = nI (n + 1)) (R1 : M'.1 42 (151 + 900 * n) = nI len) (RD' : ∀ j, j < 8 * len → M'.1 42 (152 + 900 * n + j) = Dr j) (RO : ∀ k, k < mm → M'.1 42 (150 + 900 * n + 98 + 2 * k) = Op k ∧ M'.1 42 (150 + 900 * n + 98 + 2 * k + 1) = Ar k) (RR : ∀ j, j ≠ 4 → j < 150 + 900 * n ∨ 150 + 900 * n + 900 ≤ j → M'.1 42 j = M.1 42 j) : az_Inv (m + 1) (az_zx Z [(10, 0), (13, N), (13, 6 * len)]) M' := by
  obtain ⟨g1, g2, g3, ⟨ls, g4, g4b⟩, g5, g6, g7, g8, g9, g10, g11⟩ := h.mono
  have h71 := g1.1.1
  have hz := zle_zx Z [(10, 0), (13, N), (13, 6 * len)]
  have Z2 : (az_zx Z [(10, 0), (13, N), (13, 6 * len)]).2 = Z.2 + 3 := rfl
  have zk : ∀ i, (az_zx Z [(10, 0), (13, N), (13, 6 * len)]).1.1 (Z.2 + i) = ([(10, 0), (13, N), (13, 6 * len)].getD i (0, 0)).1 := fun i => by
    show (if Z.2 + i < Z.2 then _ else _) = _
    rw [if_neg (by omega), Nat.add_sub_cancel_left]
  have zl : ∀ i, (az_zx Z [(10, 0), (13, N), (13, 6 * len)]).1.2 (Z.2 + i) = ([(10, 0), (13, N), (13, 6 * len)].getD i (0, 0)).2 := fun i => by
    show (if Z.2 + i < Z.2 then _ else _) = _
    rw [if_neg (by omega), Nat.add_sub_cancel_left]
  have z20 : (az_zx Z [(10, 0), (13, N), (13, 6 * len)]).1.2 20 = 11 := by rw [(hz.2 20 (by omega)).2]; exact h.lens.2.2.1
  generalize hZ' : az_zx Z [(10, 0), (13, N), (13, 6 * len)] = Z' at hz Z2 zk zl z20
  have tok : az_tok Z' Z.2 = true := by
    have a1 := zk 0; have a2 := zk 1; have a3 := zk 2
    rw [Nat.add_zero] at a1
    unfold az_tok; rw [a1, a2, a3, Z2]; simp
  have fk := fun a (hz : a < Z.2) (p : a = 2 ∨ a = 6 ∨ a = 7 ∨ a = 8 ∨ a = 9 ∨ a = 12 ∨ a = 28 ∨ a = 29 ∨ a = 41 ∨ a = 43 ∨ a = 44 ∨ a = 45 ∨ a = 46 ∨ a = 49 ∨ a = 70 ∨ 71 ≤ a) => FK a hz (by omega) (by omega) (by omega) (by omega) (by omega) (by omega) (by omega) (by omega) (by omega) (by omega) (by omega) (by omega) (by omega) (by omega) (by omega)
  have Fo : ∀ k, k ≠ 4 → M'.2.2 k = M.2.2 k := fun k hk => by rw [F2]; exact if_neg hk
  have F4 : ∀ i, M'.2.2 4 i = if i = n then some Z.2 else M.2.2 4 i := fun i => by
    rw [F2]
    show va_up (M.2.2 4) n (some Z.2) i = _
    rfl
  have FT : ∀ s, 71 ≤ s → az_tok Z s = true → ∀ k, (k = s ∨ k = s + 1 ∨ k = s + 2) → M'.1 k = M.1 k := fun s hs ts k hk => by
    have := (hz.tok ts).2
    exact fk k (by omega) (by omega)
  have r42 : ∀ j, j < 150 → j ≠ 4 → M'.1 42 j = M.1 42 j := fun j hj h4 => RR j h4 (Or.inl (by omega))
  refine ⟨⟨hz.shape g1.1, ⟨fun i hi => ?_, fun k v hk hv i hi => ?_⟩⟩, ⟨fun k hk h13 j hj => ?_, fun k hk h16 j t he => ?_⟩, ⟨?_, ?_⟩, ⟨fun i => if i = n then l else ls i, ?_, Or.inl F34⟩, ⟨by rw [F5.1, F5.2.1], by rw [F5.1]; unfold sp_in; decide, fun i hi => by rw [fk 6 (by omega) (by omega), fk 49 (by omega) (by omega)]; exact g5.2.2 i hi⟩, ⟨F0.1, F0.2.1, ?_, ?_⟩, ?_, ?_, ⟨?_, ?_, ?_, ?_⟩, ?_, F5.2.2, ?_⟩
  · rw [F4]
    by_cases hin : i = n
    · rw [if_pos hin]; exact tok
    · rw [if_neg hin]; exact hz.toko (g1.2.1 i hi)
  · rw [Fo 11 (by decide)] at hv
    have hx : 71 ≤ v ∧ az_bok Z v = true := by
      rcases (show k = 0 ∨ k = 1 by omega) with rfl | rfl
      · exact g9.1.u71 hv
      · exact g9.2.1.u71 hv
    rw [Fo (v + 1) (by omega)]
    exact hz.toko (g1.2.2 k v hk hv i hi)
  · rw [Z2] at hk ⊢
    by_cases hkz : k < Z.2
    · rw [(hz.2 k hkz).1] at h13 hj ⊢
      have := g2.1 k hkz h13 j hj
      omega
    · obtain ⟨i, rfl⟩ : ∃ i, k = Z.2 + i := ⟨k - Z.2, by omega⟩
      rw [zk] at h13 hj ⊢
      rcases (show i = 0 ∨ i = 1 ∨ i = 2 by omega) with rfl | rfl | rfl
      · have := ty10 j hj
        show Z.2 + 0 + 1 + j < _; omega
      · exact absurd h13 (show ¬ 13 < 13 by decide)
      · exact absurd h13 (show ¬ 13 < 13 by decide)
  · rw [Z2] at hk ⊢
    by_cases hkz : k < Z.2
    · rw [(hz.2 k hkz).1] at h16
      by_cases h4 : k = 4
      · subst h4
        rw [F4] at he
        by_cases hjn : j = n
        · rw [if_pos hjn] at he; injection he with he; omega
        · rw [if_neg hjn] at he
          have := g2.2 4 hkz h16 j t he; omega
      · rw [Fo k h4] at he
        have := g2.2 k hkz h16 j t he; omega
    · obtain ⟨i, rfl⟩ : ∃ i, k = Z.2 + i := ⟨k - Z.2, by omega⟩
      rw [zk] at h16
      rcases (show i = 0 ∨ i = 1 ∨ i = 2 by omega) with rfl | rfl | rfl
      · exact absurd h16 (show ¬ 16 ≤ 10 by decide)
      · exact absurd h16 (show ¬ 16 ≤ 13 by decide)
      · exact absurd h16 (show ¬ 16 ≤ 13 by decide)
  · rw [fk 2 (by omega) (by omega)]
    exact g3.1.congR' (fun j hj h4 _ => r42 j (by omega) h4) g3.2.q7
  · rw [fk 2 (by omega) (by omega)]; exact g3.2
  · obtain ⟨n', b1, b2, b3, b4, b5, b6⟩ := g4
    have hnn : n' = n := by
      rw [h31] at b2
      rw [n_eq (by omega) (by omega)] at b2
      exact b2.symm
    subst hnn
    refine ⟨n' + 1, by omega, F3.1, R4, by rw [F3.2, RR 5 (by decide) (Or.inl (by omega))]; exact b4, ?_, fun i hi => ?_⟩
    · rw [F3.2]
      rcases b5 with b5 | ⟨f, hf, b5⟩
      · exact Or.inl b5
      · exact Or.inr ⟨f, by omega, b5⟩
    · by_cases hin : i = n'
      · subst hin
        refine ⟨Z.2, by rw [F4, if_pos rfl], ?_, ?_, ?_⟩
        · show sp_CT Z' M'.1 Z.2 (if i = i then l else ls i)
          rw [if_pos rfl]
          exact t_mean (C := C) (D := D) (n := N) h71 tok (by rw [G0, hlen]) (by omega) (by rw [zl 2, hlen]; rfl) (by rw [zl 1]; rfl) hN z20 G1 (by rw [hlen]; exact G2) (fun c x hc => (hl c x hc).1)
        · show sp_MT (M'.1 42) i (if i = i then l else ls i)
          rw [if_pos rfl]
          exact m_mean (Op := Op) (Ar := Ar) (D := Dr) hn hmm (by rw [hlen]; exact R1) (by omega) (by rw [hlen]; exact RD') RO (fun c x hc => ⟨(hl c x hc).1.1, (hl c x hc).2⟩)
        · intro x hx
          have hx : x ∈ (if i = i then l else ls i) := hx
          rw [if_pos rfl] at hx
          obtain ⟨c, hc⟩ := List.mem_iff_getElem?.mp hx
          have := (hl c x hc).1.1
          exact ⟨this.2.1, this.2.2⟩
      · obtain ⟨t, c1, c2, c3, c4⟩ := b6 i (by omega)
        refine ⟨t, by rw [F4, if_neg hin]; exact c1, ?_, ?_, ?_⟩
        · show sp_CT Z' M'.1 t (if i = n' then l else ls i)
          rw [if_neg hin]
          exact c2.ext hz h71 (FT t c2.1 c2.2.1)
        · show sp_MT (M'.1 42) i (if i = n' then l else ls i)
          rw [if_neg hin]
          exact c3.congR c2.2.2.2.1 (fun j h1 h2 => RR j (by omega) (by omega))
        · show ∀ x, x ∈ (if i = n' then l else ls i) → sp_cok x
          rw [if_neg hin]; exact c4
  · rw [F0.2.2.1, F40 11 (by omega)]; exact g6.2.2.1
  · rw [F0.2.2.2, F40 55 (by omega)]; exact g6.2.2.2
  · rw [fk 12 (by omega) (by omega), fk 41 (by omega) (by omega)]; exact g7
  · rw [fk 7 (by omega) (by omega), fk 8 (by omega) (by omega), fk 9 (by omega) (by omega), fk 46 (by omega) (by omega), fk 45 (by omega) (by omega), F40 8 (by omega)]; exact g8
  · refine g9.1.ext hz h71 (fun j _ => by rw [fk 43 (by omega) (by omega)]) (by rw [fk 44 (by omega) (by omega)]) (by rw [Fo 10 (by decide)]) (by rw [Fo 11 (by decide)]) FT (fun t _ h2 h3 => ?_) (fun u _ h2 h3 => ⟨?_, ?_⟩)
    · have := (hz.pok h3).2; exact fk _ (by omega) (by omega)
    · have := (hz.bok h3).2; exact fk _ (by omega) (by omega)
    · exact Fo _ (by omega)
  · refine g9.2.1.ext hz h71 (fun j _ => by rw [fk 43 (by omega) (by omega)]) (by rw [fk 44 (by omega) (by omega)]) (by rw [Fo 10 (by decide)]) (by rw [Fo 11 (by decide)]) FT (fun t _ h2 h3 => ?_) (fun u _ h2 h3 => ⟨?_, ?_⟩)
    · have := (hz.pok h3).2; exact fk _ (by omega) (by omega)
    · have := (hz.bok h3).2; exact fk _ (by omega) (by omega)
    · exact Fo _ (by omega)
  · rw [Fo 10 (by decide)]; exact g9.2.2.1
  · rw [Fo 11 (by decide)]; exact g9.2.2.2
  · rw [fk 28 (by omega) (by omega), fk 29 (by omega) (by omega), fk 70 (by omega) (by omega), F40 58 (by omega)]; exact g10
  · rw [FL 55 (by decide), FL 56 (by decide), FL 57 (by decide)]; exact g11.2
