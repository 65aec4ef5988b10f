/-! BOTH READERS: clauses, what both need -/
def cS0 (wl : Nat) (C : Nat → Int32) (a b k : Nat) (φ : sp_E → Option Int32) : Prop := (a = b ∧ φ = fun _ => some 1) ∨ cSeg wl C a b k φ
def rS0 (o : Nat) (Op Ar : Nat → Int32) (a b k : Nat) (φ : sp_E → Option Int32) : Prop := (a = b ∧ φ = fun _ => some 1) ∨ rSeg o Op Ar a b k φ
theorem cS0.cong {wl : Nat} {C C' : Nat → Int32} {a b k : Nat} {φ : sp_E → Option Int32} (h : cS0 wl C a b k φ) (hC : ∀ j, a ≤ j → j < b → C' j = C j) : cS0 wl C' a b k φ := by
  rcases h with h | h
  · exact Or.inl h
  · exact Or.inr (h.cong hC)
theorem rS0.cong {o : Nat} {Op Ar Op' Ar' : Nat → Int32} {a b k : Nat} {φ : sp_E → Option Int32} (h : rS0 o Op Ar a b k φ) (hC : ∀ j, a ≤ j → j < b → Op' j = Op j ∧ Ar' j = Ar j) : rS0 o Op' Ar' a b k φ := by
  rcases h with h | h
  · exact Or.inl h
  · exact Or.inr (h.cong hC)
/-- what the class's reader of clauses may change -/
def cQ (n k : Nat) (M M' : az_M) : Prop := (∀ a, a ≠ 15 → a ≠ 16 → a ≠ 17 → a ≠ 18 → M'.1 a = M.1 a) ∧ (∀ j, j ≠ 2 → j ≠ 3 → M'.1 16 j = M.1 16 j) ∧ (∀ j, j < n → M'.1 17 j = M.1 17 j) ∧ (∀ j, j < k → M'.1 18 j = M.1 18 j) ∧ M'.1 15 2 = M.1 15 2 ∧ M'.2 = M.2
theorem cQ.refl (n k : Nat) (M : az_M) : cQ n k M M := ⟨fun _ _ _ _ _ => rfl, fun _ _ _ => rfl, fun _ _ => rfl, fun _ _ => rfl, rfl, rfl⟩
theorem cQ.trans {n k : Nat} {M M' M'' : az_M} (h : cQ n k M M') (g : cQ n k M' M'') : cQ n k M M'' := ⟨fun a p q r s => (g.1 a p q r s).trans (h.1 a p q r s), fun j p q => (g.2.1 j p q).trans (h.2.1 j p q), fun j p => (g.2.2.1 j p).trans (h.2.2.1 j p), fun j p => (g.2.2.2.1 j p).trans (h.2.2.2.1 j p), g.2.2.2.2.1.trans h.2.2.2.2.1, g.2.2.2.2.2.trans h.2.2.2.2.2⟩
theorem cQ.mono {n n' k k' : Nat} {M M' : az_M} (h : cQ n k M M') (hn : n' ≤ n) (hk : k' ≤ k) : cQ n' k' M M' := ⟨h.1, h.2.1, fun j hj => h.2.2.1 j (by omega), fun j hj => h.2.2.2.1 j (by omega), h.2.2.2.2⟩
theorem cFr.q {n : Nat} {M M' : az_M} (h : cFr n M M') (k : Nat) : cQ n k M M' := ⟨fun a p q r _ => h.1 a p q r, fun j p _ => h.2.1 j p, h.2.2.1, fun j _ => by rw [h.1 18 (by decide) (by decide) (by decide)], h.2.2.2.1, h.2.2.2.2⟩
theorem cQ_18 {M : az_M} {j : Nat} {v : Int32} (n k : Nat) (h : k ≤ j) : cQ n k M (az_i M 18 j v) := ⟨fun a _ _ _ p => gi_k p, fun i _ _ => by rw [gi_k (by decide)], fun i _ => by rw [gi_k (by decide)], fun i hi => by rw [gi, if_pos rfl, if_neg (by omega)], by rw [gi_k (by decide)], rfl⟩
theorem cQ_163 {M : az_M} {v : Int32} (n k : Nat) : cQ n k M (az_i M 16 3 v) := ⟨fun a _ p _ _ => gi_k p, fun i _ p => by rw [gi, if_pos rfl, if_neg p], fun i _ => by rw [gi_k (by decide)], fun i hi => by rw [gi_k (by decide)], by rw [gi_k (by decide)], rfl⟩
/-- what the reference's may change: w its row of clauses -/
def rQ (w m k : Nat) (M M' : az_M) : Prop := (∀ a, a ≠ 40 → a ≠ 51 → a ≠ 52 → a ≠ 53 → a ≠ 54 → a ≠ w → M'.1 a = M.1 a) ∧ (∀ j, j ≠ 14 → j ≠ 15 → j ≠ 16 → True → True → j ≠ 21 → j ≠ 23 → j ≠ 26 → j ≠ 29 → j ≠ 30 → M'.1 40 j = M.1 40 j) ∧ (∀ a, a ≠ 40 → M'.2.1 a = M.2.1 a) ∧ (∀ j, j ≠ 17 → M'.2.1 40 j = M.2.1 40 j) ∧ M'.2.2 = M.2.2 ∧ (∀ j, j < m → M'.1 51 j = M.1 51 j ∧ M'.1 52 j = M.1 52 j) ∧ ∀ j, j < k → M'.1 w j = M.1 w j
theorem rQ.refl (w m k : Nat) (M : az_M) : rQ w m k M M := ⟨fun _ _ _ _ _ _ _ => rfl, fun _ _ _ _ _ _ _ _ _ _ _ => rfl, fun _ _ => rfl, fun _ _ => rfl, rfl, fun _ _ => ⟨rfl, rfl⟩, fun _ _ => rfl⟩
theorem rQ.trans {w m k : Nat} {M M' M'' : az_M} (h : rQ w m k M M') (g : rQ w m k M' M'') : rQ w m k M M'' := ⟨fun a p q r s t u => (g.1 a p q r s t u).trans (h.1 a p q r s t u), fun j a b c d e f x y z v => (g.2.1 j a b c d e f x y z v).trans (h.2.1 j a b c d e f x y z v), fun a p => (g.2.2.1 a p).trans (h.2.2.1 a p), fun j a => (g.2.2.2.1 j a).trans (h.2.2.2.1 j a), g.2.2.2.2.1.trans h.2.2.2.2.1, fun j hj => ⟨(g.2.2.2.2.2.1 j hj).1.trans (h.2.2.2.2.2.1 j hj).1, (g.2.2.2.2.2.1 j hj).2.trans (h.2.2.2.2.2.1 j hj).2⟩, fun j hj => (g.2.2.2.2.2.2 j hj).trans (h.2.2.2.2.2.2 j hj)⟩
theorem rQ.mono {w m m' k k' : Nat} {M M' : az_M} (h : rQ w m k M M') (hm : m' ≤ m) (hk : k' ≤ k) : rQ w m' k' M M' := ⟨h.1, h.2.1, h.2.2.1, h.2.2.2.1, h.2.2.2.2.1, fun j hj => h.2.2.2.2.2.1 j (by omega), fun j hj => h.2.2.2.2.2.2 j (by omega)⟩
theorem rFr.q {m : Nat} {M M' : az_M} (h : rFr m M M') (w k : Nat) (hw : w = 50 ∨ w = 69) : rQ w m k M M' := ⟨fun a p q r s t _ => h.1 a p q r s t, fun j a b c d e _ f x y z => h.2.1 j a b c d e f x y z, h.2.2.1, h.2.2.2.1, h.2.2.2.2.1, h.2.2.2.2.2, fun j _ => by rw [h.1 w (by omega) (by omega) (by omega) (by omega) (by omega)]⟩
theorem rQ_w {M : az_M} {w j : Nat} {v : Int32} (m k : Nat) (hw : w = 50 ∨ w = 69) (h : k ≤ j) : rQ w m k M (az_i M w j v) := ⟨fun a _ _ _ _ _ p => gi_k p, fun i _ _ _ _ _ _ _ _ _ _ => by rw [gi_k (by omega)], fun _ _ => rfl, fun _ _ => rfl, rfl, fun i _ => by rw [gi_k (by omega), gi_k (by omega)]; exact ⟨rfl, rfl⟩, fun i hi => by rw [gi, if_pos rfl, if_neg (by omega)]⟩
theorem rQ_21 {M : az_M} {w : Nat} {v : Int32} (m k : Nat) (hw : w = 50 ∨ w = 69) : rQ w m k M (az_i M 40 21 v) := ⟨fun a p _ _ _ _ _ => gi_k p, fun i _ _ _ _ _ p _ _ _ _ => by rw [gi, if_pos rfl, if_neg p], fun _ _ => rfl, fun _ _ => rfl, rfl, fun i _ => by rw [gi_k (by decide), gi_k (by decide)]; exact ⟨rfl, rfl⟩, fun i hi => by rw [gi_k (by omega)]⟩
def rQb (w : Nat) (M M' : az_M) : Prop := (∀ a, a ≠ 40 → a ≠ 51 → a ≠ 52 → a ≠ 53 → a ≠ 54 → a ≠ w → M'.1 a = M.1 a) ∧ (∀ j, j ≠ 14 → j ≠ 15 → j ≠ 16 → j ≠ 18 → j ≠ 19 → j ≠ 21 → j ≠ 23 → j ≠ 26 → j ≠ 29 → j ≠ 30 → M'.1 40 j = M.1 40 j) ∧ (∀ a, a ≠ 40 → M'.2.1 a = M.2.1 a) ∧ (∀ j, j ≠ 17 → M'.2.1 40 j = M.2.1 40 j) ∧ M'.2.2 = M.2.2
theorem rQb.trans {w : Nat} {M M' M'' : az_M} (h : rQb w M M') (g : rQb w M' M'') : rQb w M M'' := ⟨fun a p q r s t u => (g.1 a p q r s t u).trans (h.1 a p q r s t u), fun j a b c d e f x y z v => (g.2.1 j a b c d e f x y z v).trans (h.2.1 j a b c d e f x y z v), fun a p => (g.2.2.1 a p).trans (h.2.2.1 a p), fun j a => (g.2.2.2.1 j a).trans (h.2.2.2.1 j a), g.2.2.2.2.trans h.2.2.2.2⟩
theorem rQ.b {w m k : Nat} {M M' : az_M} (h : rQ w m k M M') : rQb w M M' := ⟨h.1, fun j a b c _ _ f x y z v => h.2.1 j a b c trivial trivial f x y z v, h.2.2.1, h.2.2.2.1, h.2.2.2.2.1⟩
theorem rQ.tB {w m k : Nat} {M M' M'' : az_M} (h : rQ w m k M M') (g : rQb w M' M'') : rQb w M M'' := h.b.trans g
theorem rFb.q {M M' : az_M} (h : rFb M M') (w : Nat) : rQb w M M' := ⟨fun a p q r s t _ => h.1 a p q r s t, fun j a b c d e _ f x y z => h.2.1 j a b c d e f x y z, h.2.2.1, h.2.2.2.1, h.2.2.2.2⟩
theorem RB.w {T : Nat → Nat} {L o i c m : Nat} {M : az_M} (h : RB T L o i c m M) (a j : Nat) (v : Int32) (ha : a ≠ 40 ∧ a ≠ 49) : RB T L o i c m (az_i M a j v) := by
  obtain ⟨⟨h1, h2⟩, k, b, r⟩ := h
  have e40 : (az_i M a j v).1 40 = M.1 40 := gi_k (fun e => ha.1 e.symm)
  exact ⟨⟨by unfold Tr; rw [e40, gi_k (fun e => ha.2 e.symm)]; exact h1, by unfold tokR; rw [e40]; exact h2⟩, by rw [e40]; exact k, b, r⟩
theorem RB.c21 {T : Nat → Nat} {L o i c m : Nat} {M : az_M} (h : RB T L o i c m M) (v : Int32) : RB T L o i c m (az_i M 40 21 v) := by
  obtain ⟨⟨h1, h2⟩, ⟨k1, k2, k3, k4⟩, b, r⟩ := h
  have e : ∀ j, j ≠ 21 → (az_i M 40 21 v).1 40 j = M.1 40 j := fun j hj => by rw [gi, if_pos rfl, if_neg hj]
  exact ⟨⟨by unfold Tr; rw [e 13 (by decide), gi_k (by decide)]; exact h1, by unfold tokR; rw [e 16 (by decide), e 14 (by decide), e 15 (by decide)]; exact h2⟩, ⟨by rw [e 20 (by decide)]; exact k1, by rw [e 19 (by decide)]; exact k2, by rw [e 26 (by decide)]; exact k3, by rw [e 23 (by decide)]; exact k4⟩, b, r⟩
theorem CSt.s18 {T : Nat → Nat} {L o i c b n : Nat} {M : az_M} (h : CSt T L o i c b n M) (j : Nat) (v : Int32) : CSt T L o i c b n (az_i M 18 j v) := by
  obtain ⟨⟨h1, h2⟩, ⟨k1, k2, k3, k4⟩, bb⟩ := h
  exact ⟨⟨h1.cF (fun k hk => by rw [gi_k (by omega)]), by unfold tokC; rw [gi_k (by decide)]; exact h2⟩, ⟨by rw [gi_k (by decide)]; exact k1, by rw [gi_k (by decide)]; exact k2, by rw [gi_k (by decide)]; exact k3, by rw [gi_k (by decide)]; exact k4⟩, bb⟩
theorem CSt.s163 {T : Nat → Nat} {L o i c b n : Nat} {M : az_M} (h : CSt T L o i c b n M) (v : Int32) : CSt T L o i c b n (az_i M 16 3 v) := by
  obtain ⟨⟨h1, h2⟩, ⟨k1, k2, k3, k4⟩, bb⟩ := h
  exact ⟨⟨h1.cF (fun k hk => by rw [gi_k (by omega)]), by unfold tokC; rw [gi_k (by decide)]; exact h2⟩, ⟨by rw [gi_k (by decide)]; exact k1, by rw [gi_k (by decide)]; exact k2, by rw [gi_k (by decide)]; exact k3, by rw [gi, if_pos rfl, if_neg (by decide)]; exact k4⟩, bb⟩
theorem p_set {Z : az_S × Nat} (hZ : Z.1.2 18 = 72) {k j : Nat} (hk : k < 12) (hj : j < 6) (v : Int32) (M : az_M) : f_X10_set Z 16 (nI k) (nI j) v M = some (az_i M 18 (6 * k + j) v) := by
  unfold f_X10_set
  rw [show (16 + 2 : Nat) = 18 from rfl, hZ, show nI k * 6 = nI (k * 6) from n_mulr 6 k, n_add, if_neg (nI_in (by omega) (by omega)), n_cl (by omega), show k * 6 + j = 6 * k + j by omega]
theorem w_if : (294 : Int64) = lN (whash [105, 102]) := by decide
/-- the reference's 'if' -/
def rIf (K : az_M → Option az_M) (M : az_M) : Option az_M := (f_X12_isWord 294 M).bind fun q => if q = 0 then K M else (f_X12_next sp_G M).bind fun q2 => (f_X12_readExpression sp_G 1 q2).bind fun q3 => K q3
theorem is01_one : is01 (fun _ => some 1) := by
  intro e v hv
  injection hv with hv
  exact Or.inr hv.symm
theorem j_if {T : Nat → Nat} {L o : Nat} {Z : az_S × Nat} (hL : L ≤ 400) (h255 : ∀ i, T i ≤ 255) (hZ : Z.1.2 17 = 400) (hZ8 : Z.1.2 18 = 72) (ho : o ≤ 1) {i c n m k : Nat} {Mc Mr : az_M} (hk : k < 12) (hC : CSt T L o i c 0 n Mc) (hR : RB T L o i c m Mr) :
    (∃ Mc' j Mr', f_X5_readIf Z sp_G (nI k) Mc = some (0, Mc') ∧ (∀ K, rIf K Mr = K Mr') ∧ Mc'.1 15 4 = nI j ∧ j ≤ 400 ∧ cQ n (6 * k) Mc Mc' ∧ rBad j Mr Mr')
    ∨ ∃ Mc' Mr' i' c' n' m' φ, f_X5_readIf Z sp_G (nI k) Mc = some (1, Mc') ∧ (∀ K, rIf K Mr = K Mr') ∧ CSt T L o i' c' 0 n' Mc' ∧ RB T L o i' c' m' Mr' ∧ cQ n (6 * k + 4) Mc Mc' ∧ rFr m Mr Mr' ∧ ((i ≤ i' ∧ n' + i ≤ n + i') ∧ n ≤ n' ∧ m ≤ m' ∧ c ≤ c' ∧ is01 φ) ∧ (Mc'.1 18 (6 * k + 4) = nI n ∧ Mc'.1 18 (6 * k + 5) = nI n') ∧ cS0 (WL o) (Mc'.1 17) n n' (c' - c) φ ∧ rS0 o (Mr'.1 51) (Mr'.1 52) m m' (c' - c) φ := by
  have hX := hC.s18 (6 * k + 4) (nI n)
  have fX : cQ n (6 * k + 4) Mc (az_i Mc 18 (6 * k + 4) (nI n)) := cQ_18 _ _ (by omega)
  have x4 : (az_i Mc 18 (6 * k + 4) (nI n)).1 18 (6 * k + 4) = nI n := by rw [gi, if_pos rfl, if_pos rfl]
  have hiL := hC.2.2.1
  unfold f_X5_readIf f_X5_readIf_37
  rw [show f_X10_set Z 16 (nI k) 4 (Mc.1 16 2) Mc = some (az_i Mc 18 (6 * k + 4) (Mc.1 16 2)) from p_set hZ8 hk (j := 4) (by decide) _ _, hC.2.1.2.2.2, Option.bind_some]
  generalize az_i Mc 18 (6 * k + 4) (nI n) = X at hX fX x4
  rw [show f_X5_wordAmong sp_G 5 X = some (wx T L i 5) from p_wordC hL h255 hX.1.1 hX.1.2 hiL (by decide), Option.bind_some]
  unfold rIf
  rw [w_if, p_word1 (a := 5) (by decide) rfl hR.1.2]
  simp only [Option.bind_some]
  by_cases hw : wx T L i 5 = -1
  · rw [if_pos hw, if_pos hw, show f_X10_set Z 16 (nI k) 5 (X.1 16 2) X = some (az_i X 18 (6 * k + 5) (X.1 16 2)) from p_set hZ8 hk (j := 5) (by decide) _ _, hX.2.1.2.2.2, Option.bind_some, if_pos (Or.inr trivial)]
    refine Or.inr ⟨_, Mr, i, c, n, m, fun _ => some 1, rfl, fun K => if_pos rfl, hX.s18 (6 * k + 5) (nI n), hR, fX.trans (cQ_18 _ _ (by omega)), rFr.refl m Mr, ⟨⟨Nat.le_refl _, Nat.le_refl _⟩, Nat.le_refl _, Nat.le_refl _, Nat.le_refl _, is01_one⟩, ⟨?_, by rw [gi, if_pos rfl, if_pos rfl]⟩, Or.inl ⟨rfl, rfl⟩, Or.inl ⟨rfl, rfl⟩⟩
    rw [gi, if_pos rfl, if_neg (by omega)]; exact x4
  · rw [if_neg hw, if_neg hw]
    have hk1 : tkd T L i = 1 := by
      rcases wx_cases T L i 5 (by decide) with ⟨h, -⟩ | ⟨j, -, h, -⟩
      · exact absurd h hw
      · exact h
    have tl := tnx_lt (T := T) (L := L) (i := i) (by omega)
    obtain ⟨Y, y1, y2, y3⟩ := hX.next hL h255
    obtain ⟨Mr1, r1, r2, r3⟩ := hR.next hL h255
    rw [y1, Option.bind_some]
    simp only [if_neg (show ¬ (1 : Int32) = 0 by decide), r1, Option.bind_some]
    have fY : cQ n (6 * k + 4) Mc Y := fX.trans ((y3.fr n).q _)
    rcases x_test (Z := Z) hL h255 hZ ho y2 r2 with ⟨Mc', j, Mr', e1, e2, e3, e4, e5, e6⟩ | ⟨Mc', Mr', i', c', n', m', φ, e1, e2, e3, e4, e5, e6, ⟨⟨e7, e7n⟩, e8, e9⟩, s1, s2⟩
    · rw [e1, Option.bind_some, show f_X10_set Z 16 (nI k) 5 (Mc'.1 16 2) Mc' = some (az_i Mc' 18 (6 * k + 5) (Mc'.1 16 2)) from p_set hZ8 hk (j := 5) (by decide) _ _, Option.bind_some, if_pos (Or.inl rfl)]
      refine Or.inl ⟨_, j, Mr', rfl, fun K => by rw [e2, Option.bind_some], by rw [gi_k (by decide)]; exact e3, e4, (fY.mono (Nat.le_refl _) (by omega)).trans ((e5.q _).trans (cQ_18 _ _ (by omega))), e6.1, e6.2.1, (r3.fr 0).tB e6.2.2⟩
    · rw [e1, Option.bind_some, show f_X10_set Z 16 (nI k) 5 (Mc'.1 16 2) Mc' = some (az_i Mc' 18 (6 * k + 5) (Mc'.1 16 2)) from p_set hZ8 hk (j := 5) (by decide) _ _, e3.2.1.2.2.2, Option.bind_some, if_pos (Or.inr rfl)]
      have q1 := s1.1
      have q2 := s2.1
      refine Or.inr ⟨_, Mr', i', c', n', m', φ, rfl, fun K => by rw [e2, Option.bind_some], e3.s18 (6 * k + 5) (nI n'), e4, fY.trans ((e5.q _).trans (cQ_18 _ _ (by omega))), (r3.fr m).trans e6, ⟨⟨by omega, by omega⟩, by omega, by omega, by omega, e9⟩, ⟨?_, by rw [gi, if_pos rfl, if_pos rfl]⟩, Or.inr (by rw [gi_k (by decide)]; exact s1), Or.inr s2⟩
      rw [gi, if_pos rfl, if_neg (by omega), e5.1 18 (by decide) (by decide) (by decide), y3.1 18 (by decide)]; exact x4
