/-! THE REFERENCE'S READER: its pile, its code -/
def bd (op : Nat) : Nat := if 31 ≤ op then 0 else if op = 30 then 1 else if op = 29 then 2 else if op = 28 then 3 else if 25 ≤ op then 4 else if 22 ≤ op then 6 else 5
theorem p_binds {op : Nat} (h : op ≤ 100) (M : az_M) : f_X12_binds (nI op) M = some (nI (bd op)) := by
  unfold f_X12_binds f_X12_binds_62 bd
  simp (disch := omega) only [n_addl, n_addr, n_add, n_mull, n_mulr, n_mul, n_sub, n_subr, n_subl, n_cl, n_lt, n_le, n_eq, n_ltl, n_ltr, n_lel, n_ler, n_eqr, n_eql, n_nm1, n_m1n, n_m1lt, n_ltm1, l_ltr, l_ltl, l_ler, l_lel, l_m1lt, l_nneg]
  by_cases h1 : 31 ≤ op
  · rw [if_neg (by omega), if_pos h1]; rfl
  · rw [if_pos (by omega), if_neg h1]
    by_cases h2 : op = 30
    · rw [if_pos h2, if_pos h2]; rfl
    · rw [if_neg h2, if_neg h2]
      by_cases h3 : op = 29
      · rw [if_pos h3, if_pos h3]; rfl
      · rw [if_neg h3, if_neg h3]
        by_cases h4 : op = 28
        · rw [if_pos h4, if_pos h4]; rfl
        · rw [if_neg h4, if_neg h4]
          by_cases h5 : 25 ≤ op
          · rw [if_neg (by omega), if_pos h5]; rfl
          · rw [if_pos (by omega), if_neg h5]
            by_cases h6 : 22 ≤ op
            · rw [if_neg (by omega), if_pos h6]; rfl
            · rw [if_pos (by omega), if_neg h6]; rfl
theorem bd_le (op : Nat) : bd op ≤ 6 := by
  unfold bd
  repeat' split
  all_goals omega
/-- the pile, its top first -/
def plM : List (Nat × Nat) → az_M → Prop
  | [], _ => True
  | x :: P, M => M.1 53 P.length = nI x.1 ∧ M.1 54 P.length = nI x.2 ∧ plM P M
def plW (P : List (Nat × Nat)) : Prop := ∀ x, x ∈ P → x.1 ≤ 32 ∧ x.2 < 400
theorem plM.cong {M M' : az_M} : ∀ {P : List (Nat × Nat)}, plM P M → (∀ j, j < P.length → M'.1 53 j = M.1 53 j ∧ M'.1 54 j = M.1 54 j) → plM P M' := by
  intro P
  induction P with
  | nil => intro _ _; trivial
  | cons x P ih =>
    intro h hj
    obtain ⟨a, b, c⟩ := h
    have := hj P.length (by rw [List.length_cons]; omega)
    exact ⟨by rw [this.1]; exact a, by rw [this.2]; exact b, ih c (fun j h => hj j (by rw [List.length_cons]; omega))⟩
/-- code, as it is written: operations, what they are with, how many -/
abbrev rC : Type := (Nat → Int32) × (Nat → Int32) × Nat
def st1 (x : Nat × Nat) (S : rC) : rC := if x.1 = 29 ∨ x.1 = 30 then (S.1, up S.2.1 x.2 (nI S.2.2), S.2.2) else (up S.1 S.2.2 (nI x.1), up S.2.1 S.2.2 0, S.2.2 + 1)
def stl : List (Nat × Nat) → rC → rC
  | [], S => S
  | x :: q, S => stl q (st1 x S)
theorem stl_app (q r : List (Nat × Nat)) (S : rC) : stl (q ++ r) S = stl r (stl q S) := by
  induction q generalizing S with
  | nil => rfl
  | cons x q ih => exact ih _
theorem st1_le (x : Nat × Nat) (S : rC) : S.2.2 ≤ (st1 x S).2.2 ∧ (st1 x S).2.2 ≤ S.2.2 + 1 := by
  unfold st1
  split
  · exact ⟨Nat.le_refl _, Nat.le_succ _⟩
  · exact ⟨Nat.le_succ _, Nat.le_refl _⟩
theorem stl_le : ∀ (q : List (Nat × Nat)) (S : rC), S.2.2 ≤ (stl q S).2.2 ∧ (stl q S).2.2 ≤ S.2.2 + q.length := by
  intro q
  induction q with
  | nil => intro S; exact ⟨Nat.le_refl _, Nat.le_refl _⟩
  | cons x q ih =>
    intro S
    have a := st1_le x S
    have b := ih (st1 x S)
    rw [stl, List.length_cons]
    omega
/-- what the reader may change -/
def rFr (m : Nat) (M M' : az_M) : Prop := (∀ k, k ≠ 40 → k ≠ 51 → k ≠ 52 → k ≠ 53 → k ≠ 54 → M'.1 k = M.1 k) ∧ (∀ j, j ≠ 14 → j ≠ 15 → j ≠ 16 → True → True → j ≠ 23 → j ≠ 26 → j ≠ 29 → j ≠ 30 → M'.1 40 j = M.1 40 j) ∧ (∀ k, k ≠ 40 → M'.2.1 k = M.2.1 k) ∧ (∀ j, j ≠ 17 → M'.2.1 40 j = M.2.1 40 j) ∧ M'.2.2 = M.2.2 ∧ ∀ j, j < m → M'.1 51 j = M.1 51 j ∧ M'.1 52 j = M.1 52 j
theorem rFr.refl (m : Nat) (M : az_M) : rFr m M M := ⟨fun _ _ _ _ _ _ => rfl, fun _ _ _ _ _ _ _ _ _ _ => rfl, fun _ _ => rfl, fun _ _ => rfl, rfl, fun _ _ => ⟨rfl, rfl⟩⟩
theorem rFr.trans {m : Nat} {M M' M'' : az_M} (h : rFr m M M') (g : rFr m M' M'') : rFr m M M'' := ⟨fun k a b c d e => (g.1 k a b c d e).trans (h.1 k a b c d e), fun j a b c d e f x y z => (g.2.1 j a b c d e f x y z).trans (h.2.1 j a b c d e f x y z), fun k a => (g.2.2.1 k a).trans (h.2.2.1 k a), fun j a => (g.2.2.2.1 j a).trans (h.2.2.2.1 j a), g.2.2.2.2.1.trans h.2.2.2.2.1, fun j hj => ⟨(g.2.2.2.2.2 j hj).1.trans (h.2.2.2.2.2 j hj).1, (g.2.2.2.2.2 j hj).2.trans (h.2.2.2.2.2 j hj).2⟩⟩
theorem rFr.mono {m m' : Nat} {M M' : az_M} (h : rFr m M M') (hm : m' ≤ m) : rFr m' M M' := ⟨h.1, h.2.1, h.2.2.1, h.2.2.2.1, h.2.2.2.2.1, fun j hj => h.2.2.2.2.2 j (by omega)⟩
theorem rF0.fr {M M' : az_M} (h : rF0 M M') (m : Nat) : rFr m M M' := ⟨fun k a _ _ _ _ => h.1 k a, fun j a b c _ _ _ _ _ _ => h.2.1 j a b c, h.2.2.1, h.2.2.2.1, h.2.2.2.2, fun j _ => by rw [h.1 51 (by decide), h.1 52 (by decide)]; exact ⟨rfl, rfl⟩⟩
theorem rFr_40 {M : az_M} {j : Nat} {v : Int32} (m : Nat) (h : j = 23 ∨ j = 26 ∨ j = 29 ∨ j = 30) : rFr m M (az_i M 40 j v) := ⟨fun k a _ _ _ _ => gi_k a, fun i a b c d e f x y z => by rw [gi, if_pos rfl, if_neg (by omega)], fun _ _ => rfl, fun _ _ => rfl, rfl, fun i _ => by rw [gi_k (by decide), gi_k (by decide)]; exact ⟨rfl, rfl⟩⟩
/-- the same, where a fault may have been found -/
def rFb (M M' : az_M) : Prop := (∀ k, k ≠ 40 → k ≠ 51 → k ≠ 52 → k ≠ 53 → k ≠ 54 → M'.1 k = M.1 k) ∧ (∀ j, j ≠ 14 → j ≠ 15 → j ≠ 16 → j ≠ 18 → j ≠ 19 → j ≠ 23 → j ≠ 26 → j ≠ 29 → j ≠ 30 → M'.1 40 j = M.1 40 j) ∧ (∀ k, k ≠ 40 → M'.2.1 k = M.2.1 k) ∧ (∀ j, j ≠ 17 → M'.2.1 40 j = M.2.1 40 j) ∧ M'.2.2 = M.2.2
theorem rFb.trans {M M' M'' : az_M} (h : rFb M M') (g : rFb M' M'') : rFb M M'' := ⟨fun k a b c d e => (g.1 k a b c d e).trans (h.1 k a b c d e), fun j a b c d e f x y z => (g.2.1 j a b c d e f x y z).trans (h.2.1 j a b c d e f x y z), fun k a => (g.2.2.1 k a).trans (h.2.2.1 k a), fun j a => (g.2.2.2.1 j a).trans (h.2.2.2.1 j a), g.2.2.2.2.trans h.2.2.2.2⟩
theorem rFr.b {m : Nat} {M M' : az_M} (h : rFr m M M') : rFb M M' := ⟨h.1, fun j a b c _ _ f x y z => h.2.1 j a b c trivial trivial f x y z, h.2.2.1, h.2.2.2.1, h.2.2.2.2.1⟩
theorem rFr.tB {m : Nat} {M M' M'' : az_M} (h : rFr m M M') (g : rFb M' M'') : rFb M M'' := h.b.trans g
theorem p_emit {m : Nat} {M : az_M} (h : M.1 40 23 = nI m) (hm : m < 400) (op ar : Int32) : ∃ M', f_X12_emit op ar M = some M' ∧ M'.1 51 = up (M.1 51) m op ∧ M'.1 52 = up (M.1 52) m ar ∧ M'.1 40 23 = nI (m + 1) ∧ (∀ k, k ≠ 40 → k ≠ 51 → k ≠ 52 → M'.1 k = M.1 k) ∧ (∀ j, j ≠ 23 → M'.1 40 j = M.1 40 j) ∧ M'.2 = M.2 := by
  unfold f_X12_emit
  have e1 : (az_i M 51 m op).1 40 23 = nI m := by rw [gi_k (by decide)]; exact h
  have e2 : (az_i (az_i M 51 m op) 52 m ar).1 40 23 + 1 = nI (m + 1) := by rw [gi_k (by decide), gi_k (by decide), h]; exact (nI_succ m).symm
  rw [h, n_cl (by omega), if_neg (nIn (by omega) (by omega)), e1, n_cl (by omega), if_neg (nIn (by omega) (by omega)), e2]
  refine ⟨_, rfl, ?_, ?_, ?_, fun k a b c => by rw [gi_k a, gi_k c, gi_k b], fun j hj => by rw [gi, if_pos rfl, if_neg hj, gi_k (by decide), gi_k (by decide)], rfl⟩
  · rw [gi_k (by decide), gi_k (by decide), az_i_ro, ro_eq]
  · rw [gi_k (by decide), az_i_ro, ro_eq, gi_k (by decide)]
  · rw [gi, if_pos rfl, if_pos rfl]
theorem p_push {M : az_M} {P : List (Nat × Nat)} (h : M.1 40 29 = nI P.length) (hP : P.length < 400) (hM : plM P M) (op at' : Nat) : ∃ M', f_X12_push (nI op) (nI at') M = some M' ∧ plM ((op, at') :: P) M' ∧ M'.1 40 29 = nI (P.length + 1) ∧ (∀ k, k ≠ 40 → k ≠ 53 → k ≠ 54 → M'.1 k = M.1 k) ∧ (∀ j, j ≠ 29 → M'.1 40 j = M.1 40 j) ∧ M'.2 = M.2 := by
  unfold f_X12_push
  have e1 : (az_i M 53 P.length (nI op)).1 40 29 = nI P.length := by rw [gi_k (by decide)]; exact h
  have e2 : (az_i (az_i M 53 P.length (nI op)) 54 P.length (nI at')).1 40 29 + 1 = nI (P.length + 1) := by rw [gi_k (by decide), gi_k (by decide), h]; exact (nI_succ _).symm
  rw [h, n_cl (by omega), if_neg (nIn (by omega) (by omega)), e1, n_cl (by omega), if_neg (nIn (by omega) (by omega)), e2]
  refine ⟨_, rfl, ⟨?_, ?_, hM.cong fun j hj => ⟨?_, ?_⟩⟩, by rw [gi, if_pos rfl, if_pos rfl], fun k a b c => by rw [gi_k a, gi_k c, gi_k b], fun j hj => by rw [gi, if_pos rfl, if_neg hj, gi_k (by decide), gi_k (by decide)], rfl⟩
  · rw [gi_k (by decide), gi_k (by decide), gi, if_pos rfl, if_pos rfl]
  · rw [gi_k (by decide), gi, if_pos rfl, if_pos rfl]
  · rw [gi_k (by decide), gi_k (by decide), gi, if_pos rfl, if_neg (by omega)]
  · rw [gi_k (by decide), gi, if_pos rfl, if_neg (by omega), gi_k (by decide)]
/-- the reader settles what binds so much -/
theorem r_settle {P : List (Nat × Nat)} (least : Nat) (hl : least ≤ 100) (hP : P = [] ∨ ∃ x P', P = x :: P' ∧ bd x.1 < least) (wP : plW P) : ∀ (q : List (Nat × Nat)) (m F : Nat) (M : az_M), q.length + 1 ≤ F → plM (q ++ P) M → plW q → (∀ x, x ∈ q → least ≤ bd x.1) → M.1 40 23 = nI m → M.1 40 29 = nI (q ++ P).length → m + (q ++ P).length ≤ 400 → ∃ M', f_X12_settle_0 sp_G F (nI least) M = some M' ∧ (M'.1 51, M'.1 52, (stl q (M.1 51, M.1 52, m)).2.2) = stl q (M.1 51, M.1 52, m) ∧ M'.1 40 23 = nI (stl q (M.1 51, M.1 52, m)).2.2 ∧ M'.1 40 29 = nI P.length ∧ plM P M' ∧ (∀ k, k ≠ 40 → k ≠ 51 → k ≠ 52 → M'.1 k = M.1 k) ∧ (∀ j, j ≠ 23 → j ≠ 29 → M'.1 40 j = M.1 40 j) ∧ M'.2 = M.2 := by
  intro q
  induction q with
  | nil =>
    intro m F M hF hM _ _ h23 h29 hm
    obtain ⟨F, rfl⟩ : ∃ F1, F = F1 + 1 := ⟨F - 1, by omega⟩
    rw [List.nil_append] at hM h29 hm
    refine ⟨M, ?_, rfl, h23, h29, hM, fun _ _ _ _ => rfl, fun _ _ _ => rfl, rfl⟩
    rw [f_X12_settle_0, h29]
    unfold f_X12_settle_101
    rcases hP with rfl | ⟨x, P', rfl, hx⟩
    · rw [if_pos (by decide)]
    · have hw := wP x List.mem_cons_self
      have hb := bd_le x.1
      rw [List.length_cons] at hm
      rw [if_neg (nI_nle (by rw [List.length_cons]; omega) (by rw [List.length_cons]; omega)), List.length_cons, nI_pred, if_neg (nI_in (by omega) (by decide)), n_cl (by omega), hM.1, p_binds (by omega), Option.bind_some, if_pos (by rw [n_lt (by omega) (by omega)]; exact hx)]
  | cons x q ih =>
    intro m F M hF hM wq hq h23 h29 hm
    obtain ⟨F, rfl⟩ : ∃ F1, F = F1 + 1 := ⟨F - 1, by rw [List.length_cons] at hF; omega⟩
    rw [List.length_cons] at hF
    rw [List.cons_append] at hM h29 hm
    rw [List.length_cons] at h29 hm
    have hw := wq x List.mem_cons_self
    have hb := bd_le x.1
    have hx := hq x List.mem_cons_self
    obtain ⟨p1, p2, p3⟩ := hM
    rw [f_X12_settle_0, h29, if_neg (nI_nle (by omega) (by omega)), nI_pred, if_neg (nI_in (by omega) (by decide)), n_cl (by omega), p1, p_binds (by omega), Option.bind_some, if_neg (by rw [n_lt (by omega) (by omega)]; omega)]
    generalize hX : az_i M 40 29 (nI (q ++ P).length) = X
    have xk : ∀ k, k ≠ 40 → X.1 k = M.1 k := fun k h => by rw [← hX, gi_k h]
    have xj : ∀ j, j ≠ 29 → X.1 40 j = M.1 40 j := fun j h => by rw [← hX, gi, if_pos rfl, if_neg h]
    have x29 : X.1 40 29 = nI (q ++ P).length := by rw [← hX, gi, if_pos rfl, if_pos rfl]
    have x2 : X.2 = M.2 := by rw [← hX]; rfl
    have x53 : X.1 53 (q ++ P).length = nI x.1 := by rw [xk 53 (by decide)]; exact p1
    rw [x29, n_cl (by omega), if_neg (nIn (by omega) (by omega)), x53, if_neg (nIn (by omega) (by omega)), if_neg (nIn (by omega) (by omega))]
    have go : ∀ (Y : az_M) (m' : Nat), (Y.1 51, Y.1 52, m') = st1 x (M.1 51, M.1 52, m) → Y.1 40 23 = nI m' → m' ≤ m + 1 → (∀ k, k ≠ 40 → k ≠ 51 → k ≠ 52 → Y.1 k = M.1 k) → (∀ j, j ≠ 23 → j ≠ 29 → Y.1 40 j = M.1 40 j) → Y.1 40 29 = nI (q ++ P).length → Y.2 = M.2 → ∃ M', f_X12_settle_0 sp_G F (nI least) Y = some M' ∧ (M'.1 51, M'.1 52, (stl (x :: q) (M.1 51, M.1 52, m)).2.2) = stl (x :: q) (M.1 51, M.1 52, m) ∧ M'.1 40 23 = nI (stl (x :: q) (M.1 51, M.1 52, m)).2.2 ∧ M'.1 40 29 = nI P.length ∧ plM P M' ∧ (∀ k, k ≠ 40 → k ≠ 51 → k ≠ 52 → M'.1 k = M.1 k) ∧ (∀ j, j ≠ 23 → j ≠ 29 → M'.1 40 j = M.1 40 j) ∧ M'.2 = M.2 := by
      intro Y m' y1 y2 y3 y4 y5 y6 y7
      obtain ⟨M', a1, a2, a3, a4, a5, a6, a7, a8⟩ := ih m' F Y (by omega) (p3.cong fun j _ => by rw [y4 53 (by decide) (by decide) (by decide), y4 54 (by decide) (by decide) (by decide)]; exact ⟨rfl, rfl⟩) (fun z hz => wq z (List.mem_cons_of_mem _ hz)) (fun z hz => hq z (List.mem_cons_of_mem _ hz)) y2 y6 (by omega)
      rw [y1] at a2 a3
      exact ⟨M', a1, a2, a3, a4, a5, fun k h1 h2 h3 => by rw [a6 k h1 h2 h3, y4 k h1 h2 h3], fun j h1 h2 => by rw [a7 j h1 h2, y5 j h1 h2], by rw [a8, y7]⟩
    have jump : (x.1 = 29 ∨ x.1 = 30) → ∃ M', f_X12_settle_63 sp_G (f_X12_settle_0 sp_G F) (nI least) X = some M' ∧ (M'.1 51, M'.1 52, (stl (x :: q) (M.1 51, M.1 52, m)).2.2) = stl (x :: q) (M.1 51, M.1 52, m) ∧ M'.1 40 23 = nI (stl (x :: q) (M.1 51, M.1 52, m)).2.2 ∧ M'.1 40 29 = nI P.length ∧ plM P M' ∧ (∀ k, k ≠ 40 → k ≠ 51 → k ≠ 52 → M'.1 k = M.1 k) ∧ (∀ j, j ≠ 23 → j ≠ 29 → M'.1 40 j = M.1 40 j) ∧ M'.2 = M.2 := by
      intro hj
      unfold f_X12_settle_63
      rw [x29, n_cl (by omega), if_neg (nIn (by omega) (by omega)), show X.1 54 (q ++ P).length = nI x.2 by rw [xk 54 (by decide)]; exact p2, n_cl (by omega), if_neg (nIn (by omega) (by omega)), xj 23 (by decide), h23]
      refine go (az_i X 52 x.2 (nI m)) m ?_ ?_ (by omega) (fun k h1 h2 h3 => by rw [gi_k h3, xk k h1]) (fun j h1 h2 => by rw [gi_k (by decide), xj j h2]) (by rw [gi_k (by decide)]; exact x29) x2
      · unfold st1
        rw [if_pos hj, az_i_ro, ro_ne (by decide), ro_eq, xk 51 (by decide), xk 52 (by decide)]
      · rw [gi_k (by decide), xj 23 (by decide)]; exact h23
    simp only [n_eqr (show (OfNat.ofNat 29 : Nat) < 2147483648 by decide) (show x.1 < 2147483648 by omega), n_eqr (show (OfNat.ofNat 30 : Nat) < 2147483648 by decide) (show x.1 < 2147483648 by omega)]
    by_cases h29' : x.1 = 29
    · rw [if_pos h29']; exact jump (Or.inl h29')
    · rw [if_neg h29']
      by_cases h30 : x.1 = 30
      · rw [if_pos h30]; exact jump (Or.inr h30)
      · rw [if_neg h30]
        obtain ⟨Y, e1, e2, e3, e4, e5, e6, e7⟩ := p_emit (M := X) (m := m) (by rw [xj 23 (by decide)]; exact h23) (by omega) (nI x.1) 0
        rw [e1, Option.bind_some]
        refine go Y (m + 1) ?_ e4 (by omega) (fun k h1 h2 h3 => by rw [e5 k h1 h2 h3, xk k h1]) (fun j h1 h2 => by rw [e6 j h1, xj j h2]) (by rw [e6 29 (by decide)]; exact x29) (by rw [e7, x2])
        unfold st1
        rw [if_neg (by omega), e2, e3, xk 51 (by decide), xk 52 (by decide)]
