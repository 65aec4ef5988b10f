/-! marks(): the reference -/
theorem flat_congr {α : Type} {l : List Nat} {f g : Nat → List α} (h : ∀ q, q ∈ l → f q = g q) : l.flatMap f = l.flatMap g := by
  induction l with
  | nil => rfl
  | cons q l ih => rw [List.flatMap_cons, List.flatMap_cons, h q List.mem_cons_self, ih (fun x hx => h x (List.mem_cons_of_mem _ hx))]
def mk_st (l : Option sp_L) (w f : Int32) : List Nat → (Nat → Int32) → Bool
  | [], N => decide (N 0 = w ∧ N 1 = f)
  | q :: r, N => decide (¬ (N (27 + q) = 2 ∨ N 0 ≤ 0)) && mk_st l w f r (sp_shot l N q)
def mk_all (P : Nat) : Nat → List (List Nat)
  | 0 => [[]]
  | d + 1 => (List.range P).flatMap (fun q => (mk_all P d).map (q :: ·))
theorem mk_ok_all (l : Option sp_L) (w f : Int32) (P : Nat) : ∀ (d : Nat) (N : Nat → Int32), mk_ok l w f P d N = (mk_all P d).filter (fun r => mk_st l w f r N) := by
  intro d
  induction d with
  | zero =>
    intro N
    rw [mk_ok, mk_all, List.filter_cons, List.filter_nil, mk_st]
    by_cases h : N 0 = w ∧ N 1 = f
    · rw [if_pos h, if_pos (decide_eq_true h)]
    · rw [if_neg h, if_neg (by rw [decide_eq_false h]; decide)]
  | succ d ih =>
    intro N
    rw [mk_ok, mk_all, List.filter_flatMap]
    refine congrArg (fun g => (List.range P).flatMap g) (funext fun q => ?_)
    rw [List.filter_map]
    by_cases h : N (27 + q) = 2 ∨ N 0 ≤ 0
    · rw [if_pos h]
      have : ((fun r => mk_st l w f r N) ∘ fun x => q :: x) = fun _ => false := by
        funext r
        show (decide (¬ (N (27 + q) = 2 ∨ N 0 ≤ 0)) && _) = false
        rw [decide_eq_false (fun e => e h), Bool.false_and]
      rw [this, List.filter_eq_nil_iff.mpr (fun r _ => by simp)]; rfl
    · rw [if_neg h, ih]
      have : ((fun r => mk_st l w f r N) ∘ fun x => q :: x) = fun r => mk_st l w f r (sp_shot l N q) := by
        funext r
        show (decide (¬ (N (27 + q) = 2 ∨ N 0 ≤ 0)) && _) = _
        rw [decide_eq_true h, Bool.true_and]
      rw [this]
def dg (P d c : Nat) : List Nat := (List.range d).map (fun k => c / P ^ (d - 1 - k) % P)
theorem range_mul (P K : Nat) : List.range (P * K) = (List.range P).flatMap (fun q => (List.range K).map (fun r => q * K + r)) := by
  induction P with
  | zero => rw [Nat.zero_mul]; rfl
  | succ P ih => rw [Nat.succ_mul, List.range_add, ih, List.range_succ, List.flatMap_append, List.flatMap_singleton]
theorem mk_all_dg (P : Nat) : ∀ d, mk_all P d = (List.range (P ^ d)).map (dg P d) := by
  intro d
  induction d with
  | zero => rfl
  | succ d ih =>
    rw [mk_all, Nat.pow_succ, Nat.mul_comm, range_mul, List.map_flatMap]
    refine flat_congr fun q hq => ?_
    rw [ih, List.map_map, List.map_map]
    refine List.map_congr_left fun r hr => ?_
    have hq' := List.mem_range.mp hq
    have hr' := List.mem_range.mp hr
    have hp : 0 < P := by omega
    show q :: dg P d r = dg P (d + 1) (q * P ^ d + r)
    unfold dg
    rw [List.range_succ_eq_map, List.map_cons, List.map_map]
    refine congr (congrArg List.cons ?_) ?_
    · rw [show d + 1 - 1 - 0 = d by omega, Nat.mul_comm, Nat.mul_add_div (Nat.pow_pos hp), Nat.div_eq_of_lt hr', Nat.add_zero, Nat.mod_eq_of_lt hq']
    · refine List.map_congr_left fun k hk => ?_
      have hk' := List.mem_range.mp hk
      show r / P ^ (d - 1 - k) % P = (q * P ^ d + r) / P ^ (d + 1 - 1 - (k + 1)) % P
      rw [show d + 1 - 1 - (k + 1) = d - 1 - k by omega, show q * P ^ d = P ^ (d - 1 - k) * (P * (P ^ k * q)) by
        rw [← Nat.mul_assoc, ← Nat.mul_assoc, ← Nat.pow_succ, ← Nat.pow_add, show (d - 1 - k).succ + k = d by omega, Nat.mul_comm], Nat.mul_add_div (Nat.pow_pos hp), Nat.mul_add_mod]
theorem dg_at {P d c k : Nat} (hk : k < d) : (dg P d c)[k]? = some (c / P ^ (d - 1 - k) % P) := by
  unfold dg
  rw [List.getElem?_map, List.getElem?_range hk]; rfl
theorem dg_len (P d c : Nat) : (dg P d c).length = d := by unfold dg; rw [List.length_map, List.length_range]
/-- marks: what the rows of shots read -/
def mk_sim (N N' : Nat → Int32) : Prop := ∀ j, j ≠ 3 → j ≠ 18 → j ≠ 21 → j ≠ 22 → j ≠ 26 → j < 121 → N j = N' j
theorem mk_env {N N' : Nat → Int32} (h : mk_sim N N') {q : Nat} (hq : q < 12) : sp_env N (-1) (nI q) = sp_env N' (-1) (nI q) := by
  have hc : (nI q).toNatClampNeg = q := n_cl (by omega)
  funext j
  by_cases h11 : j < 10
  · rcases (show j = 0 ∨ j = 1 ∨ j = 2 ∨ j = 3 ∨ j = 4 ∨ j = 5 ∨ j = 6 ∨ j = 7 ∨ j = 8 ∨ j = 9 by omega) with rfl | rfl | rfl | rfl | rfl | rfl | rfl | rfl | rfl | rfl
    · rfl
    · rfl
    · rfl
    · show N (27 + (nI q).toNatClampNeg) = N' (27 + (nI q).toNatClampNeg)
      rw [hc]; exact h _ (by omega) (by omega) (by omega) (by omega) (by omega) (by omega)
    · show N (39 + (nI q).toNatClampNeg) = N' (39 + (nI q).toNatClampNeg)
      rw [hc]; exact h _ (by omega) (by omega) (by omega) (by omega) (by omega) (by omega)
    · show N (4 + (nI q).toNatClampNeg) = N' (4 + (nI q).toNatClampNeg)
      rw [hc]; exact h _ (by omega) (by omega) (by omega) (by omega) (by omega) (by omega)
    · exact h 0 (by omega) (by omega) (by omega) (by omega) (by omega) (by omega)
    · exact h 1 (by omega) (by omega) (by omega) (by omega) (by omega) (by omega)
    · exact h 2 (by omega) (by omega) (by omega) (by omega) (by omega) (by omega)
    · exact h 16 (by omega) (by omega) (by omega) (by omega) (by omega) (by omega)
  · obtain ⟨i, rfl⟩ : ∃ i, j = i + 10 := ⟨j - 10, by omega⟩
    exact h 20 (by omega) (by omega) (by omega) (by omega) (by omega) (by omega)
theorem mk_ask {N N' : Nat → Int32} (h : mk_sim N N') (l : Option sp_L) {g q : Nat} (hg : g = 1 ∨ g = 2) (hq : q < 12) : sp_ask l N g (-1) (nI q) = sp_ask l N' g (-1) (nI q) := by
  rw [sp_ask_end, sp_ask_end, mk_env h hq]
  cases l.bind (fun l => sp_tell l (nI g) (sp_env N' (-1) (nI q))) with
  | some v => rfl
  | none =>
    show sp_without N g (-1) (nI q) = sp_without N' g (-1) (nI q)
    have hc : (nI q).toNatClampNeg = q := n_cl (by omega)
    unfold sp_without
    rw [hc]
    rcases hg with rfl | rfl
    · show N (39 + q) / 10 = N' (39 + q) / 10; rw [h (39 + q) (by omega) (by omega) (by omega) (by omega) (by omega) (by omega)]
    · show N (39 + q) / 20 = N' (39 + q) / 20; rw [h (39 + q) (by omega) (by omega) (by omega) (by omega) (by omega) (by omega)]
theorem mk_shot {N N' : Nat → Int32} (h : mk_sim N N') (l : Option sp_L) {q c : Nat} (hq : q < 12) (hc : c ≤ 1) : mk_sim (sp_shot l N q) (sp_fire l N' c q) := by
  have z : ∀ j, j ≠ 3 ∧ j ≠ 18 ∧ j ≠ 21 ∧ j ≠ 22 ∧ j ≠ 26 ∧ j < 121 → N j = N' j := fun j a => h j a.1 a.2.1 a.2.2.1 a.2.2.2.1 a.2.2.2.2.1 a.2.2.2.2.2
  have u : ∀ {X X' : Nat → Int32}, mk_sim X X' → ∀ a v, mk_sim (up X a v) (up X' a v) := by
    intro X X' hX a v j h1 h2 h3 h4 h5 h6
    by_cases e : j = a
    · subst e; rw [up_eq, up_eq]
    · rw [up_ne e, up_ne e]; exact hX j h1 h2 h3 h4 h5 h6
  have hit : mk_sim (sp_hit l N q) (sp_hit l N' q) := by
    unfold sp_hit sp_worn
    rw [mk_ask h l (Or.inl rfl) hq, mk_ask h l (Or.inr rfl) hq, z 0 (by omega), z 1 (by omega), z (4 + q) (by omega)]
    exact u (u (u h _ _) _ _) _ _
  have hn : mk_sim (sp_hit l N q) (sp_note (sp_lead (sp_hit l N' q) c (sp_worn l N' q)) (nI q)) := fun j h1 h2 h3 h4 h5 h6 => by
    rw [note_at _ _ h5 h6, lead_at _ _ _ (by omega)]; exact hit j h1 h2 h3 h4 h5 h6
  rw [sp_shot_eq l N hq]
  unfold sp_fire sp_dig
  generalize sp_note (sp_lead (sp_hit l N' q) c (sp_worn l N' q)) (nI q) = Y at hn ⊢
  generalize sp_hit l N q = X at hn ⊢
  have z : ∀ j, j ≠ 3 ∧ j ≠ 18 ∧ j ≠ 21 ∧ j ≠ 22 ∧ j ≠ 26 ∧ j < 121 → X j = Y j := fun j a => hn j a.1 a.2.1 a.2.2.1 a.2.2.2.1 a.2.2.2.2.1 a.2.2.2.2.2
  rw [z (27 + q) (by omega), z (51 + q) (by omega), z 19 (by omega)]
  split
  · exact u hn _ _
  · intro j h1 h2 h3 h4 h5 h6
    unfold sp_days
    rw [z 16 (by omega), z 2 (by omega), z j ⟨h1, h2, h3, h4, h5, h6⟩]

theorem r_marks95 {Z : az_S × Nat} {inF : Int32} {ls : Nat → sp_L} {P n : Nat} (hP : P ≤ 12) (hn : n ≤ 3) (K : Int32 → Int32 → Int32 → Int32 → Int32 → Int32 → az_M → Option (Int32 × az_M)) (w f x4 x5 x6 : Int32) : ∀ (r : List Nat) (k F : Nat), k + r.length = n → r.length + 1 < F → (∀ x, x ∈ r → x < P) → ∀ (B : Nat) (Nc N : Nat → Int32) (M : az_M), RefAt Z B inF ls N M → sp_wl B N → mk_sim Nc N → B + r.length ≤ 1000000000 → (∀ i x, r[i]? = some x → M.1 67 (k + i) = nI x) →
    ∃ M', f_X12_findMarks_95 sp_G K F (nI n) w f x4 x5 x6 1 (nI k) M = f_X12_findMarks_188 sp_G K (nI n) w f x4 x5 x6 (if mk_st (sp_law inF ls) w f r Nc = true then 1 else 0) M' ∧ sp_fq M M' := by
  intro r
  induction r with
  | nil =>
    intro k F hk hF hx B Nc N M R wl sm hB h67
    obtain ⟨F, rfl⟩ : ∃ F1, F = F1 + 1 := ⟨F - 1, by omega⟩
    rw [List.length_nil] at hk
    refine ⟨M, ?_, sp_fq.refl M⟩
    rw [f_X12_findMarks_95, if_pos (by rw [n_le (by omega) (by omega)]; omega)]
    unfold f_X12_findMarks_160 f_X12_findMarks_187
    rw [if_neg (by decide), show f_X12_bulletOf 0 M = some (M.1 42 11) from p_bulletOf (k := 0) (by decide) M, Option.bind_some, show f_X12_bulletOf 1 M = some (M.1 42 12) from p_bulletOf (k := 1) (by decide) M, Option.bind_some, ← R.pr.1.1, ← R.pr.1.2.1, ← sm 0 (by decide) (by decide) (by decide) (by decide) (by decide) (by decide), ← sm 1 (by decide) (by decide) (by decide) (by decide) (by decide) (by decide), mk_st]
    by_cases h0 : Nc 0 = w
    · by_cases h1 : Nc 1 = f
      · rw [if_pos h0, if_pos h1, decide_eq_true (And.intro h0 h1), if_pos rfl]
      · rw [if_pos h0, if_neg h1, decide_eq_false (fun e => h1 e.2), if_neg (by decide)]
    · rw [if_neg h0, decide_eq_false (fun e => h0 e.1), if_neg (by decide)]
  | cons q r ih =>
    intro k F hk hF hx B Nc N M R wl sm hB h67
    rw [List.length_cons] at hk hF hB
    obtain ⟨F, rfl⟩ : ∃ F1, F = F1 + 1 := ⟨F - 1, by omega⟩
    have hq : q < 12 := by have := hx q List.mem_cons_self; omega
    have e67 : M.1 67 k = nI q := h67 0 q rfl
    rw [f_X12_findMarks_95, if_neg (by rw [n_le (by omega) (by omega)]; omega), if_neg (by decide), if_neg (nI_in (by omega) (by decide)), n_cl (by omega), e67, show f_X12_ofPlace (nI q) 0 M = some (M.1 42 (17 + 4 * q)) from p_ofPlace (w := 0) hq (by decide) M, Option.bind_some, ← (R.pr.2.2.2.2.1 q hq).1, ← sm (27 + q) (by omega) (by omega) (by omega) (by omega) (by omega) (by omega), show f_X12_bulletOf 0 M = some (M.1 42 11) from p_bulletOf (k := 0) (by decide) M, Option.bind_some, ← R.pr.1.1, ← sm 0 (by decide) (by decide) (by decide) (by decide) (by decide) (by decide), mk_st]
    unfold f_X12_findMarks_134 f_X12_findMarks_135 f_X12_findMarks_154
    rw [show nI k + 1 = nI (k + 1) from (nI_succ k).symm]
    have out : (Nc (27 + q) = 2 ∨ Nc 0 ≤ 0) → f_X12_findMarks_95 sp_G K F (nI n) w f x4 x5 x6 0 (nI (k + 1)) M = f_X12_findMarks_188 sp_G K (nI n) w f x4 x5 x6 (if (decide (¬ (Nc (27 + q) = 2 ∨ Nc 0 ≤ 0)) && mk_st (sp_law inF ls) w f r (sp_shot (sp_law inF ls) Nc q)) = true then 1 else 0) M := by
      intro h
      rw [decide_eq_false (fun e => e h), Bool.false_and, if_neg (by decide)]
      obtain ⟨F, rfl⟩ : ∃ F1, F = F1 + 1 := ⟨F - 1, by omega⟩
      rw [f_X12_findMarks_95]
      unfold f_X12_findMarks_160 f_X12_findMarks_187
      by_cases hl : nI n ≤ nI (k + 1)
      · rw [if_pos hl, if_pos rfl]
      · rw [if_neg hl, if_pos rfl, if_pos rfl]
    by_cases h2 : Nc (27 + q) = 2
    · rw [if_pos h2, if_pos rfl]; exact ⟨M, out (Or.inl h2), sp_fq.refl M⟩
    · rw [if_neg h2]
      by_cases h0 : Nc 0 ≤ 0
      · rw [if_pos h0, if_pos rfl]; exact ⟨M, out (Or.inr h0), sp_fq.refl M⟩
      · rw [if_neg h0, if_neg (by decide), if_neg (nI_in (by omega) (by decide)), n_cl (by omega), e67, decide_eq_true (show ¬ (Nc (27 + q) = 2 ∨ Nc 0 ≤ 0) from fun e => e.elim h2 h0), Bool.true_and]
        obtain ⟨M1, a1, a2, a3⟩ := r_shoot R hq (c := 0) (by decide)
        obtain ⟨rg, wl'⟩ := fire_rg R.rg wl (by omega) (sp_law inF ls) hq (c := 0) (by decide)
        rw [show f_X12_shoot sp_G 0 (nI q) M = some M1 from a1, Option.bind_some]
        obtain ⟨M2, b1, b2⟩ := ih (k + 1) F (by omega) (by omega) (fun x h => hx x (List.mem_cons_of_mem _ h)) (B + 1) (sp_shot (sp_law inF ls) Nc q) _ M1 (R.fq a3 a2 rg (by omega)) wl' (mk_shot sm _ hq (by decide)) (by omega) (fun i x h => by
          rw [a3.1 67 (by decide) (by decide), show k + 1 + i = k + (i + 1) by omega]; exact h67 (i + 1) x h)
        exact ⟨M2, b1, a3.trans b2⟩
/-- the digits of a row's number -/
theorem r_digits {P n : Nat} (hP : P ≤ 12) (hn : n ≤ 3) (K : Int32 → Int32 → Int32 → Int32 → Int32 → Int32 → az_M → Option (Int32 × az_M)) (w f x4 x5 x6 : Int32) (c : Nat) (hc : c < 100000) (hP0 : 0 < P) : ∀ (e F : Nat), e ≤ n → e < F → ∀ (M : az_M), M.1 42 0 = nI P → (∀ k, e ≤ k → k < n → M.1 67 k = nI (c / P ^ (n - 1 - k) % P)) →
    ∃ M', f_X12_findMarks_51 sp_G K F (nI n) w f x4 x5 x6 (nI (c / P ^ (n - e))) (nI e - 1) M = f_X12_findMarks_95 sp_G K sp_G (nI n) w f x4 x5 x6 1 0 M' ∧ (∀ k, k ≠ 67 → M'.1 k = M.1 k) ∧ M'.2 = M.2 ∧ ∀ k, k < n → M'.1 67 k = nI (c / P ^ (n - 1 - k) % P) := by
  intro e
  induction e with
  | zero =>
    intro F he hF M hPm h67
    obtain ⟨F, rfl⟩ : ∃ F1, F = F1 + 1 := ⟨F - 1, by omega⟩
    refine ⟨M, ?_, fun _ _ => rfl, rfl, fun k hk => h67 k (by omega) hk⟩
    rw [f_X12_findMarks_51, if_pos (by decide)]
  | succ e ih =>
    intro F he hF M hPm h67
    obtain ⟨F, rfl⟩ : ∃ F1, F = F1 + 1 := ⟨F - 1, by omega⟩
    have hd : c / P ^ (n - (e + 1)) < 2147483648 := Nat.lt_of_le_of_lt (Nat.div_le_self _ _) (by omega)
    have ne0 : ¬ nI P = 0 := nI_ne0 hP0 (by omega)
    rw [f_X12_findMarks_51, nI_pred, if_neg (nI_pos (by omega)), hPm, if_neg ne0, if_neg (nI_in (by omega) (by decide)), n_cl (by omega), gi_k (by decide), hPm, if_neg ne0, n_rem hd (by omega), n_div hd (by omega), Nat.div_div_eq_div_mul, ← Nat.pow_succ, show (n - (e + 1)).succ = n - e by omega]
    have : nI e + (-1) = nI e - 1 := by rw [Int32.sub_eq_add_neg]
    rw [this]
    obtain ⟨M', a1, a2, a3, a4⟩ := ih F (by omega) (by omega) (az_i M 67 e (nI (c / P ^ (n - (e + 1)) % P))) (by rw [gi_k (by decide)]; exact hPm) (fun k h1 h2 => by
      rw [gi, if_pos rfl]
      by_cases hk : k = e
      · rw [if_pos hk, hk, show n - 1 - e = n - (e + 1) by omega]
      · rw [if_neg hk]; exact h67 k (by omega) h2)
    exact ⟨M', a1, fun k hk => by rw [a2 k hk, gi_k hk], a3, a4⟩
/-- the first row is kept -/
theorem r_first {n : Nat} (hn : n ≤ 3) (K : Int32 → Int32 → Int32 → Int32 → Int32 → Int32 → az_M → Option (Int32 × az_M)) (w f x4 x6 : Int32) : ∀ (e k F : Nat), k + e = n → e < F → ∀ (M : az_M), ∃ M', f_X12_findMarks_199 sp_G K F (nI n) w f x4 0 x6 1 (nI k) M = K (nI n) w f x4 (0 + 1) (x6 + 1) M' ∧ (∀ i, i ≠ 66 → M'.1 i = M.1 i) ∧ M'.2 = M.2 ∧ (∀ i, i < k → M'.1 66 i = M.1 66 i) ∧ ∀ i, k ≤ i → i < n → M'.1 66 i = M.1 67 i := by
  intro e
  induction e with
  | zero =>
    intro k F hk hF M
    obtain ⟨F, rfl⟩ : ∃ F1, F = F1 + 1 := ⟨F - 1, by omega⟩
    refine ⟨M, ?_, fun _ _ => rfl, rfl, fun _ _ => rfl, fun i h1 h2 => by omega⟩
    rw [f_X12_findMarks_199, if_pos (by rw [n_le (by omega) (by omega)]; omega)]
    unfold f_X12_findMarks_235 f_X12_findMarks_247
    rw [if_neg (by decide)]
  | succ e ih =>
    intro k F hk hF M
    obtain ⟨F, rfl⟩ : ∃ F1, F = F1 + 1 := ⟨F - 1, by omega⟩
    rw [f_X12_findMarks_199, if_neg (by rw [n_le (by omega) (by omega)]; omega), if_neg (by decide), if_pos rfl, if_neg (nI_in (by omega) (by decide)), if_neg (nI_in (by omega) (by decide)), n_cl (by omega), show nI k + 1 = nI (k + 1) from (nI_succ k).symm]
    obtain ⟨M', a1, a2, a3, a4, a5⟩ := ih (k + 1) F (by omega) (by omega) (az_i M 66 k (M.1 67 k))
    refine ⟨M', a1, fun i hi => by rw [a2 i hi, gi_k hi], a3, fun i hi => by rw [a4 i (by omega), gi, if_pos rfl, if_neg (by omega)], fun i h1 h2 => ?_⟩
    by_cases hi : i = k
    · rw [hi, a4 k (by omega), gi, if_pos rfl, if_pos rfl]
    · rw [a5 i (by omega) h2, gi_k (by decide)]
theorem r_nofirst {n : Nat} (hn : n ≤ 3) (hn1 : 1 ≤ n) (K : Int32 → Int32 → Int32 → Int32 → Int32 → Int32 → az_M → Option (Int32 × az_M)) (w f x4 x5 x6 s : Int32) (h : s = 0 ∨ ¬ x5 = 0) (M : az_M) (F : Nat) : f_X12_findMarks_199 sp_G K (F + 1) (nI n) w f x4 x5 x6 s 0 M = K (nI n) w f x4 (x5 + (if s = 0 then 0 else 1)) (x6 + 1) M := by
  rw [f_X12_findMarks_199, if_neg (by rw [show (0 : Int32) = nI 0 from rfl, n_le (by omega) (by omega)]; omega)]
  unfold f_X12_findMarks_235 f_X12_findMarks_247
  by_cases h0 : s = 0
  · rw [if_pos h0, if_pos h0, if_pos h0]
  · rw [if_neg h0, if_neg h0, if_neg h0, if_neg (h.resolve_left h0)]
