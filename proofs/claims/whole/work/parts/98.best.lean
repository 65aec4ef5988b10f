/-! queue(), spades(): rows, the best of them -/
theorem best_none {L : List (List Nat × Int32)} : sp_best L = none ↔ L = [] := by
  cases L with
  | nil => exact ⟨fun _ => rfl, fun _ => rfl⟩
  | cons x xs =>
    rw [sp_best]
    cases sp_best xs with
    | none => exact ⟨fun h => (by cases h), fun h => (by cases h)⟩
    | some y =>
      constructor
      · intro h
        simp only at h
        split at h <;> cases h
      · intro h; cases h
theorem best_max : ∀ {L : List (List Nat × Int32)} {x : List Nat × Int32}, sp_best L = some x → x ∈ L ∧ ∀ y, y ∈ L → y.2.toInt ≤ x.2.toInt := by
  intro L
  induction L with
  | nil => intro x h; cases h
  | cons a L ih =>
    intro x h
    rw [sp_best] at h
    cases hb : sp_best L with
    | none =>
      rw [hb] at h
      injection h with h
      subst h
      rw [best_none.mp hb]
      exact ⟨List.mem_cons_self, fun y hy => by rw [List.mem_singleton.mp hy]; exact Int.le_refl _⟩
    | some z =>
      rw [hb] at h
      obtain ⟨z1, z2⟩ := ih hb
      by_cases hz : z.2 ≤ a.2
      · simp only [if_pos hz] at h
        injection h with h
        subst h
        rw [Int32.le_iff_toInt_le] at hz
        refine ⟨List.mem_cons_self, fun y hy => ?_⟩
        rcases List.mem_cons.mp hy with e | e
        · rw [e]; exact Int.le_refl _
        · exact Int.le_trans (z2 y e) hz
      · simp only [if_neg hz] at h
        injection h with h
        subst h
        rw [Int32.le_iff_toInt_le] at hz
        refine ⟨List.mem_cons_of_mem _ z1, fun y hy => ?_⟩
        rcases List.mem_cons.mp hy with e | e
        · rw [e]; omega
        · exact z2 y e
theorem best_append (A B : List (List Nat × Int32)) : sp_best (A ++ B) = (match sp_best A with | none => sp_best B | some x => match sp_best B with | none => some x | some y => if y.2 ≤ x.2 then some x else some y) := by
  induction A with
  | nil => rfl
  | cons a A ih =>
    rw [List.cons_append, sp_best, ih, sp_best]
    cases sp_best A with
    | none =>
      cases sp_best B with
      | none => rfl
      | some y => rfl
    | some x =>
      cases sp_best B with
      | none => simp only; split <;> rfl
      | some y =>
        simp only [Int32.le_iff_toInt_le]
        by_cases h1 : y.2.toInt ≤ x.2.toInt
        · simp only [if_pos h1]
          by_cases h2 : x.2.toInt ≤ a.2.toInt
          · simp only [if_pos h2]; rw [if_pos (by omega)]
          · simp only [if_neg h2, if_pos h1]
        · simp only [if_neg h1]
          by_cases h2 : x.2.toInt ≤ a.2.toInt
          · simp only [if_pos h2]
          · simp only [if_neg h2, if_neg h1]; rw [if_neg (by omega)]
theorem best_map (q : Nat) (L : List (List Nat × Int32)) : sp_best (L.map (fun x => (q :: x.1, x.2))) = (sp_best L).map (fun x => (q :: x.1, x.2)) := by
  induction L with
  | nil => rfl
  | cons a L ih =>
    rw [List.map_cons, sp_best, ih, sp_best]
    cases sp_best L with
    | none => rfl
    | some y =>
      simp only [Option.map_some]
      split <;> rfl
/-- what a search tells of the best, above a bound -/
def bestOK (b : Int) (L : List (List Nat × Int32)) (c w : Int32) : Prop :=
  -1 ≤ w.toInt ∧ (∀ x, sp_best L = some x → b < x.2.toInt → c = sp_code x.1 ∧ w = x.2) ∧ ∀ b', b ≤ b' → (∀ x, x ∈ L → x.2.toInt ≤ b') → w.toInt ≤ b'
def bUp (b : Int) (L : List (List Nat × Int32)) : Int := match sp_best L with | none => b | some x => if b < x.2.toInt then x.2.toInt else b
theorem bUp_le {b : Int} {L : List (List Nat × Int32)} : b ≤ bUp b L := by
  unfold bUp
  cases sp_best L with
  | none => exact Int.le_refl _
  | some x => simp only; split <;> omega
theorem bUp_all {b : Int} {L : List (List Nat × Int32)} : ∀ x, x ∈ L → x.2.toInt ≤ bUp b L := by
  intro x hx
  unfold bUp
  cases h : sp_best L with
  | none => rw [best_none.mp h] at hx; cases hx
  | some y =>
    have := (best_max h).2 x hx
    simp only
    split <;> omega
theorem bUp_min {b b' : Int} {L : List (List Nat × Int32)} (h : b ≤ b') (hL : ∀ x, x ∈ L → x.2.toInt ≤ b') : bUp b L ≤ b' := by
  unfold bUp
  cases hb : sp_best L with
  | none => exact h
  | some y =>
    have := hL y (best_max hb).1
    simp only
    split <;> omega
theorem bestOK.nil {b : Int} (hb : -1 ≤ b) (c : Int32) : bestOK b [] c (-1) := ⟨by decide, fun x h => (by cases h), fun b' h _ => by have : (-1 : Int32).toInt = -1 := rfl; omega⟩
theorem bestOK.none {b : Int} {L : List (List Nat × Int32)} (hb : -1 ≤ b) (hL : ∀ x, x ∈ L → x.2.toInt ≤ b) (c : Int32) : bestOK b L c (-1) :=
  ⟨by decide, fun x h h2 => by have := hL x (best_max h).1; omega, fun b' h _ => by have : (-1 : Int32).toInt = -1 := rfl; omega⟩
theorem bestOK.step {b : Int} {Rd Rc : List (List Nat × Int32)} {x6 x7 cb cl ah : Int32} {q : Nat} (h : bestOK b Rd x6 x7) (hc : bestOK (bUp b Rd) Rc cb cl) (ha : ∀ x, x ∈ Rc → ah ||| sp_code x.1 = sp_code (q :: x.1)) :
    bestOK b (Rd ++ Rc.map (fun x => (q :: x.1, x.2))) (if cl ≤ x7 then x6 else ah ||| cb) (if x7 < cl then cl else x7) := by
  obtain ⟨h1, h2, h3⟩ := h
  obtain ⟨c1, c2, c3⟩ := hc
  have e7 : ∀ {P : Int32 → Prop}, P x7 → P cl → P (if x7 < cl then cl else x7) := fun a b => by split <;> assumption
  refine ⟨e7 (P := fun w => -1 ≤ w.toInt) h1 c1, fun z hz hb => ?_, fun b' hb hL => ?_⟩
  · rw [best_append, best_map] at hz
    have k7 := h3 (bUp b Rd) bUp_le bUp_all
    by_cases hi : ∃ y, sp_best Rc = some y ∧ bUp b Rd < y.2.toInt
    · obtain ⟨y, hy, hyb⟩ := hi
      obtain ⟨rfl, rfl⟩ := c2 y hy hyb
      have n7 : ¬ y.2 ≤ x7 := by rw [Int32.le_iff_toInt_le]; omega
      have l7 : x7 < y.2 := by rw [Int32.lt_iff_toInt_lt]; omega
      rw [if_neg n7, if_pos l7, ha y (best_max hy).1]
      rw [hy] at hz
      cases hd : sp_best Rd with
      | none =>
        rw [hd] at hz
        injection hz with hz
        subst hz
        exact ⟨rfl, rfl⟩
      | some x =>
        rw [hd] at hz
        have := bUp_all (b := b) x (best_max hd).1
        simp only [Option.map_some] at hz
        rw [if_neg (by rw [Int32.le_iff_toInt_le]; show ¬ y.2.toInt ≤ _; omega)] at hz
        injection hz with hz
        subst hz
        exact ⟨rfl, rfl⟩
    · have hR : ∀ x, x ∈ Rc → x.2.toInt ≤ bUp b Rd := by
        intro x hx
        cases hy : sp_best Rc with
        | none => rw [best_none.mp hy] at hx; cases hx
        | some y =>
          have a1 := (best_max hy).2 x hx
          have a2 : ¬ bUp b Rd < y.2.toInt := fun e => hi ⟨y, hy, e⟩
          omega
      have k8 := c3 (bUp b Rd) (Int.le_refl _) hR
      cases hd : sp_best Rd with
      | none =>
        exfalso
        rw [hd] at hz
        cases hy : sp_best Rc with
        | none => rw [hy] at hz; cases hz
        | some y =>
          rw [hy] at hz
          injection hz with hz
          subst hz
          have := hR y (best_max hy).1
          have e : bUp b Rd = b := by unfold bUp; rw [hd]
          rw [e] at this
          exact absurd hb (by show ¬ b < y.2.toInt; omega)
      | some x =>
        rw [hd] at hz
        have hbx : bUp b Rd = if b < x.2.toInt then x.2.toInt else b := by unfold bUp; rw [hd]
        have hzx : z = x := by
          cases hy : sp_best Rc with
          | none => rw [hy] at hz; injection hz with hz; exact hz.symm
          | some y =>
            rw [hy] at hz
            simp only [Option.map_some] at hz
            have hyR := hR y (best_max hy).1
            by_cases hc : y.2.toInt ≤ x.2.toInt
            · rw [if_pos (by rw [Int32.le_iff_toInt_le]; exact hc)] at hz; injection hz with hz; exact hz.symm
            · rw [if_neg (by rw [Int32.le_iff_toInt_le]; exact hc)] at hz
              injection hz with hz
              subst hz
              exfalso
              have hb' : b < y.2.toInt := hb
              rw [hbx] at hyR
              split at hyR <;> omega
        subst hzx
        obtain ⟨rfl, rfl⟩ := h2 z hd hb
        rw [if_pos hb] at hbx
        rw [hbx] at k8
        exact ⟨by rw [if_pos (by rw [Int32.le_iff_toInt_le]; exact k8)], by rw [if_neg (by rw [Int32.lt_iff_toInt_lt]; omega)]⟩
  · have a1 := h3 b' hb (fun x hx => hL x (List.mem_append_left _ hx))
    have a2 := c3 b' (bUp_min hb (fun x hx => hL x (List.mem_append_left _ hx))) (fun x hx => hL (q :: x.1, x.2) (List.mem_append_right _ (List.mem_map.mpr ⟨x, hx, rfl⟩)))
    exact e7 (P := fun w => w.toInt ≤ b') a1 a2
theorem rows_mem (l : Option sp_L) : ∀ (d : Nat) (rem : List Nat) (N : Nat → Int32) (x : List Nat × Int32), x ∈ sp_rows l d rem N → x.1.length = d ∧ ∀ q, q ∈ x.1 → q ∈ rem := by
  intro d
  induction d with
  | zero =>
    intro rem N x hx
    rw [sp_rows] at hx
    rw [List.mem_singleton.mp hx]
    exact ⟨rfl, fun q hq => by cases hq⟩
  | succ d ih =>
    intro rem N x hx
    rw [sp_rows] at hx
    obtain ⟨q, hq, hx⟩ := List.mem_flatMap.mp hx
    cases hm : sp_miss l N q with
    | none => rw [hm] at hx; cases hx
    | some N' =>
      rw [hm] at hx
      obtain ⟨y, hy, rfl⟩ := List.mem_map.mp hx
      obtain ⟨y1, y2⟩ := ih _ _ y hy
      refine ⟨by rw [List.length_cons, y1], fun p hp => ?_⟩
      rcases List.mem_cons.mp hp with e | e
      · rw [e]; exact hq
      · exact (List.mem_filter.mp (y2 p e)).1
theorem rows_len (l : Option sp_L) : ∀ (d : Nat) (rem : List Nat) (N : Nat → Int32), rem.length ≤ 7 → (sp_rows l d rem N).length ≤ 7 ^ d := by
  intro d
  induction d with
  | zero => intro rem N _; exact Nat.le_refl 1
  | succ d ih =>
    intro rem N hr
    rw [sp_rows]
    refine Nat.le_trans (flat_le _ (7 ^ d) _ (fun q _ => ?_)) ?_
    · cases sp_miss l N q with
      | none => exact Nat.zero_le _
      | some N' =>
        simp only [List.length_map]
        exact ih _ _ (Nat.le_trans (List.length_filter_le _ _) hr)
    · rw [Nat.pow_succ, Nat.mul_comm (7 ^ d)]; exact Nat.mul_le_mul_right _ hr
theorem shots_17 (l : Option sp_L) {w : Nat} (hw : w < 12) : ∀ (n : Nat) (N N' : Nat → Int32), sp_shots l n N w = some N' → ∀ j, 17 ≤ j → N' j = N j := by
  intro n
  induction n with
  | zero => intro N N' h j _; injection h with h; rw [h]
  | succ n ih =>
    intro N N' h j hj
    rw [sp_shots] at h
    split at h
    · rw [ih _ _ h j hj, shot_17 l N hw hj]
    · cases h
theorem shots_3 (l : Option sp_L) {w : Nat} (hw : w < 12) : ∀ (n : Nat) (N N' : Nat → Int32), N (27 + w) ≠ 2 → N 3 = 0 → sp_shots l n N w = some N' → N' 3 = 0 := by
  intro n
  induction n with
  | zero => intro N N' _ h3 h; injection h with h; rw [← h]; exact h3
  | succ n ih =>
    intro N N' hk h3 h
    rw [sp_shots] at h
    split at h
    · refine ih _ _ (by rw [shot_17 l N hw (by omega)]; exact hk) ?_ h
      rw [sp_shot_eq l N hw]
      unfold sp_dig
      rw [if_neg (by rw [hit_at l N (by omega) (by omega) (by omega)]; exact hk)]
      unfold sp_days
      rw [if_neg (by decide), if_neg (by decide), hit_at l N (by decide) (by decide) (by omega), h3]
    · cases h
theorem shots_lake (l : Option sp_L) {w : Nat} (hw : w < 12) (n : Nat) (N : Nat → Int32) (hk : N (27 + w) = 2) : sp_shots l (n + 2) N w = none := by
  rw [sp_shots]
  split
  · rw [sp_shots, if_neg]
    rintro ⟨e, -⟩
    rw [sp_shot_eq l N hw] at e
    unfold sp_dig at e
    rw [if_pos (by rw [hit_at l N (by omega) (by omega) (by omega)]; exact hk), up_eq] at e
    exact absurd e (by decide)
  · rfl
theorem miss_eq (l : Option sp_L) {N : Nat → Int32} {q w rd : Nat} (hw : w < 12) (hN : N (107 + q) = nI w) (hrd : N 17 = nI rd) (h1 : 1 ≤ rd) (h4 : rd ≤ 4) : sp_miss l N q = (match sp_shots l (2 * rd) N w with | none => none | some N' => if N' 16 ≤ N (114 + q) then some N' else none) := by
  unfold sp_miss
  rw [hrd, hN, n_cl (by omega), n_cl (by omega)]
  cases h : sp_shots l (2 * rd) N w with
  | none => rfl
  | some N' =>
    have z3 : N' 3 = 0 := by
      by_cases hk : N (27 + w) = 2
      · obtain ⟨k, hk2⟩ : ∃ k, 2 * rd = k + 2 := ⟨2 * rd - 2, by omega⟩
        rw [hk2, shots_lake l hw k N hk] at h; cases h
      · obtain ⟨k, hk2⟩ : ∃ k, 2 * rd = k + 1 := ⟨2 * rd - 1, by omega⟩
        have h' := h
        rw [hk2, sp_shots] at h'
        split at h'
        · rename_i hc
          exact shots_3 l hw (2 * rd) N N' hk hc.1 h
        · cases h'
    show (if N' 3 = 0 ∧ N' 16 ≤ N (114 + q) then some N' else none) = _
    simp only [z3, true_and]
