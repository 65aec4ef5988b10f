theorem RSt.leaf {T : Nat → Nat} {L o i c b m : Nat} {P : List (Nat × Nat)} {M : az_M} (hL : L ≤ 400) (h255 : ∀ i, T i ≤ 255) (h : RSt T L o i c b m P M) (hc : c < 50) (hk : tkd T L i ≠ 0) (op ar : Int32) : ∃ M', f_X12_leaf sp_G 1 op ar M = some M' ∧ RSt T L o (tnx T L i) (c + 1) b (m + 1) P M' ∧ M'.1 51 = up (M.1 51) m op ∧ M'.1 52 = up (M.1 52) m ar ∧ rFr m M M' := by
  obtain ⟨M1, a1, a2, a3⟩ := h.mustOK hL h255
  have tl := tnx_lt hk
  have hm := h.2.2.2.1.2.1
  obtain ⟨⟨h1, h2⟩, ⟨k1, k2, k3, k4, k5, k6⟩, ⟨p1, p2⟩, ⟨b1, b2, b3, b4⟩, rw⟩ := a2
  obtain ⟨M2, e1, e2, e3, e4, e5, e6, e7⟩ := p_emit k5 (by omega) op ar
  generalize hX : az_i M2 40 26 (nI (c + 1)) = X
  have xk : ∀ k, k ≠ 40 → X.1 k = M2.1 k := fun k hk => by rw [← hX, gi_k hk]
  have xj : ∀ j, j ≠ 26 → X.1 40 j = M2.1 40 j := fun j hj => by rw [← hX, gi, if_pos rfl, if_neg hj]
  have x2 : X.2 = M1.2 := by rw [← hX]; exact e7
  have f12 : rFr m M1 X := ⟨fun k a b c _ _ => by rw [xk k a, e5 k a b c], fun j _ _ _ _ _ a b _ _ => by rw [xj j b, e6 j a], fun k _ => by rw [x2], fun j _ => by rw [x2], by rw [x2], fun j hj => by rw [xk 51 (by decide), xk 52 (by decide), e2, e3, up_ne (by omega), up_ne (by omega)]; exact ⟨rfl, rfl⟩⟩
  refine ⟨X, ?_, ⟨⟨h1.fr f12, ?_⟩, ⟨?_, ?_, ?_, ?_, ?_, ?_⟩, ⟨p1.cong fun j _ => ?_, p2⟩, ⟨b1, by omega, by omega, b4⟩, rw.fr f12⟩, ?_, ?_, (a3.fr m).trans f12⟩
  · unfold f_X12_leaf f_X12_leaf_18 f_X12_leaf_19 f_X12_leaf_45
    rw [if_neg (by decide), h.2.1.2.2.1, if_neg (by rw [show (50 : Int32) = nI 50 from rfl, n_le (by omega) (by omega)]; omega), a1, Option.bind_some, if_pos k2, e1, Option.bind_some, e6 26 (by decide), k3, show nI c + 1 = nI (c + 1) from (nI_succ c).symm, hX]
  · unfold tokR; rw [xj 16 (by decide), xj 14 (by decide), xj 15 (by decide), e6 16 (by decide), e6 14 (by decide), e6 15 (by decide), x2]; exact h2
  · rw [xj 20 (by decide), e6 20 (by decide)]; exact k1
  · rw [xj 19 (by decide), e6 19 (by decide)]; exact k2
  · rw [← hX, gi, if_pos rfl, if_pos rfl]
  · rw [xj 30 (by decide), e6 30 (by decide)]; exact k4
  · rw [xj 23 (by decide)]; exact e4
  · rw [xj 29 (by decide), e6 29 (by decide)]; exact k6
  · rw [xk 53 (by decide), xk 54 (by decide), e5 53 (by decide) (by decide) (by decide), e5 54 (by decide) (by decide) (by decide)]; exact ⟨rfl, rfl⟩
  · rw [xk 51 (by decide), e2, a3.1 51 (by decide)]
  · rw [xk 52 (by decide), e3, a3.1 52 (by decide)]
/-- the recursive reader of sums does as it should -/
def HS (T : Nat → Nat) (L o wl : Nat) (R : az_M → Option (Int32 × az_M)) (b : Nat) : Prop := ∀ (i c n m : Nat) (P : List (Nat × Nat)) (Mc Mr : az_M) (x1 : Int32), CSt T L o i c b n Mc → RSt T L o i c b m P Mr → (P = [] ∨ ∃ x P', P = x :: P' ∧ bd x.1 < 5) → JO T L o wl x1 1 3 i c b n m P arith (sok wl) (eSum T L) Mc Mr (R Mc)
theorem sok_push {wl w s : Nat} (hs : s = 0 ∨ (s = 1 ∧ w < wl)) (hw : w ≤ 100000) : sok wl (fun e => some (if s = 0 then nI w else e w)) := by
  intro e v he hv
  injection hv with hv
  rw [← hv]
  rcases hs with rfl | ⟨rfl, hw2⟩
  · rw [if_pos rfl, n_int (by omega)]; omega
  · rw [if_neg (by decide)]; exact he w hw2
theorem innV_arith {q P : List (Nat × Nat)} (h : ∀ x, x ∈ q → arith x.1) : innV (q ++ P) = innV P := by
  induction q with
  | nil => rfl
  | cons x q ih =>
    have := (h x List.mem_cons_self).2
    rw [List.cons_append, innV, if_neg (by omega)]
    exact ih (fun z hz => h z (List.mem_cons_of_mem _ hz))
theorem bd_arith {op : Nat} (h : arith op) : 5 ≤ bd op := by
  unfold bd
  obtain ⟨a, b⟩ := h
  rw [if_neg (by omega), if_neg (by omega), if_neg (by omega), if_neg (by omega), if_neg (by omega)]
  split <;> omega
/-- the reference settles its pile of so much, in a state -/
theorem RSt.settle {T : Nat → Nat} {L o i c b m : Nat} {q P : List (Nat × Nat)} {M : az_M} (hL : L ≤ 400) (h : RSt T L o i c b m (q ++ P) M) (least m0 : Nat) (hl : least ≤ 100) (hq : ∀ x, x ∈ q → least ≤ bd x.1) (hP : P = [] ∨ ∃ x P', P = x :: P' ∧ bd x.1 < least) (hat : ∀ x, x ∈ q → x.1 = 29 ∨ x.1 = 30 → m0 ≤ x.2) (hm0 : m0 ≤ m) : ∃ M' m', f_X12_settle sp_G (nI least) M = some M' ∧ RSt T L o i c b m' P M' ∧ (M'.1 51, M'.1 52, m') = stl q (M.1 51, M.1 52, m) ∧ rFr m0 M M' ∧ (∀ j, j ≠ 23 → j ≠ 29 → M'.1 40 j = M.1 40 j) := by
  obtain ⟨⟨h1, h2⟩, ⟨k1, k2, k3, k4, k5, k6⟩, ⟨p1, p2⟩, ⟨b1, b2, b3, b4⟩, rw⟩ := h
  have hfu : q.length + 1 ≤ sp_G := by
    have : q.length ≤ (q ++ P).length := by rw [List.length_append]; omega
    show q.length + 1 ≤ 1000000
    omega
  obtain ⟨M', a1, a2, a3, a4, a5, a6, a7, a8⟩ := r_settle least hl hP (fun x hx => p2 x (List.mem_append_right _ hx)) q m sp_G M hfu p1 (fun x hx => p2 x (List.mem_append_left _ hx)) hq k5 k6 (by omega)
  have sl := stl_le q (M.1 51, M.1 52, m)
  have low : ∀ (q : List (Nat × Nat)) (S : rC), m0 ≤ S.2.2 → (∀ x, x ∈ q → x.1 = 29 ∨ x.1 = 30 → m0 ≤ x.2) → ∀ j, j < m0 → (stl q S).1 j = S.1 j ∧ (stl q S).2.1 j = S.2.1 j := by
    intro q
    induction q with
    | nil => intro S _ _ j _; exact ⟨rfl, rfl⟩
    | cons x q ih =>
      intro S hS hx j hj
      have s1 := st1_le x S
      obtain ⟨e1, e2⟩ := ih (st1 x S) (by omega) (fun z hz => hx z (List.mem_cons_of_mem _ hz)) j hj
      rw [stl, e1, e2]
      unfold st1
      by_cases hc : x.1 = 29 ∨ x.1 = 30
      · have := hx x List.mem_cons_self hc
        rw [if_pos hc]; exact ⟨rfl, up_ne (by omega)⟩
      · rw [if_neg hc]; exact ⟨up_ne (by omega), up_ne (by omega)⟩
  have lw := low q (M.1 51, M.1 52, m) hm0 hat
  have e51 : M'.1 51 = (stl q (M.1 51, M.1 52, m)).1 := congrArg (fun S : rC => S.1) a2
  have e52 : M'.1 52 = (stl q (M.1 51, M.1 52, m)).2.1 := congrArg (fun S : rC => S.2.1) a2
  have fr : rFr m0 M M' := ⟨fun k a b c _ _ => a6 k a b c, fun j _ _ _ _ _ a _ b _ => a7 j a b, fun k _ => by rw [a8], fun j _ => by rw [a8], by rw [a8], fun j hj => by rw [e51, e52]; exact lw j hj⟩
  refine ⟨M', (stl q (M.1 51, M.1 52, m)).2.2, a1, ⟨⟨h1.fr fr, ?_⟩, ⟨?_, ?_, ?_, ?_, a3, a4⟩, ⟨a5, fun x hx => p2 x (List.mem_append_right _ hx)⟩, ⟨b1, ?_, b3, b4⟩, rw.fr fr⟩, a2, fr, a7⟩
  · unfold tokR; rw [a7 16 (by decide) (by decide), a7 14 (by decide) (by decide), a7 15 (by decide) (by decide), a8]; exact h2
  · rw [a7 20 (by decide) (by decide)]; exact k1
  · rw [a7 19 (by decide) (by decide)]; exact k2
  · rw [a7 26 (by decide) (by decide)]; exact k3
  · rw [a7 30 (by decide) (by decide)]; exact k4
  · rw [List.length_append] at b2
    have := sl.2
    show (stl q (M.1 51, M.1 52, m)).2.2 + P.length ≤ i
    have e : (M.1 51, M.1 52, m).2.2 = m := rfl
    omega
theorem RSt.pushP {T : Nat → Nat} {L o i j c b m : Nat} {P : List (Nat × Nat)} {M : az_M} (hL : L ≤ 400) (h : RSt T L o i c b m P M) (op at' : Nat) (hop : op ≤ 32) (hat : at' < 400) (hi : m + P.length < i) : ∃ M', f_X12_push (nI op) (nI at') M = some M' ∧ RSt T L o i c b m ((op, at') :: P) M' ∧ rFr m M M' ∧ M'.1 51 = M.1 51 ∧ M'.1 52 = M.1 52 := by
  obtain ⟨⟨h1, h2⟩, ⟨k1, k2, k3, k4, k5, k6⟩, ⟨p1, p2⟩, ⟨b1, b2, b3, b4⟩, rw⟩ := h
  obtain ⟨M', a1, a2, a3, a4, a5, a6⟩ := p_push k6 (by omega) p1 op at'
  have fr : rFr m M M' := ⟨fun k a _ _ b c => a4 k a b c, fun j _ _ _ _ _ _ _ a _ => a5 j a, fun k _ => by rw [a6], fun j _ => by rw [a6], by rw [a6], fun j _ => by rw [a4 51 (by decide) (by decide) (by decide), a4 52 (by decide) (by decide) (by decide)]; exact ⟨rfl, rfl⟩⟩
  refine ⟨M', a1, ⟨⟨h1.fr fr, ?_⟩, ⟨?_, ?_, ?_, ?_, ?_, ?_⟩, ⟨a2, ?_⟩, ⟨b1, by rw [List.length_cons]; omega, b3, b4⟩, rw.fr fr⟩, fr, a4 51 (by decide) (by decide) (by decide), a4 52 (by decide) (by decide) (by decide)⟩
  · unfold tokR; rw [a5 16 (by decide), a5 14 (by decide), a5 15 (by decide), a6]; exact h2
  · rw [a5 20 (by decide)]; exact k1
  · rw [a5 19 (by decide)]; exact k2
  · rw [a5 26 (by decide)]; exact k3
  · rw [a5 30 (by decide)]; exact k4
  · rw [a5 23 (by decide)]; exact k5
  · rw [a3, List.length_cons]
  · intro x hx
    rcases List.mem_cons.mp hx with e | e
    · rw [e]; exact ⟨hop, hat⟩
    · exact p2 x e
/-- a bracket more or less -/
theorem RSt.opn {T : Nat → Nat} {L o i c b b' m : Nat} {P : List (Nat × Nat)} {M : az_M} (h : RSt T L o i c b m P M) (hb : b' ≤ 8) : RSt T L o i c b' m P (az_i M 40 30 (nI b')) := by
  obtain ⟨⟨h1, h2⟩, ⟨k1, k2, k3, k4, k5, k6⟩, ⟨p1, p2⟩, ⟨b1, b2, b3, b4⟩, rw⟩ := h
  have e : ∀ j, j ≠ 30 → (az_i M 40 30 (nI b')).1 40 j = M.1 40 j := fun j hj => by rw [gi, if_pos rfl, if_neg hj]
  have fr : rFr 0 M (az_i M 40 30 (nI b')) := rFr_40 0 (by simp)
  exact ⟨⟨h1.fr fr, by unfold tokR; rw [e 16 (by decide), e 14 (by decide), e 15 (by decide)]; exact h2⟩, ⟨by rw [e 20 (by decide)]; exact k1, by rw [e 19 (by decide)]; exact k2, by rw [e 26 (by decide)]; exact k3, by rw [gi, if_pos rfl, if_pos rfl], by rw [e 23 (by decide)]; exact k5, by rw [e 29 (by decide)]; exact k6⟩, ⟨p1.cong fun j _ => by rw [gi_k (by decide), gi_k (by decide)]; exact ⟨rfl, rfl⟩, p2⟩, ⟨b1, b2, b3, hb⟩, rw.fr fr⟩
theorem RSt.pop {T : Nat → Nat} {L o i c b m : Nat} {x : Nat × Nat} {P : List (Nat × Nat)} {M : az_M} (h : RSt T L o i c b m (x :: P) M) : RSt T L o i c b m P (az_i M 40 29 (nI P.length)) := by
  obtain ⟨⟨h1, h2⟩, ⟨k1, k2, k3, k4, k5, k6⟩, ⟨p1, p2⟩, ⟨b1, b2, b3, b4⟩, rw⟩ := h
  have e : ∀ j, j ≠ 29 → (az_i M 40 29 (nI P.length)).1 40 j = M.1 40 j := fun j hj => by rw [gi, if_pos rfl, if_neg hj]
  have fr : rFr 0 M (az_i M 40 29 (nI P.length)) := rFr_40 0 (by simp)
  exact ⟨⟨h1.fr fr, by unfold tokR; rw [e 16 (by decide), e 14 (by decide), e 15 (by decide)]; exact h2⟩, ⟨by rw [e 20 (by decide)]; exact k1, by rw [e 19 (by decide)]; exact k2, by rw [e 26 (by decide)]; exact k3, by rw [e 30 (by decide)]; exact k4, by rw [e 23 (by decide)]; exact k5, by rw [gi, if_pos rfl, if_pos rfl]⟩, ⟨p1.2.2.cong fun j _ => by rw [gi_k (by decide), gi_k (by decide)]; exact ⟨rfl, rfl⟩, fun z hz => p2 z (List.mem_cons_of_mem _ hz)⟩, ⟨b1, by rw [List.length_cons] at b2; omega, b3, b4⟩, rw.fr fr⟩
