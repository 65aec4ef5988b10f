/-! THE REFERENCE'S READER: small steps -/
theorem plM.suf {M : az_M} : ∀ {A B : List (Nat × Nat)}, plM (A ++ B) M → plM B M := by
  intro A
  induction A with
  | nil => intro B h; exact h
  | cons x A ih => intro B h; exact ih h.2.2
def innV : List (Nat × Nat) → Int32
  | [] => -1
  | x :: P => if 31 ≤ x.1 then nI x.1 else innV P
theorem p_inner {P : List (Nat × Nat)} {M : az_M} (hM : plM P M) (hW : plW P) (h29 : M.1 40 29 = nI P.length) (hP : P.length ≤ 400) : f_X12_inner sp_G M = some (innV P) := by
  have K : ∀ (R B : List (Nat × Nat)) (F : Nat), R.length < F → R.reverse ++ B = P → f_X12_inner_4 sp_G F (innV B) (nI B.length) M = some (innV P) := by
    intro R
    induction R with
    | nil =>
      intro B F hF hP'
      obtain ⟨F, rfl⟩ : ∃ F1, F = F1 + 1 := ⟨F - 1, by omega⟩
      have e : B = P := hP'
      rw [f_X12_inner_4, h29, e, if_pos (nI_le (Nat.le_refl _) (by omega))]
    | cons x R ih =>
      intro B F hF hP'
      obtain ⟨F, rfl⟩ : ∃ F1, F = F1 + 1 := ⟨F - 1, by rw [List.length_cons] at hF; omega⟩
      rw [List.length_cons] at hF
      rw [List.reverse_cons, List.append_assoc, List.singleton_append] at hP'
      have hs : plM (x :: B) M := plM.suf (A := R.reverse) (by rw [hP']; exact hM)
      have hl : P.length = R.length + (B.length + 1) := by rw [← hP', List.length_append, List.length_reverse, List.length_cons]
      have hw := hW x (by rw [← hP']; exact List.mem_append_right _ List.mem_cons_self)
      rw [f_X12_inner_4, h29, if_neg (by rw [n_le (by omega) (by omega)]; omega), if_neg (nI_in (by omega) (by decide)), n_cl (by omega), hs.1]
      unfold f_X12_inner_33
      rw [if_neg (nIn (show B.length < 400 by omega) (by omega)), show nI B.length + 1 = nI (B.length + 1) from (nI_succ _).symm]
      have := ih (x :: B) F (by omega) hP'
      rw [innV, List.length_cons] at this
      by_cases h31 : 31 ≤ x.1
      · rw [if_pos h31] at this
        rw [if_neg (by rw [show (31 : Int32) = nI 31 from rfl, n_lt (by omega) (by omega)]; omega)]; exact this
      · rw [if_neg h31] at this
        rw [if_pos (by rw [show (31 : Int32) = nI 31 from rfl, n_lt (by omega) (by omega)]; omega)]; exact this
  exact K P.reverse [] sp_G (by rw [List.length_reverse]; show P.length < 1000000; omega) (by rw [List.reverse_reverse, List.append_nil])
def cmpV : List (Nat × Nat) → Bool
  | [] => false
  | x :: P => if 20 ≤ x.1 ∧ x.1 ≤ 24 then cmpV P else decide (25 ≤ x.1 ∧ x.1 ≤ 27)
theorem p_in_n {v lo hi : Nat} (hv : v < 1000) (hl : lo < 1000) (hh : hi < 1000) (M : az_M) : f_X12_in (nI v).toInt64 (lN lo) (lN hi) M = some (if lo ≤ v ∧ v ≤ hi then 1 else 0) := by
  rw [p_in_iff, n_64 (by omega), lN_toInt (by omega), lN_toInt (by omega)]
  by_cases h : lo ≤ v ∧ v ≤ hi
  · rw [if_pos h, if_pos (by omega)]
  · rw [if_neg h, if_neg (by omega)]
theorem p_compared {M : az_M} : ∀ {P : List (Nat × Nat)} (F : Nat), P.length < F → plM P M → plW P → P.length ≤ 400 → f_X12_isCompared_7 sp_G F (nI P.length - 1) M = some (if cmpV P = true then 1 else 0) := by
  intro P
  induction P with
  | nil =>
    intro F hF _ _ _
    obtain ⟨F, rfl⟩ : ∃ F1, F = F1 + 1 := ⟨F - 1, by omega⟩
    rw [f_X12_isCompared_7, if_pos (by decide)]
    unfold f_X12_isCompared_36 f_X12_isCompared_63 f_X12_isCompared_64
    rw [if_pos (by decide)]; rfl
  | cons x P ih =>
    intro F hF hM hW hP
    rw [List.length_cons] at hF hP
    obtain ⟨F, rfl⟩ : ∃ F1, F = F1 + 1 := ⟨F - 1, by omega⟩
    have hw := hW x List.mem_cons_self
    rw [f_X12_isCompared_7, List.length_cons, nI_pred, if_neg (nI_pos (by omega)), if_neg (nI_in (by omega) (by decide)), n_cl (by omega), hM.1, show f_X12_in (nI x.1).toInt64 20 24 M = _ from p_in_n (by omega) (by decide) (by decide) M, Option.bind_some, cmpV]
    by_cases h : 20 ≤ x.1 ∧ x.1 ≤ 24
    · rw [if_pos h, if_neg (by decide), if_pos h, show nI P.length + (-1) = nI P.length - 1 by rw [Int32.sub_eq_add_neg]]
      exact ih F (by omega) hM.2.2 (fun z hz => hW z (List.mem_cons_of_mem _ hz)) (by omega)
    · rw [if_neg h, if_pos rfl, if_neg h]
      unfold f_X12_isCompared_36 f_X12_isCompared_63 f_X12_isCompared_64
      rw [if_neg (nI_pos (by omega)), if_neg (nI_in (by omega) (by decide)), n_cl (by omega), hM.1, show f_X12_in (nI x.1).toInt64 25 27 M = _ from p_in_n (by omega) (by decide) (by decide) M, Option.bind_some]
      by_cases h2 : 25 ≤ x.1 ∧ x.1 ≤ 27
      · rw [if_pos h2, if_neg (by decide), decide_eq_true h2]; rfl
      · rw [if_neg h2, if_pos rfl, decide_eq_false h2]; rfl
def RWk (M : az_M) : Prop := (∀ j, j < 11 → M.2.1 55 j = az_M0.2.1 55 j) ∧ (∀ j, j < 8 → M.2.1 56 j = az_M0.2.1 56 j) ∧ ∀ j, j < 5 → M.2.1 57 j = az_M0.2.1 57 j
theorem rw_55 : ∀ j, j < 11 → az_M0.2.1 55 j = lN (whash ((wtab 10).getD j [])) := by decide +kernel
theorem rw_56 : ∀ j, j < 8 → az_M0.2.1 56 j = lN (whash ((wtab 9).getD j [])) := by decide +kernel
theorem rw_57 : ∀ j, j < 5 → az_M0.2.1 57 j = lN (whash ((wtab 0).getD j [])) := by decide +kernel
/-- a search through a list of words -/
theorem p_find {T : Nat → Nat} {L i a n : Nat} {M : az_M} (ha : a < 11) (hk : tokR T L i M) (hn : (wtab a).length = n) (f : Nat → Int32 → Int32 → az_M → Option Int32) (g : Nat → Int32)
    (hs : ∀ F x k, k < n → f (F + 1) x (nI k) M = (f_X12_isWord (lN (whash ((wtab a).getD k []))) M).bind fun q => if q = 0 then f F x (nI (k + 1)) M else f F (g k) (nI (k + 1)) M) (he : ∀ F x, f (F + 1) x (nI n) M = some x) :
    ∀ (e k F : Nat) (x : Int32), k + e = n → e < F → f F x (nI k) M = some (if tkd T L i = 1 ∧ tw T L i ∈ (wtab a).drop k then g (((wtab a).idxOf (tw T L i))) else x) := by
  intro e
  induction e with
  | zero =>
    intro k F x hk' hF
    obtain ⟨F, rfl⟩ : ∃ F1, F = F1 + 1 := ⟨F - 1, by omega⟩
    rw [show k = n by omega, he, List.drop_eq_nil_of_le (by omega), if_neg (by simp)]
  | succ e ih =>
    intro k F x hk' hF
    obtain ⟨F, rfl⟩ : ∃ F1, F = F1 + 1 := ⟨F - 1, by omega⟩
    have hkl : k < (wtab a).length := by omega
    have hd : (wtab a).drop k = (wtab a)[k] :: (wtab a).drop (k + 1) := List.drop_eq_getElem_cons hkl
    have hg : (wtab a).getD k [] = (wtab a)[k] := by rw [List.getD_eq_getElem?_getD, List.getElem?_eq_getElem hkl]; rfl
    have hl := wt_let a ha (wtab a)[k] (List.getElem_mem hkl)
    rw [hs F x k (by omega), hg, p_wordR hk hl.2.2 hl.1, Option.bind_some, ih (k + 1) F x (by omega) (by omega), ih (k + 1) F (g k) (by omega) (by omega), hd]
    have nd := wt_dup a ha
    have ndd : ((wtab a).drop k).Nodup := nd.sublist (List.drop_sublist k _)
    rw [hd, List.nodup_cons] at ndd
    by_cases h1 : tkd T L i = 1
    · by_cases hw : tw T L i = (wtab a)[k]
      · have hidx : (wtab a).idxOf (tw T L i) = k := by
          rw [hw]; exact nd.idxOf_getElem k hkl
        rw [if_pos (show tkd T L i = 1 ∧ tw T L i = (wtab a)[k] from ⟨h1, hw⟩), if_neg (by decide), if_neg (show ¬ (tkd T L i = 1 ∧ tw T L i ∈ (wtab a).drop (k + 1)) from fun e => ndd.1 (hw ▸ e.2)), if_pos ⟨h1, by rw [hw]; exact List.mem_cons_self⟩, hidx]
      · rw [if_neg (show ¬ (tkd T L i = 1 ∧ tw T L i = (wtab a)[k]) from fun e => hw e.2), if_pos rfl]
        by_cases hm : tw T L i ∈ (wtab a).drop (k + 1)
        · rw [if_pos ⟨h1, hm⟩, if_pos ⟨h1, List.mem_cons_of_mem _ hm⟩]
        · rw [if_neg (fun e => hm e.2), if_neg (fun e => (List.mem_cons.mp e.2).elim hw hm)]
    · rw [if_neg (show ¬ (tkd T L i = 1 ∧ tw T L i = (wtab a)[k]) from fun e => h1 e.1), if_pos rfl, if_neg (fun e => h1 e.1), if_neg (fun e => h1 e.1)]
theorem wx_idx {T : Nat → Nat} {L i a : Nat} (ha : a < 11) : wx T L i a = if tkd T L i = 1 ∧ tw T L i ∈ wtab a then nI ((wtab a).idxOf (tw T L i)) else -1 := by
  rcases wx_cases T L i a ha with ⟨h, h2⟩ | ⟨j, h1, h2, h3, h4⟩
  · rw [h, if_neg h2]
  · obtain ⟨hj, hje⟩ := List.getElem?_eq_some_iff.mp h3
    rw [h4, if_pos ⟨h2, by rw [← hje]; exact List.getElem_mem hj⟩, ← hje, (wt_dup a ha).idxOf_getElem j hj]
theorem p_partAt {T : Nat → Nat} {L i : Nat} {M : az_M} (hk : tokR T L i M) (hw : RWk M) : f_X12_partAt sp_G M = some (if wx T L i 10 = -1 then -1 else wx T L i 10 + 1) := by
  have := p_find (a := 10) (n := 11) (by decide) hk rfl (fun F x k M => f_X12_partAt_4 sp_G F x k M) (fun k => nI (k + 1)) (fun F x k hk => by
    show f_X12_partAt_4 sp_G (F + 1) x (nI k) M = _
    rw [f_X12_partAt_4, if_neg (by rw [show (11 : Int32) = nI 11 from rfl, n_le (by omega) (by omega)]; omega), if_neg (nI_in (by omega) (by decide)), n_cl (by omega), hw.1 k hk, rw_55 k hk]
    unfold f_X12_partAt_30
    rw [show nI k + 1 = nI (k + 1) from (nI_succ k).symm]) (fun F x => by
    show f_X12_partAt_4 sp_G (F + 1) x (nI 11) M = _
    rw [f_X12_partAt_4, if_pos (by decide)]) 11 0 sp_G (-1) (by omega) (by decide)
  unfold f_X12_partAt
  rw [show f_X12_partAt_4 sp_G sp_G (-1) 0 M = _ from this, List.drop_zero, wx_idx (by decide)]
  by_cases h : tkd T L i = 1 ∧ tw T L i ∈ wtab 10
  · have : (wtab 10).idxOf (tw T L i) < 11 := List.idxOf_lt_length_iff.mpr h.2
    rw [if_pos h, if_pos h, if_neg (by rw [n_nm1 (by omega)]; exact not_false), nI_succ]
  · rw [if_neg h, if_neg h, if_pos rfl]
theorem p_orderPartAt {T : Nat → Nat} {L i : Nat} {M : az_M} (hk : tokR T L i M) (hw : RWk M) : f_X12_orderPartAt sp_G M = some (if wx T L i 9 = -1 then -1 else wx T L i 9 + 1) := by
  have := p_find (a := 9) (n := 8) (by decide) hk rfl (fun F x k M => f_X12_orderPartAt_4 sp_G F x k M) (fun k => nI (k + 1)) (fun F x k hk => by
    show f_X12_orderPartAt_4 sp_G (F + 1) x (nI k) M = _
    rw [f_X12_orderPartAt_4, if_neg (by rw [show (8 : Int32) = nI 8 from rfl, n_le (by omega) (by omega)]; omega), if_neg (nI_in (by omega) (by decide)), n_cl (by omega), hw.2.1 k hk, rw_56 k hk]
    unfold f_X12_orderPartAt_30
    rw [show nI k + 1 = nI (k + 1) from (nI_succ k).symm]) (fun F x => by
    show f_X12_orderPartAt_4 sp_G (F + 1) x (nI 8) M = _
    rw [f_X12_orderPartAt_4, if_pos (by decide)]) 8 0 sp_G (-1) (by omega) (by decide)
  unfold f_X12_orderPartAt
  rw [show f_X12_orderPartAt_4 sp_G sp_G (-1) 0 M = _ from this, List.drop_zero, wx_idx (by decide)]
  by_cases h : tkd T L i = 1 ∧ tw T L i ∈ wtab 9
  · have : (wtab 9).idxOf (tw T L i) < 8 := List.idxOf_lt_length_iff.mpr h.2
    rw [if_pos h, if_pos h, if_neg (by rw [n_nm1 (by omega)]; exact not_false), nI_succ]
  · rw [if_neg h, if_neg h, if_pos rfl]
/-- where the reference stands -/
def RSt (T : Nat → Nat) (L o i c b m : Nat) (P : List (Nat × Nat)) (M : az_M) : Prop := (Tr T L M ∧ tokR T L i M) ∧ (M.1 40 20 = nI o ∧ M.1 40 19 = 0 ∧ M.1 40 26 = nI c ∧ M.1 40 30 = nI b ∧ M.1 40 23 = nI m ∧ M.1 40 29 = nI P.length) ∧ (plM P M ∧ plW P) ∧ (i ≤ L ∧ m + P.length ≤ i ∧ c ≤ 50 ∧ b ≤ 8) ∧ RWk M
theorem RWk.fr {m : Nat} {M M' : az_M} (h : RWk M) (f : rFr m M M') : RWk M' := by unfold RWk; rw [f.2.2.1 55 (by decide), f.2.2.1 56 (by decide), f.2.2.1 57 (by decide)]; exact h
theorem Tr.fr {T : Nat → Nat} {L m : Nat} {M M' : az_M} (h : Tr T L M) (f : rFr m M M') : Tr T L M' := by unfold Tr; rw [f.2.1 13 (by decide) (by decide) (by decide) (by decide) (by decide) (by decide) (by decide) (by decide) (by decide), f.1 49 (by decide) (by decide) (by decide) (by decide) (by decide)]; exact h
theorem RSt.next {T : Nat → Nat} {L o i c b m : Nat} {P : List (Nat × Nat)} {M : az_M} (hL : L ≤ 400) (h255 : ∀ i, T i ≤ 255) (h : RSt T L o i c b m P M) : ∃ M', f_X12_next sp_G M = some M' ∧ RSt T L o (tnx T L i) c b m P M' ∧ rF0 M M' := by
  obtain ⟨⟨h1, h2⟩, ⟨k1, k2, k3, k4, k5, k6⟩, ⟨p1, p2⟩, ⟨b1, b2, b3, b4⟩, rw⟩ := h
  obtain ⟨M', a1, a2, a3⟩ := r_next hL h255 h1 (tto_le (T := T) b1).2 h2.2.2.1
  have tl := tnx_le (T := T) b1
  have fj := fun j (x : j ≠ 14) (y : j ≠ 15) (z : j ≠ 16) => a3.2.1 j x y z
  refine ⟨M', a1, ⟨⟨h1.rF a3, a2⟩, ⟨by rw [fj 20 (by decide) (by decide) (by decide)]; exact k1, by rw [fj 19 (by decide) (by decide) (by decide)]; exact k2, by rw [fj 26 (by decide) (by decide) (by decide)]; exact k3, by rw [fj 30 (by decide) (by decide) (by decide)]; exact k4, by rw [fj 23 (by decide) (by decide) (by decide)]; exact k5, by rw [fj 29 (by decide) (by decide) (by decide)]; exact k6⟩, ⟨p1.cong fun j _ => by rw [a3.1 53 (by decide), a3.1 54 (by decide)]; exact ⟨rfl, rfl⟩, p2⟩, ⟨tl.2, by omega, b3, b4⟩, rw.fr (a3.fr 0)⟩, a3⟩
theorem RSt.mustOK {T : Nat → Nat} {L o i c b m : Nat} {P : List (Nat × Nat)} {M : az_M} (hL : L ≤ 400) (h255 : ∀ i, T i ≤ 255) (h : RSt T L o i c b m P M) : ∃ M', f_X12_must sp_G 1 M = some M' ∧ RSt T L o (tnx T L i) c b m P M' ∧ rF0 M M' := by
  obtain ⟨M', a1, a2, a3⟩ := h.next hL h255
  refine ⟨M', ?_, a2, a3⟩
  unfold f_X12_must f_X12_must_24 f_X12_must_35
  rw [h.2.1.2.1, if_pos rfl, if_neg (by decide), if_pos rfl, a1]; rfl
/-- a fault is found -/
def badM (M : az_M) (i : Nat) : az_M := az_i (az_i M 40 19 1) 40 18 (nI i)
theorem RSt.mustBad {T : Nat → Nat} {L o i c b m : Nat} {P : List (Nat × Nat)} {M : az_M} (h : RSt T L o i c b m P M) : f_X12_must sp_G 0 M = some (badM M i) := by
  unfold f_X12_must f_X12_must_24 f_X12_must_35 badM
  have e : (az_i M 40 19 1).1 40 14 = nI i := by rw [gi, if_pos rfl, if_neg (by decide)]; exact h.1.2.2.1
  rw [h.2.1.2.1, if_pos rfl, if_pos rfl, e, if_neg]
  rw [gi, if_pos rfl, if_neg (by decide), gi, if_pos rfl, if_pos rfl]; decide
/-- the reader ends with a fault -/
def rBad (j : Nat) (M M' : az_M) : Prop := M'.1 40 19 = 1 ∧ M'.1 40 18 = nI j ∧ rFb M M'
theorem pile_split (least : Nat) : ∀ (P : List (Nat × Nat)), ∃ q P', P = q ++ P' ∧ (∀ x, x ∈ q → least ≤ bd x.1) ∧ (P' = [] ∨ ∃ x P'', P' = x :: P'' ∧ bd x.1 < least) := by
  intro P
  induction P with
  | nil => exact ⟨[], [], rfl, fun x hx => (by cases hx), Or.inl rfl⟩
  | cons x P ih =>
    by_cases h : least ≤ bd x.1
    · obtain ⟨q, P', e, h1, h2⟩ := ih
      exact ⟨x :: q, P', by rw [e]; rfl, fun z hz => (List.mem_cons.mp hz).elim (fun e => by rw [e]; exact h) (h1 z), h2⟩
    · exact ⟨[], x :: P, rfl, fun z hz => (by cases hz), Or.inr ⟨x, P, rfl, by omega⟩⟩
theorem r_bad {T : Nat → Nat} {L o i c b m j : Nat} {P : List (Nat × Nat)} {M0 M : az_M} (hL : L ≤ 400) (h : RSt T L o i c b m P M) (f : rFr 0 M0 M) (x1 turn : Int32) : ∃ M', (∀ F, f_X12_readExpression_20 sp_G (F + 1) x1 turn (badM M j) = some M') ∧ rBad j M0 M' := by
  obtain ⟨q, P', rfl, hq, hP'⟩ := pile_split 1 P
  obtain ⟨⟨h1, h2⟩, ⟨k1, k2, k3, k4, k5, k6⟩, ⟨p1, p2⟩, ⟨b1, b2, b3, b4⟩, rw⟩ := h
  have e40 : ∀ j', j' ≠ 18 → j' ≠ 19 → (badM M j).1 40 j' = M.1 40 j' := fun j' a b => by unfold badM; rw [gi, if_pos rfl, if_neg a, gi, if_pos rfl, if_neg b]
  have ek : ∀ k, k ≠ 40 → (badM M j).1 k = M.1 k := fun k a => by unfold badM; rw [gi_k a, gi_k a]
  have hfu : q.length + 1 ≤ sp_G := by
    have : q.length ≤ (q ++ P').length := by rw [List.length_append]; omega
    show q.length + 1 ≤ 1000000
    omega
  obtain ⟨M', a1, a2, a3, a4, a5, a6, a7, a8⟩ := r_settle (P := P') 1 (by decide) hP' (fun x hx => p2 x (List.mem_append_right _ hx)) q m sp_G (badM M j) hfu (p1.cong fun j _ => by rw [ek 53 (by decide), ek 54 (by decide)]; exact ⟨rfl, rfl⟩) (fun x hx => p2 x (List.mem_append_left _ hx)) hq (by rw [e40 23 (by decide) (by decide)]; exact k5) (by rw [e40 29 (by decide) (by decide)]; exact k6) (by omega)
  refine ⟨M', fun F => ?_, ?_, ?_, ?_⟩
  · rw [f_X12_readExpression_20, if_neg (by unfold badM; rw [gi, if_pos rfl, if_neg (by decide), gi, if_pos rfl, if_pos rfl]; decide)]
    unfold f_X12_readExpression_76 f_X12_settle
    rw [show f_X12_settle_0 sp_G sp_G 1 (badM M j) = some M' from a1]; rfl
  · rw [a7 19 (by decide) (by decide)]; unfold badM; rw [gi, if_pos rfl, if_neg (by decide), gi, if_pos rfl, if_pos rfl]
  · rw [a7 18 (by decide) (by decide)]; unfold badM; rw [gi, if_pos rfl, if_pos rfl]
  · exact f.tB ⟨fun k a b c _ _ => by rw [a6 k a b c, ek k a], fun j' _ _ _ p q a _ b _ => by rw [a7 j' a b, e40 j' p q], fun k _ => (by rw [a8]; rfl), fun j' _ => (by rw [a8]; rfl), (by rw [a8]; rfl)⟩
