/-! TOKENS: signs and words -/
abbrev sg (T : Nat → Nat) (L i c : Nat) : Prop := tkd T L i = 3 ∧ T i = c
def tw (T : Nat → Nat) (L i : Nat) : List Nat := twb T L (L - i) i
theorem p_signC {T : Nat → Nat} {L i c : Nat} {M : az_M} (hL : L ≤ 400) (h255 : ∀ i, T i ≤ 255) (hT : Tc T L M) (hk : tokC T L i M) (hc : c ≤ 255) : f_X5_isSign (nI c) M = some (if sg T L i c then 1 else 0) := by
  have kl := tkd_le T L i
  have hb := h255 i
  unfold f_X5_isSign f_X5_isSign_28 f_X5_isSign_29
  rw [hk.1, hk.2.1]
  by_cases h3 : tkd T L i = 3
  · have := tkd_lt (T := T) (L := L) (p := i) (by omega)
    rw [if_pos (by rw [h3]; rfl), if_neg (nI_in (by omega) (by decide)), n_cl (by omega), hT.2 i (by omega)]
    by_cases hT : T i = c
    · rw [if_pos (by rw [hT]), if_pos (show sg T L i c from ⟨h3, hT⟩)]; rfl
    · rw [if_neg (by rw [n_eq (by omega) (by omega)]; exact hT), if_neg (show ¬ sg T L i c from fun e => hT e.2)]; rfl
  · rw [if_neg (by rw [show (3 : Int32) = nI 3 from rfl, n_eq (by omega) (by omega)]; exact h3), if_neg (show ¬ sg T L i c from fun e => h3 e.1)]; rfl
theorem p_signR {T : Nat → Nat} {L i c : Nat} {M : az_M} (h255 : ∀ i, T i ≤ 255) (hk : tokR T L i M) (hc : c ≤ 255) : f_X12_isSign (nI c) M = some (if sg T L i c then 1 else 0) := by
  have kl := tkd_le T L i
  have hb := h255 i
  unfold f_X12_isSign f_X12_isSign_22 f_X12_isSign_23
  rw [hk.1, hk.2.2.2]
  by_cases h3 : tkd T L i = 3
  · rw [if_pos (by rw [h3]; rfl)]
    have e : tworth T L i = lN (T i) := by unfold tworth; rw [if_neg (by omega), if_neg (by omega), if_neg (by omega)]
    rw [e, nI_l (show c < 2 ^ 31 by omega)]
    by_cases hT : T i = c
    · rw [if_pos (by rw [hT]), if_pos (show sg T L i c from ⟨h3, hT⟩)]; rfl
    · rw [if_neg (by rw [lN_eq (by omega) (by omega)]; exact hT), if_neg (show ¬ sg T L i c from fun e => hT e.2)]; rfl
  · rw [if_neg (by rw [show (3 : Int32) = nI 3 from rfl, n_eq (by omega) (by omega)]; exact h3), if_neg (show ¬ sg T L i c from fun e => h3 e.1)]; rfl
/-! words, as the class compares them -/
def wa (T : Nat → Nat) (fr to : Nat) : List Nat → Nat → Nat → Bool → Int32
  | [], k, p, s => if s = true ∧ p = to then nI k else -1
  | b :: r, k, p, s => if b = 32 then (if s = true ∧ p = to then nI k else wa T fr to r (k + 1) fr true) else wa T fr to r k (p + 1) (s && decide (p < to ∧ T p = b))
def mt (T : Nat → Nat) (to : Nat) : Nat → List Nat → Bool
  | _, [] => true
  | p, b :: u => decide (p < to ∧ T p = b) && mt T to (p + 1) u
def wIx : List (List Nat) → Nat → List Nat → Int32
  | [], _, _ => -1
  | v :: vs, k, w => if w = v then nI k else wIx vs (k + 1) w
def wjoin : List (List Nat) → List Nat
  | [] => []
  | [u] => u
  | u :: v :: r => u ++ 32 :: wjoin (v :: r)
theorem wa_word (T : Nat → Nat) (fr to : Nat) : ∀ (u r : List Nat) (k p : Nat) (s : Bool), (∀ x, x ∈ u → x ≠ 32) → wa T fr to (u ++ r) k p s = wa T fr to r k (p + u.length) (s && mt T to p u) := by
  intro u
  induction u with
  | nil => intro r k p s _; simp [mt]
  | cons b u ih =>
    intro r k p s h
    rw [List.cons_append, wa, if_neg (h b List.mem_cons_self), ih r k (p + 1) _ (fun x hx => h x (List.mem_cons_of_mem _ hx)), mt, List.length_cons, Bool.and_assoc, show p + 1 + u.length = p + (u.length + 1) by omega]
theorem ten_twb (T : Nat → Nat) (L : Nat) : ∀ e p, ten T L 1 e p = p + (twb T L e p).length := by
  intro e
  induction e with
  | zero => intro p; rfl
  | succ e ih =>
    intro p
    rw [ten, twb]
    by_cases h : tkd T L p = 1
    · rw [if_pos h, if_pos h, ih, List.length_cons]; omega
    · rw [if_neg h, if_neg h]; rfl
theorem mt_iff {T : Nat → Nat} {L : Nat} : ∀ (u : List Nat) (p to : Nat), to = p + (tw T L p).length → ((mt T to p u = true ∧ p + u.length = to) ↔ tw T L p = u) := by
  intro u
  induction u with
  | nil =>
    intro p to h
    rw [mt, List.length_nil]
    constructor
    · rintro ⟨-, e⟩; exact List.length_eq_zero_iff.mp (by omega)
    · intro e; rw [e] at h; exact ⟨rfl, h.symm⟩
  | cons b u ih =>
    intro p to h
    rw [mt, Bool.and_eq_true, decide_eq_true_eq, List.length_cons]
    by_cases hk : tkd T L p = 1
    · have e : tw T L p = T p :: tw T L (p + 1) := twb_step hk
      rw [e, List.length_cons] at h
      have := ih (p + 1) to (by omega)
      rw [e]
      constructor
      · rintro ⟨⟨⟨-, h2⟩, h3⟩, h4⟩
        rw [h2, this.mp ⟨h3, by omega⟩]
      · intro e
        injection e with e1 e2
        have := this.mpr e2
        exact ⟨⟨⟨by omega, e1⟩, this.1⟩, by omega⟩
    · have e : tw T L p = [] := twb_stop hk
      rw [e] at h ⊢
      constructor
      · rintro ⟨⟨⟨h1, -⟩, -⟩, -⟩
        rw [List.length_nil] at h; omega
      · intro e; cases e
theorem wa_join {T : Nat → Nat} {L i : Nat} : ∀ (ws : List (List Nat)) (k : Nat), ws ≠ [] → (∀ v, v ∈ ws → ∀ x, x ∈ v → x ≠ 32) → wa T i (i + (tw T L i).length) (wjoin ws) k i true = wIx ws k (tw T L i) := by
  intro ws
  induction ws with
  | nil => intro k h; exact absurd rfl h
  | cons u ws ih =>
    intro k _ h32
    have hu := h32 u List.mem_cons_self
    have hm := mt_iff (T := T) (L := L) u i _ rfl
    cases ws with
    | nil =>
      rw [wjoin, wIx, wIx, ← List.append_nil u, wa_word T i _ u [] k i true hu, List.append_nil, wa, Bool.true_and]
      by_cases e : tw T L i = u
      · rw [if_pos e, if_pos (hm.mpr e)]
      · rw [if_neg e, if_neg (fun x => e (hm.mp x))]
    | cons v r =>
      rw [wjoin, wIx, wa_word T i _ u _ k i true hu, wa, if_pos rfl, Bool.true_and]
      by_cases e : tw T L i = u
      · rw [if_pos e, if_pos (hm.mpr e)]
      · rw [if_neg e, if_neg (fun x => e (hm.mp x))]
        exact ih (k + 1) (by simp) (fun w hw => h32 w (List.mem_cons_of_mem _ hw))
/-- the lists of words: heads of laws, of orders; at, by, times, if, or, and, not; words of orders, of laws -/
def wtab (a : Nat) : List (List Nat) := match a with
  | 0 => [[97, 105, 109, 115], [119, 101, 97, 114, 115], [102, 108, 97, 116, 116, 101, 110, 115], [112, 114, 105, 99, 101, 115], [98, 97, 114, 115]]
  | 1 => [[102, 105, 114, 101], [100, 117, 101, 108], [114, 101, 115, 116]]
  | 2 => [[97, 116]]
  | 3 => [[98, 121]]
  | 4 => [[116, 105, 109, 101, 115]]
  | 5 => [[105, 102]]
  | 6 => [[111, 114]]
  | 7 => [[97, 110, 100]]
  | 8 => [[110, 111, 116]]
  | 9 => [[110, 111, 119], [119, 101, 105, 103, 104, 116], [102, 108, 97, 116], [114, 117, 115, 116], [100, 111, 110, 101], [101, 110, 100, 101, 100], [104, 117, 114, 116], [100, 101, 110, 116, 115]]
  | _ => [[112, 101, 114, 115, 111, 110], [97, 105, 109], [112, 108, 97, 99, 101], [107, 105, 110, 100], [104, 97, 114, 100], [100, 101, 110, 116, 115], [119, 101, 105, 103, 104, 116], [102, 108, 97, 116], [114, 117, 115, 116], [100, 97, 121], [109, 111, 111, 100]]
theorem wt_ok : ∀ a, a < 11 → az_zb.getD a [] = (wjoin (wtab a)).map nI ∧ az_zl.getD a 0 = (wjoin (wtab a)).length ∧ wtab a ≠ [] ∧ (wjoin (wtab a)).length ≤ 58 ∧ (∀ b, b ∈ wjoin (wtab a) → b ≤ 255) := by decide +kernel
theorem wt_let : ∀ a, a < 11 → ∀ v, v ∈ wtab a → v.length ≤ 10 ∧ v ≠ [] ∧ ∀ x, x ∈ v → 97 ≤ x ∧ x ≤ 122 := by decide +kernel
theorem wt_dup : ∀ a, a < 11 → (wtab a).Nodup := by decide +kernel
theorem p_wordC {T : Nat → Nat} {L i a : Nat} {M : az_M} (hL : L ≤ 400) (h255 : ∀ i, T i ≤ 255) (hT : Tc T L M) (hk : tokC T L i M) (hi : i ≤ L) (ha : a < 11) : f_X5_wordAmong sp_G a M = some (if tkd T L i = 1 then wIx (wtab a) 0 (tw T L i) else -1) := by
  obtain ⟨z1, z2, z3, z4, z5⟩ := wt_ok a ha
  have kl := tkd_le T L i
  unfold f_X5_wordAmong
  rw [hk.1]
  by_cases h1 : tkd T L i = 1
  · rw [if_pos (by rw [h1]; rfl), if_pos h1, hk.2.1]
    have hto : tto T L i = i + (tw T L i).length := by
      unfold tto tw; rw [if_neg (by omega), if_neg (by omega), h1, ten_twb]
    have htl := (tto_le (T := T) hi).2
    generalize hzb : wjoin (wtab a) = zb at z1 z2 z4 z5
    have K : ∀ (e j k p F : Nat) (s : Bool), j + e = zb.length → e + 2 < F → p ≤ i + j → k ≤ j → f_X5_wordAmong_23 sp_G a F a (nI k) (nI p) (if s = true then 1 else 0) (nI j) M = some (wa T i (tto T L i) (zb.drop j) k p s) := by
      have e96 : ∀ (F k p j : Nat) (s : Bool), f_X5_wordAmong_96 sp_G a (f_X5_wordAmong_23 sp_G a F) a (nI k) (nI p) (if s = true then 1 else 0) (nI j) M = if s = true ∧ nI p = nI (tto T L i) then some (nI k) else f_X5_wordAmong_23 sp_G a F a (nI (k + 1)) (nI i) 1 (nI (j + 1)) M := by
        intro F k p j s
        unfold f_X5_wordAmong_96 f_X5_wordAmong_111 f_X5_wordAmong_122
        rw [hk.2.2.1, hk.2.1, show nI k + 1 = nI (k + 1) from (nI_succ k).symm, show nI j + 1 = nI (j + 1) from (nI_succ j).symm]
        cases s with
        | false => rw [if_neg (show ¬ (false = true) by decide), if_pos rfl, if_neg (fun e => absurd e.1 (by decide))]
        | true =>
          rw [if_pos rfl, if_neg (by decide)]
          by_cases e : nI p = nI (tto T L i)
          · rw [if_pos e, if_pos ⟨rfl, e⟩]
          · rw [if_neg e, if_neg (fun x => e x.2)]
      intro e
      induction e with
      | zero =>
        intro j k p F s hj hF hp hkj
        obtain ⟨F, rfl⟩ : ∃ F1, F = F1 + 1 + 1 := ⟨F - 2, by omega⟩
        rw [f_X5_wordAmong_23, z2, show Int32.ofNat zb.length = nI zb.length from rfl, if_neg (by rw [n_lt (by omega) (by omega)]; omega), if_pos (by rw [n_le (by omega) (by omega)]; omega), e96, List.drop_eq_nil_of_le (by omega), wa]
        simp only [n_eq (show p < 2147483648 by omega) (show tto T L i < 2147483648 by omega)]
        by_cases hc : s = true ∧ p = tto T L i
        · rw [if_pos hc, if_pos hc]
        · rw [if_neg hc, if_neg hc, f_X5_wordAmong_23, z2, show Int32.ofNat zb.length = nI zb.length from rfl, if_pos (by rw [n_lt (by omega) (by omega)]; omega)]
      | succ e ih =>
        intro j k p F s hj hF hp hkj
        obtain ⟨F, rfl⟩ : ∃ F1, F = F1 + 1 := ⟨F - 1, by omega⟩
        have hjl : j < zb.length := by omega
        have hd : zb.drop j = zb[j] :: zb.drop (j + 1) := List.drop_eq_getElem_cons hjl
        have hzj : (az_zb.getD a []).getD j 0 = nI zb[j] := by
          rw [z1, List.getD_eq_getElem?_getD, List.getElem?_map, List.getElem?_eq_getElem hjl]; rfl
        have hbj := z5 zb[j] (List.getElem_mem hjl)
        rw [f_X5_wordAmong_23, z2, show Int32.ofNat zb.length = nI zb.length from rfl, if_neg (by rw [n_lt (by omega) (by omega)]; omega), if_neg (by rw [n_le (by omega) (by omega)]; omega), if_neg (nI_in (by omega) (by omega)), n_cl (by omega), hzj, e96, hd, wa, if_neg (nIn (by omega) (by omega))]
        by_cases h32 : zb[j] = 32
        · rw [if_pos (by rw [h32]; rfl), if_pos h32]
          simp only [n_eq (show p < 2147483648 by omega) (show tto T L i < 2147483648 by omega)]
          by_cases hc : s = true ∧ p = tto T L i
          · rw [if_pos hc, if_pos hc]
          · rw [if_neg hc, if_neg hc]
            exact ih (j + 1) (k + 1) i F true (by omega) (by omega) (by omega) (by omega)
        · rw [if_neg (by rw [show (32 : Int32) = nI 32 from rfl, n_eq (by omega) (by omega)]; exact h32), if_neg h32]
          unfold f_X5_wordAmong_87 f_X5_wordAmong_88 f_X5_wordAmong_122
          rw [show nI p + 1 = nI (p + 1) from (nI_succ p).symm, show nI j + 1 = nI (j + 1) from (nI_succ j).symm]
          have i0 := ih (j + 1) k (p + 1) F false (by omega) (by omega) (by omega) (by omega)
          have i1 := ih (j + 1) k (p + 1) F true (by omega) (by omega) (by omega) (by omega)
          rw [if_neg (show ¬ (false = true) by decide)] at i0
          rw [if_pos rfl] at i1
          cases s with
          | false => rw [if_neg (show ¬ (false = true) by decide), if_pos rfl, Bool.false_and]; exact i0
          | true =>
            rw [if_pos rfl, if_neg (by decide), hk.2.2.1, Bool.true_and]
            by_cases hpt : p < tto T L i
            · rw [if_neg (by rw [n_le (by omega) (by omega)]; omega), if_neg (nI_in (by omega) (by decide)), n_cl (by omega), hT.2 p (by omega)]
              have hbp := h255 p
              by_cases hTp : T p = zb[j]
              · rw [if_pos (by rw [hTp]), decide_eq_true ⟨hpt, hTp⟩]; exact i1
              · rw [if_neg (by rw [n_eq (by omega) (by omega)]; exact hTp), decide_eq_false (fun e => hTp e.2)]; exact i0
            · rw [if_pos (by rw [n_le (by omega) (by omega)]; omega), decide_eq_false (fun e => hpt e.1)]; exact i0
    have := K zb.length 0 0 i sp_G true (by omega) (by show zb.length + 2 < 1000000; omega) (by omega) (by omega)
    rw [if_pos rfl, List.drop_zero] at this
    rw [show f_X5_wordAmong_23 sp_G a sp_G a 0 (nI i) 1 0 M = _ from this, hto, ← hzb, wa_join (wtab a) 0 z3 (fun v hv x hx => by have := (wt_let a ha v hv).2.2 x hx; omega)]
  · rw [if_neg (by rw [show (1 : Int32) = nI 1 from rfl, n_eq (by omega) (by omega)]; exact h1), if_neg h1]
/-! words, as the reference compares them -/
theorem tw_let (T : Nat → Nat) (L : Nat) : ∀ e p x, x ∈ twb T L e p → 97 ≤ x ∧ x ≤ 122 := by
  intro e
  induction e with
  | zero => intro p x h; cases h
  | succ e ih =>
    intro p x h
    rw [twb] at h
    by_cases hk : tkd T L p = 1
    · rw [if_pos hk] at h
      rcases List.mem_cons.mp h with e | e
      · rw [e]; exact tkd_let hk
      · exact ih _ _ e
    · rw [if_neg hk] at h; cases h
def wr (l : List Nat) : Nat := l.foldr (fun x a => a * 32 + (x - 96)) 0
theorem wr_inj : ∀ (u v : List Nat), (∀ x, x ∈ u → 97 ≤ x ∧ x ≤ 122) → (∀ x, x ∈ v → 97 ≤ x ∧ x ≤ 122) → wr u = wr v → u = v := by
  intro u
  induction u with
  | nil =>
    intro v _ hv h
    cases v with
    | nil => rfl
    | cons y v =>
      have := hv y List.mem_cons_self
      have e : wr (y :: v) = wr v * 32 + (y - 96) := rfl
      have e0 : wr [] = 0 := rfl
      omega
  | cons x u ih =>
    intro v hu hv h
    have hx := hu x List.mem_cons_self
    cases v with
    | nil =>
      have e : wr (x :: u) = wr u * 32 + (x - 96) := rfl
      have e0 : wr [] = 0 := rfl
      omega
    | cons y v =>
      have hy := hv y List.mem_cons_self
      have e : wr (x :: u) = wr u * 32 + (x - 96) := rfl
      have e' : wr (y :: v) = wr v * 32 + (y - 96) := rfl
      rw [e, e'] at h
      have hxy : x = y := by omega
      have hr : wr u = wr v := by omega
      rw [hxy, ih v (fun z hz => hu z (List.mem_cons_of_mem _ hz)) (fun z hz => hv z (List.mem_cons_of_mem _ hz)) hr]
theorem whash_wr (w : List Nat) : whash w = wr w.reverse := by
  unfold whash wr
  rw [List.foldr_reverse]
theorem whash_inj {u v : List Nat} (hu : ∀ x, x ∈ u → 97 ≤ x ∧ x ≤ 122) (hv : ∀ x, x ∈ v → 97 ≤ x ∧ x ≤ 122) (h : whash u = whash v) : u = v := by
  rw [whash_wr, whash_wr] at h
  exact List.reverse_inj.mp (wr_inj _ _ (fun x hx => hu x (List.mem_reverse.mp hx)) (fun x hx => hv x (List.mem_reverse.mp hx)) h)
theorem wr_lt : ∀ (u : List Nat), (∀ x, x ∈ u → 97 ≤ x ∧ x ≤ 122) → wr u < 32 ^ u.length := by
  intro u
  induction u with
  | nil => intro _; decide
  | cons x u ih =>
    intro h
    have hx := h x List.mem_cons_self
    have := ih (fun z hz => h z (List.mem_cons_of_mem _ hz))
    have e : wr (x :: u) = wr u * 32 + (x - 96) := rfl
    rw [e, List.length_cons, Nat.pow_succ]
    omega
theorem whash_lt {u : List Nat} (h : ∀ x, x ∈ u → 97 ≤ x ∧ x ≤ 122) (h10 : u.length ≤ 10) : whash u < 1125899906842624 := by
  rw [whash_wr]
  refine Nat.lt_of_lt_of_le (wr_lt _ (fun x hx => h x (List.mem_reverse.mp hx))) ?_
  rw [List.length_reverse]
  exact Nat.le_trans (Nat.pow_le_pow_right (by decide) h10) (by decide)
theorem lN_big {n : Nat} (h : n < 1125899906842624) : (lN n).toInt = (n : Int) := Int64.toInt_ofNat_of_lt (by omega)
theorem p_wordR {T : Nat → Nat} {L i : Nat} {M : az_M} {v : List Nat} (hk : tokR T L i M) (hv : ∀ x, x ∈ v → 97 ≤ x ∧ x ≤ 122) (h10 : v.length ≤ 10) : f_X12_isWord (lN (whash v)) M = some (if tkd T L i = 1 ∧ tw T L i = v then 1 else 0) := by
  have kl := tkd_le T L i
  unfold f_X12_isWord f_X12_isWord_21 f_X12_isWord_22
  rw [hk.1, hk.2.2.2]
  by_cases h1 : tkd T L i = 1
  · rw [if_pos (by rw [h1]; rfl)]
    have hl := tw_let T L (L - i) i
    have e : tworth T L i = twv (tw T L i) := by unfold tworth tw; rw [if_neg (by omega), if_pos h1]
    rw [e]
    have hvb := whash_lt hv h10
    unfold twv
    by_cases hw : (tw T L i).length ≤ 10
    · have hwb := whash_lt (u := tw T L i) hl hw
      rw [if_pos hw]
      by_cases he : tw T L i = v
      · rw [if_pos (by rw [he]), if_pos (show tkd T L i = 1 ∧ tw T L i = v from ⟨h1, he⟩)]; rfl
      · rw [if_neg (c := lN (whash (tw T L i)) = lN (whash v)), if_neg (show ¬ (tkd T L i = 1 ∧ tw T L i = v) from fun x => he x.2)]
        · rfl
        · intro x
          have := congrArg Int64.toInt x
          rw [lN_big hwb, lN_big hvb] at this
          exact he (whash_inj hl hv (by omega))
    · rw [if_neg hw, if_neg (c := (-1 : Int64) = lN (whash v)), if_neg (show ¬ (tkd T L i = 1 ∧ tw T L i = v) from fun x => hw (by rw [x.2]; exact h10))]
      · rfl
      · intro x
        have := congrArg Int64.toInt x
        rw [lN_big hvb] at this
        have e1 : (-1 : Int64).toInt = -1 := rfl
        omega
  · rw [if_neg (by rw [show (1 : Int32) = nI 1 from rfl, n_eq (by omega) (by omega)]; exact h1), if_neg (show ¬ (tkd T L i = 1 ∧ tw T L i = v) from fun e => h1 e.1)]; rfl
/-- the class's word of a list -/
def wx (T : Nat → Nat) (L i a : Nat) : Int32 := if tkd T L i = 1 then wIx (wtab a) 0 (tw T L i) else -1
theorem wIx_cases : ∀ (ws : List (List Nat)) (k : Nat) (w : List Nat), (wIx ws k w = -1 ∧ w ∉ ws) ∨ ∃ j, ws[j]? = some w ∧ wIx ws k w = nI (k + j) := by
  intro ws
  induction ws with
  | nil => intro k w; exact Or.inl ⟨rfl, by simp⟩
  | cons v vs ih =>
    intro k w
    rw [wIx]
    by_cases h : w = v
    · rw [if_pos h]; exact Or.inr ⟨0, by rw [h]; rfl, rfl⟩
    · rw [if_neg h]
      rcases ih (k + 1) w with ⟨a, b⟩ | ⟨j, a, b⟩
      · exact Or.inl ⟨a, by simp [h, b]⟩
      · exact Or.inr ⟨j + 1, a, by rw [b]; exact congrArg nI (by omega)⟩
theorem wIx_len : ∀ a, a < 11 → (wtab a).length ≤ 11 := by decide
theorem wx_cases (T : Nat → Nat) (L i a : Nat) (ha : a < 11) : (wx T L i a = -1 ∧ ¬ (tkd T L i = 1 ∧ tw T L i ∈ wtab a)) ∨ ∃ j, j < (wtab a).length ∧ tkd T L i = 1 ∧ (wtab a)[j]? = some (tw T L i) ∧ wx T L i a = nI j := by
  unfold wx
  by_cases h1 : tkd T L i = 1
  · rw [if_pos h1]
    rcases wIx_cases (wtab a) 0 (tw T L i) with ⟨x, y⟩ | ⟨j, x, y⟩
    · exact Or.inl ⟨x, fun e => y e.2⟩
    · exact Or.inr ⟨j, (List.getElem?_eq_some_iff.mp x).1, h1, x, by rw [y, Nat.zero_add]⟩
  · rw [if_neg h1]; exact Or.inl ⟨rfl, fun e => h1 e.1⟩
/-- one word alone -/
theorem p_word1 {T : Nat → Nat} {L i a : Nat} {M : az_M} {v : List Nat} (ha : a < 11) (hv : wtab a = [v]) (hk : tokR T L i M) : f_X12_isWord (lN (whash v)) M = some (if wx T L i a = -1 then 0 else 1) := by
  have hl := wt_let a ha v (by rw [hv]; exact List.mem_cons_self)
  rw [p_wordR hk hl.2.2 hl.1]
  unfold wx
  rw [hv, wIx, wIx]
  by_cases h1 : tkd T L i = 1
  · rw [if_pos h1]
    by_cases hw : tw T L i = v
    · rw [if_pos hw, if_pos ⟨h1, hw⟩, if_neg (by decide)]
    · rw [if_neg hw, if_neg (fun e => hw e.2), if_pos rfl]
  · rw [if_neg h1, if_neg (fun e => h1 e.1), if_pos rfl]
