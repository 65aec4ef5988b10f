/-! what the law says: both -/
theorem up_self (f : Nat → Int32) (j : Nat) : up f j (f j) = f := by
  funext i
  by_cases h : i = j
  · subst h; rw [up_eq]
  · rw [up_ne h]
theorem env_pr {N R : Nat → Int32} (h : sp_pr N R) {q : Nat} (hq : q < 12) {p : Int32} (hp : p = -1 ∨ ∃ k, k < 10 ∧ p = nI k) (w : Int32) : sp_env (up N 0 w) p (nI q) = r_env R w p q := by
  obtain ⟨⟨_, a1, a2, _⟩, b, _, _, c, d, _⟩ := h
  have hc : (nI q).toNatClampNeg = q := n_cl (by omega)
  funext j
  by_cases h11 : j < 10
  · rcases (show j = 0 ∨ j = 1 ∨ j = 2 ∨ j = 3 ∨ j = 4 ∨ j = 5 ∨ j = 6 ∨ j = 7 ∨ j = 8 ∨ j = 9 by omega) with rfl | rfl | rfl | rfl | rfl | rfl | rfl | rfl | rfl | rfl
    · rfl
    · show (if p = -1 then -1 else up N 0 w (63 + p.toNatClampNeg)) = (if p = -1 then -1 else R (65 + 3 * p.toNatClampNeg))
      rcases hp with rfl | ⟨k, hk, rfl⟩
      · rfl
      · rw [n_cl (by omega), up_ne (by omega), (d k hk).1]
    · rfl
    · show up N 0 w (27 + (nI q).toNatClampNeg) = _
      rw [hc, up_ne (by omega)]; exact (c q hq).1
    · show up N 0 w (39 + (nI q).toNatClampNeg) = _
      rw [hc, up_ne (by omega)]; exact (c q hq).2.1
    · show up N 0 w (4 + (nI q).toNatClampNeg) = _
      rw [hc, up_ne (by omega)]; exact (c q hq).2.2.2
    · rfl
    · exact a1
    · exact a2
    · exact b 0 (by decide)
  · obtain ⟨i, rfl⟩ : ∃ i, j = i + 10 := ⟨j - 10, by omega⟩
    exact b 4 (by decide)
theorem sp_ask_end (l : Option sp_L) (N : Nat → Int32) (h : Nat) (p q : Int32) : sp_ask l N h p q = sp_end N h p q (l.bind (fun l => sp_tell l (nI h) (sp_env N p q))) := by
  cases l with
  | none => rfl
  | some l =>
    show (match sp_tell l (nI h) (sp_env N p q) with | none => _ | some v => _) = sp_end N h p q (sp_tell l (nI h) (sp_env N p q))
    cases sp_tell l (nI h) (sp_env N p q) <;> rfl
theorem clamp_wi {hi v : Int32} (h0 : 0 < hi) : (if 0 ≤ v then (if v ≤ hi then v else hi) else 0) = sp_clamp hi v := by
  unfold sp_clamp
  rw [Int32.lt_iff_toInt_lt] at h0
  have e0 : (0 : Int32).toInt = 0 := rfl
  rw [e0] at h0
  by_cases h1 : v < hi
  · rw [if_pos h1]
    rw [Int32.lt_iff_toInt_lt] at h1
    rw [if_pos (show v ≤ hi by rw [Int32.le_iff_toInt_le]; omega)]
    by_cases h2 : 0 < v
    · rw [if_pos h2]
      rw [Int32.lt_iff_toInt_lt, e0] at h2
      rw [if_pos (by rw [Int32.le_iff_toInt_le, e0]; omega)]
    · rw [if_neg h2]
      rw [Int32.lt_iff_toInt_lt, e0] at h2
      by_cases h3 : 0 ≤ v
      · rw [if_pos h3]
        rw [Int32.le_iff_toInt_le, e0] at h3
        exact Int32.toInt_inj.mp (by omega)
      · rw [if_neg h3]
  · rw [if_neg h1]
    rw [Int32.lt_iff_toInt_lt] at h1
    rw [if_pos (show 0 ≤ v by rw [Int32.le_iff_toInt_le, e0]; omega), if_pos (show 0 < hi by rw [Int32.lt_iff_toInt_lt, e0]; omega)]
    by_cases h2 : v ≤ hi
    · rw [if_pos h2]
      rw [Int32.le_iff_toInt_le] at h2
      exact Int32.toInt_inj.mp (by omega)
    · rw [if_neg h2]
theorem wi_nat {a hi : Nat} (h : a ≤ hi) (hh : hi < 2147483648) : (if (0 : Int32) ≤ nI a then (if nI a ≤ nI hi then nI a else nI hi) else 0) = nI a :=
  (n_wi (lo := 0) (Nat.zero_le a) (by omega) hh).trans (by rw [Nat.min_eq_left h])
theorem tell_all {P : Int32 → Prop} {hd : Int32} {e : sp_E} : ∀ (l : sp_L), (∀ x, x ∈ l → ∀ v, sp_tell1 x hd e = some v → P v) → ∀ v, sp_tell l hd e = some v → P v := by
  have K : ∀ (l : sp_L) (a : Option Int32), (∀ v, a = some v → P v) → (∀ x, x ∈ l → ∀ v, sp_tell1 x hd e = some v → P v) → ∀ v, l.foldl (fun a c => (sp_tell1 c hd e).or a) a = some v → P v := by
    intro l
    induction l with
    | nil => intro a ha _ v hv; exact ha v hv
    | cons x l ih =>
      intro a ha hl v hv
      refine ih ((sp_tell1 x hd e).or a) (fun v hv => ?_) (fun y hy => hl y (List.mem_cons_of_mem _ hy)) v hv
      cases ht : sp_tell1 x hd e with
      | none => rw [ht] at hv; exact ha v hv
      | some w => rw [ht] at hv; exact hl x (List.mem_cons_self ..) v (ht.trans hv)
  exact fun l hl v hv => K l none (fun v hv => by cases hv) hl v hv
theorem tell_ok {l : sp_L} (ok : ∀ x, x ∈ l → sp_cok x) {hd : Int32} {e : sp_E} (en : ∀ j, j < 11 → -1000000000 ≤ (e j).toInt ∧ (e j).toInt ≤ 1000000000) {v : Int32} (h : sp_tell l hd e = some v) : -1000000000 ≤ v.toInt ∧ v.toInt ≤ 1000000000 := by
  refine tell_all (P := fun v => -1000000000 ≤ v.toInt ∧ v.toInt ≤ 1000000000) l (fun x hx v hv => ?_) v h
  unfold sp_tell1 at hv
  split at hv
  · split at hv
    · cases hv
    · split at hv
      · cases hv
      · exact (ok x hx).2 e v en hv
  · cases hv
theorem tell_4 {R : Nat → Int32} {i : Nat} {l : sp_L} (mt : sp_MT R i l) {e : sp_E} {v : Int32} (h : sp_tell l (nI 4) e = some v) : v = 1 := by
  refine tell_all (P := fun v => v = 1) l (fun x hx v hv => ?_) v h
  obtain ⟨c, hc⟩ := List.getElem?_of_mem hx
  obtain ⟨_, _, _, h4⟩ := mt.2 c x hc
  unfold sp_tell1 at hv
  split at hv
  · rename_i h1
    rw [if_pos (show x.1 = 4 from h1)] at h4
    rw [h4] at hv
    split at hv
    · cases hv
    · split at hv
      · cases hv
      · exact (Option.some.inj hv).symm
  · cases hv
theorem sp_bk.law {Z : az_S × Nat} {A : Nat → Nat → Int32} {ref : Nat → Option Nat} {cnt inF : Int32} {R : Nat → Int32} {ls : Nat → sp_L} (bk : sp_bk Z A ref cnt inF R ls) : sp_law inF ls = none ∨ ∃ l i, sp_law inF ls = some l ∧ sp_MT R i l ∧ ∀ x, x ∈ l → sp_cok x := by
  obtain ⟨n, b1, b2, b3, b4, b5, b6⟩ := bk
  rcases b5 with b5 | ⟨f, hf, b5⟩
  · exact Or.inl (by rw [b5, sp_law_m1])
  · obtain ⟨t, c1, c2, c3, c4⟩ := b6 f hf
    exact Or.inr ⟨ls f, f, by rw [b5, sp_law_nI (by omega)], c3, c4⟩
theorem sp_dec_get (x : Int32) (v : Option Int32) : sp_dec x.toInt64 v = (v.getD x).toInt64 := by cases v <;> rfl
abbrev RefAt (Z : az_S × Nat) (B : Nat) (inF : Int32) (ls : Nat → sp_L) (N : Nat → Int32) (M : az_M) : Prop := (∃ A ref cnt, sp_bk Z A ref cnt inF (M.1 42) ls) ∧ (M.1 40 20 = 0) ∧ (sp_pr N (M.1 42)) ∧ (sp_rg B N) ∧ (B ≤ 1000000000)
theorem RefAt.bk {Z : az_S × Nat} {B : Nat} {inF : Int32} {ls : Nat → sp_L} {N : Nat → Int32} {M : az_M} (h : RefAt Z B inF ls N M) : ∃ A ref cnt, sp_bk Z A ref cnt inF (M.1 42) ls := h.1
theorem RefAt.h20 {Z : az_S × Nat} {B : Nat} {inF : Int32} {ls : Nat → sp_L} {N : Nat → Int32} {M : az_M} (h : RefAt Z B inF ls N M) : M.1 40 20 = 0 := h.2.1
theorem RefAt.pr {Z : az_S × Nat} {B : Nat} {inF : Int32} {ls : Nat → sp_L} {N : Nat → Int32} {M : az_M} (h : RefAt Z B inF ls N M) : sp_pr N (M.1 42) := h.2.2.1
theorem RefAt.rg {Z : az_S × Nat} {B : Nat} {inF : Int32} {ls : Nat → sp_L} {N : Nat → Int32} {M : az_M} (h : RefAt Z B inF ls N M) : sp_rg B N := h.2.2.2.1
theorem RefAt.hB {Z : az_S × Nat} {B : Nat} {inF : Int32} {ls : Nat → sp_L} {N : Nat → Int32} {M : az_M} (h : RefAt Z B inF ls N M) : B ≤ 1000000000 := h.2.2.2.2
theorem RefAt.fr {Z : az_S × Nat} {B : Nat} {inF : Int32} {ls : Nat → sp_L} {N : Nat → Int32} {M M' : az_M} (h : RefAt Z B inF ls N M) (f : sp_fr M M') : RefAt Z B inF ls N M' := by
  have e := f.1 42 (by decide)
  refine ⟨?_, ?_, ?_, h.rg, h.hB⟩
  · rw [e]; exact h.bk
  · rw [f.2.1 20 (by decide) (by decide)]; exact h.h20
  · rw [e]; exact h.pr
theorem r_wears {Z : az_S × Nat} {B : Nat} {inF : Int32} {ls : Nat → sp_L} {N : Nat → Int32} {M : az_M} (H : RefAt Z B inF ls N M) {q : Nat} (hq : q < 12) (w : Int32) : ∃ M', f_X12_wearsOf sp_G (nI q) w M = some (sp_ask (sp_law inF ls) (up N 0 w) 1 (-1) (nI q), M') ∧ sp_fr M M' := by
  obtain ⟨⟨A, ref, cnt, bk⟩, h20, pr, rg, hB⟩ := H
  obtain ⟨M', a, b⟩ := p_tells (h := 1) (p := -1) (w := w) (by decide) hq (Or.inl rfl) bk h20 ((M.1 42 (17 + 4 * q + 1) / 10).toInt64)
  refine ⟨M', ?_, b⟩
  obtain ⟨a', ha, _, ha2⟩ := (rg.2.2.2.2.1 q hq).2.1.nat (by decide) (by decide)
  have hR : M.1 42 (17 + 4 * q + 1) = nI a' := by
    rw [show 17 + 4 * q + 1 = 18 + 4 * q by omega, ← (pr.2.2.2.2.1 q hq).2.1]; exact ha
  unfold f_X12_wearsOf
  rw [show f_X12_ofPlace (nI q) 1 M = some (M.1 42 (17 + 4 * q + 1)) from p_ofPlace (w := 1) hq (by decide) M, Option.bind_some, show f_X12_tells sp_G 1 (-1) (nI q) w _ M = _ from a, Option.bind_some, sp_dec_get, p_within, Option.bind_some, sp_ask_end, env_pr pr hq (Or.inl rfl) w]
  refine congrArg (fun x => some (x, M')) ?_
  cases (sp_law inF ls).bind (fun l => sp_tell l (nI 1) (r_env (M.1 42) w (-1) q)) with
  | none =>
    show (if (0 : Int32) ≤ M.1 42 (17 + 4 * q + 1) / 10 then (if M.1 42 (17 + 4 * q + 1) / 10 ≤ 99 then M.1 42 (17 + 4 * q + 1) / 10 else 99) else 0) = up N 0 w (39 + (nI q).toNatClampNeg) / 10
    rw [hR, n_cl (by omega), up_ne (by omega), ha, n_divr (by omega) (by decide)]
    exact wi_nat (hi := 99) (by omega) (by decide)
  | some v => exact clamp_wi (hi := 99) (by decide)
theorem r_flattens {Z : az_S × Nat} {B : Nat} {inF : Int32} {ls : Nat → sp_L} {N : Nat → Int32} {M : az_M} (H : RefAt Z B inF ls N M) {q : Nat} (hq : q < 12) : ∃ M', f_X12_flattensOf sp_G (nI q) M = some (sp_ask (sp_law inF ls) N 2 (-1) (nI q), M') ∧ sp_fr M M' := by
  obtain ⟨⟨A, ref, cnt, bk⟩, h20, pr, rg, hB⟩ := H
  obtain ⟨M', a, b⟩ := p_tells (h := 2) (p := -1) (w := M.1 42 11) (by decide) hq (Or.inl rfl) bk h20 ((M.1 42 (17 + 4 * q + 1) / 20).toInt64)
  refine ⟨M', ?_, b⟩
  obtain ⟨a', ha, _, ha2⟩ := (rg.2.2.2.2.1 q hq).2.1.nat (by decide) (by decide)
  have hR : M.1 42 (17 + 4 * q + 1) = nI a' := by
    rw [show 17 + 4 * q + 1 = 18 + 4 * q by omega, ← (pr.2.2.2.2.1 q hq).2.1]; exact ha
  have hN : up N 0 (M.1 42 11) = N := by rw [← pr.1.1]; exact up_self N 0
  unfold f_X12_flattensOf
  rw [show f_X12_bulletOf 0 M = some (M.1 42 11) from p_bulletOf (k := 0) (by decide) M, Option.bind_some, show f_X12_ofPlace (nI q) 1 M = some (M.1 42 (17 + 4 * q + 1)) from p_ofPlace (w := 1) hq (by decide) M, Option.bind_some, show f_X12_tells sp_G 2 (-1) (nI q) _ _ M = _ from a, Option.bind_some, sp_dec_get, p_within, Option.bind_some, sp_ask_end, ← env_pr pr hq (Or.inl rfl) (M.1 42 11), hN]
  refine congrArg (fun x => some (x, M')) ?_
  cases (sp_law inF ls).bind (fun l => sp_tell l (nI 2) (sp_env N (-1) (nI q))) with
  | none =>
    show (if (0 : Int32) ≤ M.1 42 (17 + 4 * q + 1) / 20 then (if M.1 42 (17 + 4 * q + 1) / 20 ≤ 99 then M.1 42 (17 + 4 * q + 1) / 20 else 99) else 0) = N (39 + (nI q).toNatClampNeg) / 20
    rw [hR, n_cl (by omega), ha, n_divr (by omega) (by decide)]
    exact wi_nat (hi := 99) (by omega) (by decide)
  | some v => exact clamp_wi (hi := 99) (by decide)
theorem r_aims {Z : az_S × Nat} {B : Nat} {inF : Int32} {ls : Nat → sp_L} {N : Nat → Int32} {M : az_M} (H : RefAt Z B inF ls N M) {q k : Nat} (hq : q < 12) (hk : k < 10) : ∃ M', f_X12_aimsOf sp_G (nI k) (nI q) M = some (sp_ask (sp_law inF ls) N 0 (nI k) (nI q), M') ∧ sp_fr M M' := by
  obtain ⟨⟨A, ref, cnt, bk⟩, h20, pr, rg, hB⟩ := H
  obtain ⟨M', a, b⟩ := p_tells (h := 0) (p := nI k) (w := M.1 42 11) (by decide) hq (Or.inr ⟨k, hk, rfl⟩) bk h20 ((M.1 42 (65 + 3 * k)).toInt64)
  refine ⟨M', ?_, b⟩
  obtain ⟨a', ha, _, ha2⟩ := (rg.2.2.2.2.2.1 k hk).1.nat (by decide) (by decide)
  have hR : M.1 42 (65 + 3 * k) = nI a' := by
    rw [← (pr.2.2.2.2.2.1 k hk).1]; exact ha
  have hN : up N 0 (M.1 42 11) = N := by rw [← pr.1.1]; exact up_self N 0
  unfold f_X12_aimsOf
  rw [show f_X12_bulletOf 0 M = some (M.1 42 11) from p_bulletOf (k := 0) (by decide) M, Option.bind_some, show f_X12_ofPerson (nI k) 0 M = some (M.1 42 (65 + 3 * k)) from p_ofPerson (w := 0) hk (by decide) M, Option.bind_some, show f_X12_tells sp_G 0 (nI k) (nI q) _ _ M = _ from a, Option.bind_some, sp_dec_get, p_within, Option.bind_some, sp_ask_end, ← env_pr pr hq (Or.inr ⟨k, hk, rfl⟩) (M.1 42 11), hN]
  refine congrArg (fun x => some (x, M')) ?_
  cases (sp_law inF ls).bind (fun l => sp_tell l (nI 0) (sp_env N (nI k) (nI q))) with
  | none =>
    show (if (0 : Int32) ≤ M.1 42 (65 + 3 * k) then (if M.1 42 (65 + 3 * k) ≤ 10 then M.1 42 (65 + 3 * k) else 10) else 0) = N (63 + (nI k).toNatClampNeg)
    rw [hR, n_cl (by omega), ha]
    exact wi_nat (hi := 10) (by omega) (by decide)
  | some v => exact clamp_wi (hi := 10) (by decide)
theorem r_prices {Z : az_S × Nat} {B : Nat} {inF : Int32} {ls : Nat → sp_L} {N : Nat → Int32} {M : az_M} (H : RefAt Z B inF ls N M) {q : Nat} (hq : q < 12) : ∃ M', f_X12_pricesOf sp_G (nI q) M = some (sp_ask (sp_law inF ls) N 3 (-1) (nI q), M') ∧ sp_fr M M' := by
  obtain ⟨⟨A, ref, cnt, bk⟩, h20, pr, rg, hB⟩ := H
  obtain ⟨M', a, b⟩ := p_tells (h := 3) (p := -1) (w := M.1 42 11) (by decide) hq (Or.inl rfl) bk h20 (2000000000 : Int64)
  refine ⟨M', ?_, b⟩
  have hN : up N 0 (M.1 42 11) = N := by rw [← pr.1.1]; exact up_self N 0
  have en := sp_env_ok rg hB hq (p := -1) (Or.inl rfl)
  unfold f_X12_pricesOf f_X12_pricesOf_44
  rw [show f_X12_bulletOf 0 M = some (M.1 42 11) from p_bulletOf (k := 0) (by decide) M, Option.bind_some, show f_X12_tells sp_G 3 (-1) (nI q) _ _ M = _ from a, Option.bind_some, sp_ask_end, ← env_pr pr hq (Or.inl rfl) (M.1 42 11), hN]
  have hv : ∀ v, (sp_law inF ls).bind (fun l => sp_tell l (nI 3) (sp_env N (-1) (nI q))) = some v → -1000000000 ≤ v.toInt ∧ v.toInt ≤ 1000000000 := by
    intro v hv
    rcases bk.law with e | ⟨l, i, e, _, ok⟩
    · rw [e] at hv; cases hv
    · rw [e] at hv; exact tell_ok ok en hv
  revert hv
  cases (sp_law inF ls).bind (fun l => sp_tell l (nI 3) (sp_env N (-1) (nI q))) with
  | none =>
    intro _
    rw [if_pos (show sp_dec 2000000000 none = 2000000000 from rfl), show f_X12_ofPlace (nI q) 3 (sp_dec 2000000000 none, M').2 = some (M'.1 42 (17 + 4 * q + 3)) from p_ofPlace (w := 3) hq (by decide) M', Option.bind_some, b.1 42 (by decide), show 17 + 4 * q + 3 = 20 + 4 * q by omega, ← (pr.2.2.2.2.1 q hq).2.2.2]
    refine congrArg (fun x => some (x, M')) ?_
    show 10 * N (4 + q) = N (4 + (nI q).toNatClampNeg) * 10
    rw [n_cl (by omega), Int32.mul_comm]
  | some v =>
    intro hv
    have := hv v rfl
    rw [if_neg (by
      intro hE
      have h1 : (v.toInt64).toInt = (2000000000 : Int64).toInt := congrArg Int64.toInt hE
      rw [Int32.toInt_toInt64] at h1
      have h2 : (2000000000 : Int64).toInt = 2000000000 := rfl
      omega)]
    show (f_X12_within v.toInt64 0 9999 M').bind _ = _
    rw [p_within, Option.bind_some]
    exact congrArg (fun x => some (x, M')) (clamp_wi (hi := 9999) (by decide))
theorem r_barred {Z : az_S × Nat} {B : Nat} {inF : Int32} {ls : Nat → sp_L} {N : Nat → Int32} {M : az_M} (H : RefAt Z B inF ls N M) {q k : Nat} (hq : q < 12) (hk : k < 10) : ∃ M', f_X12_isBarred sp_G (nI k) (nI q) M = some (sp_ask (sp_law inF ls) N 4 (nI k) (nI q), M') ∧ sp_fr M M' ∧ (sp_ask (sp_law inF ls) N 4 (nI k) (nI q) = 0 ∨ sp_ask (sp_law inF ls) N 4 (nI k) (nI q) = 1) := by
  obtain ⟨⟨A, ref, cnt, bk⟩, h20, pr, rg, hB⟩ := H
  obtain ⟨M', a, b⟩ := p_tells (h := 4) (p := nI k) (w := M.1 42 11) (by decide) hq (Or.inr ⟨k, hk, rfl⟩) bk h20 (0 : Int64)
  have hN : up N 0 (M.1 42 11) = N := by rw [← pr.1.1]; exact up_self N 0
  have hv : ∀ v, (sp_law inF ls).bind (fun l => sp_tell l (nI 4) (sp_env N (nI k) (nI q))) = some v → v = 1 := by
    intro v hv
    rcases bk.law with e | ⟨l, i, e, mt, _⟩
    · rw [e] at hv; cases hv
    · rw [e] at hv; exact tell_4 mt hv
  refine ⟨M', ?_, b, ?_⟩
  · unfold f_X12_isBarred f_X12_isBarred_23
    rw [show f_X12_bulletOf 0 M = some (M.1 42 11) from p_bulletOf (k := 0) (by decide) M, Option.bind_some, show f_X12_tells sp_G 4 (nI k) (nI q) _ _ M = _ from a, Option.bind_some, sp_ask_end, ← env_pr pr hq (Or.inr ⟨k, hk, rfl⟩) (M.1 42 11), hN]
    revert hv
    cases (sp_law inF ls).bind (fun l => sp_tell l (nI 4) (sp_env N (nI k) (nI q))) with
    | none => intro _; rfl
    | some v => intro hv; rw [hv v rfl]; rfl
  · rw [sp_ask_end]
    revert hv
    cases (sp_law inF ls).bind (fun l => sp_tell l (nI 4) (sp_env N (nI k) (nI q))) with
    | none => intro _; exact Or.inl rfl
    | some v => intro hv; rw [hv v rfl]; exact Or.inr rfl
def sp_hurt (N : Nat → Int32) (p : Nat) : Int32 := if N (83 + p) ≤ N 16 then 0 else 1
theorem p_isHurt {o p : Nat} (hp : p < 10) (M : az_M) : f_X4_isHurt o (nI p) M = some (sp_hurt (M.1 (o + 1)) p) := by
  unfold f_X4_isHurt f_X4_isHurt_24 sp_hurt
  simp (disch := omega) only [n_addl, n_addr, n_add, n_mull, n_mulr, n_mul, n_sub, n_subr, n_subl, n_cl, n_lt, n_le, n_eq, n_ltl, n_ltr, n_lel, n_ler, n_eqr, n_eql, n_nm1, n_m1n, n_m1lt, n_ltm1, l_ltr, l_ltl, l_ler, l_lel, l_m1lt, l_nneg, if_true, if_false, or_false, false_or, or_true, true_or, and_true, true_and, and_false, false_and, not_true_eq_false, not_false_eq_true, Option.bind_some, Option.bind_none, reduceIte, ltT, ltF, leT, leF, eqT, eqF, nI_lt0]
  split <;> rfl
theorem r_isHurt {N : Nat → Int32} {p : Nat} (hp : p < 10) {M : az_M} (h : sp_pr N (M.1 42)) : f_X12_isHurt (nI p) M = some (sp_hurt N p) := by
  unfold f_X12_isHurt f_X12_isHurt_19 sp_hurt
  rw [show f_X12_term 0 M = some (M.1 42 6) from p_term (k := 0) (by decide) M, Option.bind_some, show f_X12_ofPerson (nI p) 2 M = some (M.1 42 (65 + 3 * p + 2)) from p_ofPerson (w := 2) hp (by decide) M, Option.bind_some, show 65 + 3 * p + 2 = 67 + 3 * p by omega, ← (h.2.2.2.2.2.1 p hp).2.2, ← h.2.1 0 (by decide)]
  show (if N (83 + p) ≤ N 16 then _ else _) = some (if N (83 + p) ≤ N 16 then _ else _)
  by_cases h1 : N (83 + p) ≤ N 16
  · rw [if_pos h1, if_pos h1]; rfl
  · rw [if_neg h1, if_neg h1]; rfl
