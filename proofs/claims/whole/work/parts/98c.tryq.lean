theorem c_orr (a b : Nat) : nI a ||| nI b = nI (a ||| b) := b_ext fun i hi => by rw [b_or, b_nI _ hi, b_nI _ hi, b_nI _ hi, Nat.testBit_or]
theorem rem_len : ∀ n, n < 8 → ∀ had, had < 128 → ∀ q, q < n → had.testBit q = false → (rem n (had ||| 2 ^ q)).length + 1 = (rem n had).length := by decide +kernel
theorem had_or {had q : Nat} (hh : had < 128) (hq : q < 7) : had ||| 2 ^ q < 128 := Nat.or_lt_two_pow (n := 7) hh (Nat.lt_of_lt_of_le (Nat.pow_lt_pow_right (by decide) hq) (by decide))
theorem p_142 {Z : az_S × Nat} {R : Int32 → Int32 → az_M → Option az_M} {K : Int32 → Int32 → Int32 → Int32 → Int32 → Int32 → Int32 → Int32 → az_M → Option az_M} (x1 x2 x3 x4 x5 x6 x7 x8 : Int32) (M : az_M) : f_X7_tryQuarrels_142 Z sp_G R K x1 x2 x3 x4 x5 x6 x7 x8 M = K x1 x2 x3 (x4 + M.1 34 0) (if x4 = 0 ∧ ¬ M.1 34 0 ≤ 0 then (x8 <<< ((4 * x3) &&& 31)) ||| M.1 34 1 else x5) (if M.1 34 3 ≤ x7 then x6 else (x8 <<< ((4 * x3) &&& 31)) ||| M.1 34 2) (if x7 < M.1 34 3 then M.1 34 3 else x7) (x8 + 1) M := by
  unfold f_X7_tryQuarrels_142 f_X7_tryQuarrels_172 f_X7_tryQuarrels_174 f_X7_tryQuarrels_197 f_X7_tryQuarrels_219
  by_cases h4 : x4 = 0
  · by_cases h0 : M.1 34 0 ≤ 0
    · by_cases h3 : M.1 34 3 ≤ x7
      · rw [if_pos h4, if_pos h0, if_pos h3, if_neg (show ¬ (x4 = 0 ∧ ¬ M.1 34 0 ≤ 0) from fun e => e.2 h0), if_pos h3]
      · rw [if_pos h4, if_pos h0, if_neg h3, if_neg (show ¬ (x4 = 0 ∧ ¬ M.1 34 0 ≤ 0) from fun e => e.2 h0), if_neg h3]
    · by_cases h3 : M.1 34 3 ≤ x7
      · rw [if_pos h4, if_neg h0, if_pos h3, if_pos (show x4 = 0 ∧ ¬ M.1 34 0 ≤ 0 from ⟨h4, h0⟩), if_pos h3]
      · rw [if_pos h4, if_neg h0, if_neg h3, if_pos (show x4 = 0 ∧ ¬ M.1 34 0 ≤ 0 from ⟨h4, h0⟩), if_neg h3]
  · by_cases h3 : M.1 34 3 ≤ x7
    · rw [if_neg h4, if_pos h3, if_neg (show ¬ (x4 = 0 ∧ ¬ M.1 34 0 ≤ 0) from fun e => h4 e.1), if_pos h3]
    · rw [if_neg h4, if_neg h3, if_neg (show ¬ (x4 = 0 ∧ ¬ M.1 34 0 ≤ 0) from fun e => h4 e.1), if_neg h3]
def foundM (M : az_M) (a b c d : Int32) : az_M := az_i (az_i (az_i (az_i M 34 0 a) 34 1 b) 34 2 c) 34 3 d
theorem foundM_k {M : az_M} {a b c d : Int32} {k : Nat} (h : k ≠ 34) : (foundM M a b c d).1 k = M.1 k := by unfold foundM; rw [gi_k h, gi_k h, gi_k h, gi_k h]
theorem foundM_j (M : az_M) (a b c d : Int32) (j : Nat) : (foundM M a b c d).1 34 j = if j = 3 then d else if j = 2 then c else if j = 1 then b else if j = 0 then a else M.1 34 j := by
  unfold foundM; rw [gi, if_pos rfl, gi, if_pos rfl, gi, if_pos rfl, gi, if_pos rfl]
theorem foundM_F (e : Nat) (M : az_M) (a b c d : Int32) : rwF e M (foundM M a b c d) := ⟨fun k _ _ h _ _ _ _ => foundM_k h, fun j h0 h1 h2 h3 => by rw [foundM_j, if_neg h3, if_neg h2, if_neg h1, if_neg h0], fun j _ => by rw [foundM_k (by decide)], fun j _ => by rw [foundM_k (by decide)], rfl⟩
theorem code_cons {q d : Nat} {r : List Nat} (hq : q < 7) (hr : r.length = d) (hd : d ≤ 6) (h : ∀ x, x ∈ r → x < 7) : (nI q <<< ((4 * nI d) &&& 31)) ||| sp_code r = sp_code (q :: r) := by
  have h16 : ∀ x, x ∈ r → x < 16 := fun x hx => by have := h x hx; omega
  have hl := codeN_lt h16
  rw [code_nat h16, code_nat (r := q :: r) (fun x hx => by
    rcases List.mem_cons.mp hx with e | e
    · omega
    · exact h16 x e), show (4 : Int32) = nI 4 from rfl, n_mul, c_shl q (by omega), codeN_cons, hr, show (16 : Nat) ^ d = 2 ^ (4 * d) by rw [Nat.pow_mul]]
  refine c_or ?_
  rw [Nat.pow_mul, ← hr]; exact hl
def sp_kid (l : Option sp_L) (n had d : Nat) (N : Nat → Int32) (q : Nat) : List (List Nat × Int32) := match sp_miss l N q with
  | none => []
  | some N' => (sp_rows l d (rem n (had ||| 2 ^ q)) N').map (fun x => (q :: x.1, x.2))
theorem rows_kid (l : Option sp_L) (n had d : Nat) (N : Nat → Int32) : sp_rows l (d + 1) (rem n had) N = (rem n had).flatMap (sp_kid l n had d N) := by
  rw [sp_rows]
  refine flat_congr fun q _ => ?_
  unfold sp_kid
  rw [rem_or]
  cases sp_miss l N q <;> rfl
/-- what a search behind tells -/
def tryR (l : Option sp_L) (n : Nat) (one : Int32) (base : Nat → Int32) (b : Int) (M M' : az_M) (rs : List (List Nat × Int32)) : Prop :=
  M'.1 34 0 = nI (cntV one rs) ∧ (one = 0 → nopos M → ∀ x, rs.head? = some x → M'.1 34 1 = sp_code x.1) ∧ (one = 0 → bestOK b rs (M'.1 34 2) (M'.1 34 3)) ∧ (∀ b', b ≤ b' → (∀ x, x ∈ rs → x.2.toInt ≤ b') → tabOK l n one base b' M') ∧ (nopos M → rs = [] → nopos M')
def kpt (e : Nat) (N : Nat → Int32) (M M' : az_M) : Prop := ∀ j, 17 * e ≤ j → j < 17 * e + 17 → (M'.1 37 j = N (j - 17 * e) ∨ M'.1 37 j = M.1 37 j)
theorem c_tryQ {Z : az_S × Nat} {inF : Int32} {ls : Nat → sp_L} {n : Nat} {one : Int32} {base : Nat → Int32} (hn : n ≤ 7) (hbase : base 25 = nI n) : ∀ (d e D : Nat), e + d = n → d < D → ∀ (B : Nat) (N : Nat → Int32) (M : az_M) (had : Nat) (b : Int), ClsAt Z B 35 inF ls N M → B + 8 * d ≤ 1000000000 → (∀ j, 17 ≤ j → N j = base j) → M.1 34 10 = one → had < 128 → (rem n had).length = d → -1 ≤ b → tabOK (sp_law inF ls) n one base b M →
    ∃ M', f_X7_tryQuarrels Z sp_G D (nI e) (nI had) M = some M' ∧ rwF e M M' ∧ tryR (sp_law inF ls) n one base b M M' (sp_rows (sp_law inF ls) d (rem n had) N) ∧ kpt e N M M' := by
  intro d
  induction d with
  | zero =>
    intro e D he hD B N M had b C hB hNb hone hh hrem hb tab
    obtain ⟨D, rfl⟩ : ∃ D1, D = D1 + 1 := ⟨D - 1, by omega⟩
    have hr : M.1 36 = N := C.row
    have hneg : ∀ n, n ≤ 7 → ¬ (0 : Int32) ≤ nI n - 1 - nI n := by decide
    refine ⟨foundM M 1 0 0 (N 0), ?_, foundM_F _ _ _ _ _ _, ?_, fun j _ _ => Or.inr (by rw [foundM_k (by decide)])⟩
    · rw [f_X7_tryQuarrels]
      unfold f_X7_tryQuarrels_b f_X7_setFound
      rw [hr, hNb 25 (by decide), hbase, show e = n by omega, if_neg (hneg n hn)]
      rfl
    · have e0 : ∀ j, (foundM M 1 0 0 (N 0)).1 34 j = if j = 3 then N 0 else if j = 2 then 0 else if j = 1 then 0 else if j = 0 then 1 else M.1 34 j := foundM_j M 1 0 0 (N 0)
      have w0 := C.rg.1.1
      rw [sp_rows]
      refine ⟨?_, fun _ _ x hx => ?_, fun _ => ⟨?_, fun x hx hbx => ?_, fun b' _ hL => ?_⟩, fun b' hb' _ => ?_, fun _ h => absurd h (by simp)⟩
      · rw [e0]
        unfold cntV
        rw [if_neg (by decide), if_neg (by decide), if_neg (by decide), if_pos rfl]
        split <;> rfl
      · injection hx with hx; rw [← hx, e0]; rfl
      · rw [e0, if_pos rfl]; have := w0.1; omega
      · injection hx with hx; rw [← hx, e0, e0]; exact ⟨rfl, rfl⟩
      · rw [e0, if_pos rfl]; exact hL ([], N 0) List.mem_cons_self
      · exact (tab.cong (foundM_k (by decide)) (foundM_k (by decide))).mono hb'
  | succ d ih =>
    intro e D he hD B N M had b C hB hNb hone hh hrem hb tab
    obtain ⟨D, rfl⟩ : ∃ D1, D = D1 + 1 := ⟨D - 1, by omega⟩
    have hr : M.1 36 = N := C.row
    have h25 : N 25 = nI n := (hNb 25 (by decide)).trans hbase
    have rlen : ∀ (rs : List (List Nat × Int32)), rs.length ≤ 823543 → cntV one rs < 2147483648 := fun rs h => by have := cntV_le one rs; omega
    have h77 : 7 ^ (d + 1) ≤ 823543 := Nat.le_trans (Nat.pow_le_pow_right (by decide) (show d + 1 ≤ 7 by omega)) (by decide)
    have r7 : (rem n had).length ≤ 7 := by omega
    have lenrs := rows_len (sp_law inF ls) (d + 1) (rem n had) N r7
    have hbeh : M.1 36 25 - 1 - nI e = nI d := by
      rw [hr, h25, show (1 : Int32) = nI 1 from rfl, n_sub (by omega), n_sub (by omega)]; exact congrArg nI (by omega)
    rw [f_X7_tryQuarrels]
    unfold f_X7_tryQuarrels_b
    rw [hbeh, if_pos (nI_pos' (by omega))]
    obtain ⟨r, k1, k2⟩ := p_known hh M
    rw [k1, Option.bind_some]
    rcases k2 with rfl | ⟨rfl, k2, k3⟩
    · -- not known
      rw [if_pos rfl, p_keepSheet (by omega), Option.bind_some]
      have fin : ∀ (X : az_M) (Rd Rs : List (List Nat × Int32)) (x5 x6 x7 : Int32), rwF e M X → (∀ j, 17 * e ≤ j → j < 17 * e + 17 → X.1 37 j = N (j - 17 * e)) → (one = 0 → nopos M → ∀ x, Rd.head? = some x → x5 = sp_code x.1) → (one = 0 → bestOK b Rd x6 x7) → tabOK (sp_law inF ls) n one base (bUp b Rd) X → (nopos M → Rd = [] → nopos X) → (∀ x, x ∈ Rd → x ∈ Rs) → cntV one Rd = cntV one Rs → (one = 0 → Rs = Rd) → Rs = sp_rows (sp_law inF ls) (d + 1) (rem n had) N →
          ∃ M', f_X7_tryQuarrels_225 Z sp_G (f_X7_tryQuarrels Z sp_G D) (nI e) (nI had) (nI (cntV one Rd)) x5 x6 x7 X = some M' ∧ rwF e M M' ∧ tryR (sp_law inF ls) n one base b M M' Rs ∧ kpt e N M M' := by
        intro X Rd Rs x5 x6 x7 fX kX h5 h67 tX nX sub hc heq hRs
        refine ⟨ro (ro (foundM X (nI (cntV one Rd)) x5 x6 x7) 38 (up (X.1 38) had (nI (cntV one Rd)))) 39 (cpy (X.1 37) (X.1 39) (17 * e) (17 * had) 17), ?_, ?_, ?_, fun j a b => Or.inl (by rw [ro_ne (by decide), ro_ne (by decide), foundM_k (by decide)]; exact kX j a b)⟩
        · unfold f_X7_tryQuarrels_225 f_X7_setFound
          rw [Option.bind_some]
          simp (disch := omega) only [n_addl, n_addr, n_add, n_mull, n_mulr, n_mul, n_sub, n_subr, n_subl, n_cl, n_lt, n_le, n_eq, n_ltl, n_ltr, n_lel, n_ler, n_eqr, n_eql, n_nm1, n_m1n, n_m1lt, n_ltm1, l_ltr, l_ltl, l_ler, l_lel, l_m1lt, l_nneg, if_true, if_false, or_false, false_or, or_true, true_or, and_true, true_and, and_false, false_and, not_true_eq_false, not_false_eq_true, Option.bind_some, Option.bind_none, reduceIte, ltT, ltF, leT, leF, eqT, eqF, nI_lt0]
          rw [az_cp_ro, az_i_ro, Nat.mul_comm e 17, Nat.mul_comm had 17]
          rfl
        · refine fX.trans ((foundM_F e X _ _ _ _).trans ⟨fun k _ _ _ _ _ h8 h9 => by rw [ro_ne h9, ro_ne h8], fun j _ _ _ _ => by rw [ro_ne (by decide), ro_ne (by decide)], fun j _ => by rw [ro_ne (by decide), ro_ne (by decide)], fun j _ => by rw [ro_ne (by decide), ro_ne (by decide)], rfl⟩)
        · have e34 : ∀ j, (ro (ro (foundM X (nI (cntV one Rd)) x5 x6 x7) 38 (up (X.1 38) had (nI (cntV one Rd)))) 39 (cpy (X.1 37) (X.1 39) (17 * e) (17 * had) 17)).1 34 j = if j = 3 then x7 else if j = 2 then x6 else if j = 1 then x5 else if j = 0 then nI (cntV one Rd) else X.1 34 j := fun j => by
            rw [ro_ne (by decide), ro_ne (by decide), foundM_j]
          refine ⟨?_, fun h0 hp x hx => ?_, fun h0 => ?_, fun b' hb' hL => ?_, fun hp hR => ?_⟩
          · rw [e34, ← hc]; rfl
          · rw [e34, heq h0] at *; exact h5 h0 hp x hx
          · rw [e34, e34, heq h0]; exact h67 h0
          · intro h hh'
            rw [ro_ne (by decide), ro_eq, ro_eq]
            by_cases hhh : h = had
            · subst hhh
              right
              intro N' n1 n2
              have : N' = N := by
                funext j
                by_cases hj : j < 17
                · rw [n1 j hj, cpy_in (by omega), kX _ (by omega) (by omega)]; exact congrArg N (by omega)
                · rw [n2 j (by omega), hNb j (by omega)]
              subst this
              rw [hrem, ← hRs, up_eq, hc]
              exact ⟨rfl, hL⟩
            · rw [up_ne hhh]
              rcases (tX.mono (bUp_min hb' (fun x hx => hL x (sub x hx)))) h hh' with a | a
              · exact Or.inl a
              · refine Or.inr fun N' n1 n2 => a N' (fun j hj => ?_) n2
                rw [n1 j hj, cpy_out (by omega)]
          · have hRd : Rd = [] := by
              cases Rd with
              | nil => rfl
              | cons y ys => have := sub y List.mem_cons_self; rw [hR] at this; cases this
            intro h hh'
            rw [ro_ne (by decide), ro_eq]
            by_cases hhh : h = had
            · subst hhh; rw [up_eq, hRd, cntV_0.mpr rfl]; exact Or.inr rfl
            · rw [up_ne hhh]; exact nX hp hRd h hh'
      have K : ∀ (c q F : Nat), q + c = n → c < F → ∀ (X : az_M) (Rd : List (List Nat × Int32)) (x5 x6 x7 : Int32), rwF e M X → (∀ j, 17 * e ≤ j → j < 17 * e + 17 → X.1 37 j = N (j - 17 * e)) → (one = 0 → nopos M → ∀ x, Rd.head? = some x → x5 = sp_code x.1) → (one = 0 → bestOK b Rd x6 x7) → tabOK (sp_law inF ls) n one base (bUp b Rd) X → (nopos M → Rd = [] → nopos X) → Rd ++ ((List.range' q c).filter (fun q => !had.testBit q)).flatMap (sp_kid (sp_law inF ls) n had d N) = sp_rows (sp_law inF ls) (d + 1) (rem n had) N →
          ∃ M', f_X7_tryQuarrels_78 Z sp_G (f_X7_tryQuarrels Z sp_G D) F (nI e) (nI had) (nI d) (nI (cntV one Rd)) x5 x6 x7 (nI q) X = some M' ∧ rwF e M M' ∧ tryR (sp_law inF ls) n one base b M M' (sp_rows (sp_law inF ls) (d + 1) (rem n had) N) ∧ kpt e N M M' := by
        intro c
        induction c with
        | zero =>
          intro q F hq hF X Rd x5 x6 x7 fX kX h5 h67 tX nX hall
          obtain ⟨F, rfl⟩ : ∃ F1, F = F1 + 1 := ⟨F - 1, by omega⟩
          rw [f_X7_tryQuarrels_78, n_add, if_pos (by rw [n_lt (by omega) (by omega)]; omega)]
          have hall' : Rd = sp_rows (sp_law inF ls) (d + 1) (rem n had) N := by simpa using hall
          exact fin X Rd _ x5 x6 x7 fX kX h5 h67 tX nX (fun x hx => hall' ▸ hx) (by rw [← hall']) (fun _ => hall'.symm) rfl
        | succ c ihc =>
          intro q F hq hF X Rd x5 x6 x7 fX kX h5 h67 tX nX hall
          obtain ⟨F, rfl⟩ : ∃ F1, F = F1 + 1 := ⟨F - 1, by omega⟩
          have lRd : Rd.length ≤ 823543 := by
            have := congrArg List.length hall
            rw [List.length_append] at this; omega
          rw [f_X7_tryQuarrels_78, n_add, if_neg (by rw [n_lt (by omega) (by omega)]; omega), fX.2.1 10 (by decide) (by decide) (by decide) (by decide), hone]
          have go : (one = 0 ∨ Rd = []) → ∃ M', f_X7_tryQuarrels_98 Z sp_G (f_X7_tryQuarrels Z sp_G D) (f_X7_tryQuarrels_78 Z sp_G (f_X7_tryQuarrels Z sp_G D) F) (nI e) (nI had) (nI d) (nI (cntV one Rd)) x5 x6 x7 (nI q) X = some M' ∧ rwF e M M' ∧ tryR (sp_law inF ls) n one base b M M' (sp_rows (sp_law inF ls) (d + 1) (rem n had) N) ∧ kpt e N M M' := by
            intro h1R
            unfold f_X7_tryQuarrels_98 f_X7_tryQuarrels_219
            rw [b_bit (nI had) (show q < 32 by omega), b_nI had (show q < 32 by omega)]
            rw [List.range'_succ, List.filter_cons] at hall
            by_cases hbit : had.testBit q = true
            · rw [if_pos hbit, if_neg (by decide), show nI q + 1 = nI (q + 1) from (nI_succ q).symm]
              rw [hbit, if_neg (by decide)] at hall
              exact ihc (q + 1) F (by omega) (by omega) X Rd x5 x6 x7 fX kX h5 h67 tX nX hall
            · rw [if_neg hbit, if_pos rfl, p_resetSheet (by omega), Option.bind_some]
              have hbf : had.testBit q = false := by simpa using hbit
              rw [hbf, if_pos (by decide), List.flatMap_cons, ← List.append_assoc] at hall
              generalize hY0 : ro X 36 (cpy (X.1 37) (X.1 36) (17 * e) 0 17) = Y0
              have Y036 : Y0.1 36 = N := by
                rw [← hY0, ro_eq]
                funext j
                by_cases hj : j < 17
                · rw [cpy_in (by omega), kX _ (by omega) (by omega)]; exact congrArg N (by omega)
                · rw [cpy_out (by omega), fX.2.2.1 j (by omega), hr]
              have fY0 : rwF e X Y0 := by rw [← hY0]; exact rwF.of36 (fun j hj => cpy_out (by omega))
              have kY0 : Y0.1 37 = X.1 37 ∧ Y0.1 38 = X.1 38 ∧ Y0.1 39 = X.1 39 := by rw [← hY0]; exact ⟨ro_ne (by decide), ro_ne (by decide), ro_ne (by decide)⟩
              unfold f_X7_setFound
              rw [Option.bind_some]
              show ∃ M', ((f_X7_canBeMissed Z sp_G (nI q) (foundM Y0 0 (-1) (-1) (-1))).bind _) = some M' ∧ _
              generalize hY : foundM Y0 0 (-1) (-1) (-1) = Y
              have y34 : ∀ j, Y.1 34 j = if j = 3 then -1 else if j = 2 then -1 else if j = 1 then -1 else if j = 0 then 0 else Y0.1 34 j := fun j => by rw [← hY]; exact foundM_j _ _ _ _ _ _
              have fY : rwF e X Y := fY0.trans (by rw [← hY]; exact foundM_F _ _ _ _ _ _)
              have kY : Y.1 37 = X.1 37 ∧ Y.1 38 = X.1 38 ∧ Y.1 39 = X.1 39 := by rw [← hY, foundM_k (by decide), foundM_k (by decide), foundM_k (by decide)]; exact kY0
              have Y36 : Y.1 36 = N := by rw [← hY, foundM_k (by decide)]; exact Y036
              have CY : ClsAt Z B 35 inF ls N Y := C.rw (fX.trans fY) Y36 C.rg C.hB
              obtain ⟨r, S, s1, s2, s3, s4, s5, s6, s7⟩ := c_miss CY (q := q) (by rw [h25, n_cl (by omega)]; omega) (by omega)
              rw [s1, Option.bind_some]
              -- the child's answers
              have kid : ∃ (T : az_M) (Rc : List (List Nat × Int32)), ((if r = 0 then f_X7_tryQuarrels_142 Z sp_G (f_X7_tryQuarrels Z sp_G D) (f_X7_tryQuarrels_78 Z sp_G (f_X7_tryQuarrels Z sp_G D) F) (nI e) (nI had) (nI d) (nI (cntV one Rd)) x5 x6 x7 (nI q) S else ((f_X7_tryQuarrels Z sp_G D (nI e + 1) (nI had ||| (1 <<< (nI q &&& 31))) S).bind fun q23 => f_X7_tryQuarrels_142 Z sp_G (f_X7_tryQuarrels Z sp_G D) (f_X7_tryQuarrels_78 Z sp_G (f_X7_tryQuarrels Z sp_G D) F) (nI e) (nI had) (nI d) (nI (cntV one Rd)) x5 x6 x7 (nI q) q23)) = f_X7_tryQuarrels_142 Z sp_G (f_X7_tryQuarrels Z sp_G D) (f_X7_tryQuarrels_78 Z sp_G (f_X7_tryQuarrels Z sp_G D) F) (nI e) (nI had) (nI d) (nI (cntV one Rd)) x5 x6 x7 (nI q) T) ∧ rwF e X T ∧ (∀ j, 17 * e ≤ j → j < 17 * e + 17 → T.1 37 j = X.1 37 j) ∧ sp_kid (sp_law inF ls) n had d N q = Rc.map (fun x => (q :: x.1, x.2)) ∧ (∀ x, x ∈ Rc → x.1.length = d ∧ ∀ p, p ∈ x.1 → p < 7) ∧ tryR (sp_law inF ls) n one base (bUp b Rd) X T Rc := by
                have tS : tabOK (sp_law inF ls) n one base (bUp b Rd) S := tX.cong (by rw [s4, kY.2.1]) (by rw [s5, kY.2.2])
                have nS : nopos X → nopos S := fun h => by unfold nopos; rw [s4, kY.2.1]; exact h
                cases hm : sp_miss (sp_law inF ls) N q with
                | none =>
                  obtain rfl := s6 hm
                  refine ⟨S, [], by rw [if_pos rfl], fY.trans (s2.mono (by omega)), fun j _ h => by rw [s2.2.2.2.1 j (by omega), kY.1], by unfold sp_kid; rw [hm]; rfl, fun x hx => (by cases hx), ?_, fun _ _ x hx => (by cases hx), fun _ => ?_, fun b' hb' _ => tS.mono hb', fun h _ => nS h⟩
                  · rw [s3, y34, cntV_0.mpr rfl]; rfl
                  · rw [s3, y34, y34]; exact bestOK.nil (Int.le_trans hb bUp_le) _
                | some N' =>
                  obtain ⟨rfl, CS, hN'⟩ := s7 N' hm
                  obtain ⟨T, t1, t2, t3, -⟩ := ih (e + 1) D (by omega) (by omega) (B + 8) N' S (had ||| 2 ^ q) (bUp b Rd) CS (by omega) (fun j hj => by rw [hN' j hj]; exact hNb j hj) (by rw [s3, y34, if_neg (by decide), if_neg (by decide), if_neg (by decide), if_neg (by decide), fY0.2.1 10 (by decide) (by decide) (by decide) (by decide), fX.2.1 10 (by decide) (by decide) (by decide) (by decide)]; exact hone) (had_or hh (by omega)) (by have := rem_len n (by omega) had hh q (by omega) hbf; omega) (Int.le_trans hb bUp_le) tS
                  refine ⟨T, sp_rows (sp_law inF ls) d (rem n (had ||| 2 ^ q)) N', ?_, fY.trans ((s2.mono (by omega)).trans (t2.mono (by omega))), fun j _ h => by rw [t2.2.2.2.1 j (by omega), s2.2.2.2.1 j (by omega), kY.1], by unfold sp_kid; rw [hm], fun x hx => ?_, t3.1, fun h0 hp => t3.2.1 h0 (nS hp), t3.2.2.1, t3.2.2.2.1, fun h => t3.2.2.2.2 (nS h)⟩
                  · rw [if_neg (by decide), show nI e + 1 = nI (e + 1) from (nI_succ e).symm, show (1 : Int32) <<< (nI q &&& 31) = nI (2 ^ q) from (c_shl 1 (show q < 32 by omega)).trans (by rw [Nat.mul_one]), c_orr, t1, Option.bind_some]
                  · obtain ⟨z1, z2⟩ := rows_mem _ _ _ _ x hx
                    refine ⟨z1, fun p hp => ?_⟩
                    have := List.mem_range.mp (List.mem_filter.mp (z2 p hp)).1
                    omega
              obtain ⟨T, Rc, t0, t1, t2, t3, t4, t5, t6, t7, t8, t9⟩ := kid
              rw [t0, p_142, t5, show nI q + 1 = nI (q + 1) from (nI_succ q).symm, n_add]
              rw [t3] at hall
              have hcnt : cntV one Rd + cntV one Rc = cntV one (Rd ++ Rc.map (fun x => (q :: x.1, x.2))) := by
                rcases h1R with h0 | h0
                · unfold cntV; rw [if_pos h0, if_pos h0, if_pos h0, List.length_append, List.length_map]
                · rw [h0, List.nil_append, cntV_0.mpr rfl, Nat.zero_add]
                  unfold cntV
                  rw [List.length_map]
                  cases Rc <;> simp
              have lRc : Rc.length ≤ 823543 := by
                have := congrArg List.length hall
                rw [List.length_append, List.length_append, List.length_map] at this; omega
              rw [hcnt]
              refine ihc (q + 1) F (by omega) (by omega) T _ _ _ _ (fX.trans t1) (fun j a b => by rw [t2 j a b]; exact kX j a b) (fun h0 hp x hx => ?_) (fun h0 => ?_) ?_ (fun hp hR => ?_) hall
              · have z4 : nI (cntV one Rd) = 0 ↔ Rd = [] := by
                  rw [show (0 : Int32) = nI 0 from rfl, n_eq (rlen Rd lRd) (by omega), cntV_0]
                have z0 : nI (cntV one Rc) ≤ 0 ↔ Rc = [] := by
                  rw [show (0 : Int32) = nI 0 from rfl, n_le (rlen Rc lRc) (by omega), ← cntV_0 (one := one)]; omega
                cases Rd with
                | cons y ys =>
                  rw [if_neg (fun e => by have := z4.mp e.1; cases this)]
                  exact h5 h0 hp x hx
                | nil =>
                  cases Rc with
                  | nil => cases hx
                  | cons y ys =>
                    rw [if_pos ⟨z4.mpr rfl, fun e => by have := z0.mp e; cases this⟩, t6 h0 (nX hp rfl) y rfl]
                    injection hx with hx
                    rw [← hx]
                    exact code_cons (by omega) (t4 y List.mem_cons_self).1 (by omega) (t4 y List.mem_cons_self).2
              · exact (h67 h0).step (t7 h0) (fun x hx => code_cons (by omega) (t4 x hx).1 (by omega) (t4 x hx).2)
              · refine t8 _ (bUp_min bUp_le (fun x hx => bUp_all x (List.mem_append_left _ hx))) (fun x hx => ?_)
                exact bUp_all (L := Rd ++ Rc.map (fun x => (q :: x.1, x.2))) (q :: x.1, x.2) (List.mem_append_right _ (List.mem_map.mpr ⟨x, hx, rfl⟩))
              · obtain ⟨r1, r2⟩ := List.append_eq_nil_iff.mp hR
                exact t9 (nX hp r1) (List.map_eq_nil_iff.mp r2)
          by_cases h0 : one = 0
          · rw [if_pos h0]; exact go (Or.inl h0)
          · rw [if_neg h0]
            by_cases hp : 0 < nI (cntV one Rd)
            · rw [if_pos hp]
              have hne : Rd ≠ [] := fun e => by rw [e, cntV_0.mpr rfl] at hp; exact absurd hp (by decide)
              refine fin X Rd _ x5 x6 x7 fX kX h5 h67 tX nX (fun x hx => hall ▸ List.mem_append_left _ hx) ?_ (fun e => absurd e h0) rfl
              unfold cntV
              rw [if_neg h0, if_neg h0, if_neg hne, if_neg]
              rw [← hall]
              intro e
              exact hne (List.append_eq_nil_iff.mp e).1
            · rw [if_neg hp]
              refine go (Or.inr ((cntV_0 (one := one)).mp ?_))
              rw [show (0 : Int32) = nI 0 from rfl, n_lt (by omega) (rlen Rd lRd)] at hp
              omega
      have f1 : rwF e M (ro M 37 (cpy (M.1 36) (M.1 37) 0 (17 * e) 17)) := ⟨fun k _ _ _ _ a _ _ => ro_ne a, fun j _ _ _ _ => by rw [ro_ne (by decide)], fun j _ => by rw [ro_ne (by decide)], fun j hj => by rw [ro_eq, cpy_out (by omega)], rfl⟩
      have := K n 0 sp_G (by omega) (by show n < 1000000; omega) (ro M 37 (cpy (M.1 36) (M.1 37) 0 (17 * e) 17)) [] (-1) (-1) (-1) f1 (fun j a b => by rw [ro_eq, cpy_in (by omega), hr]; exact congrArg N (by omega)) (fun _ _ x hx => by cases hx) (fun _ => bestOK.nil hb _) (tab.cong (ro_ne (by decide)) (ro_ne (by decide))) (fun h _ => by unfold nopos; rw [ro_ne (by decide)]; exact h) (by rw [List.nil_append, ← List.range_eq_range', rows_kid]; rfl)
      rw [cntV_0.mpr rfl] at this
      exact this
    · -- known
      rw [if_neg (by decide), if_neg (nI_in (by omega) (by decide)), n_cl (by omega)]
      unfold f_X7_setFound
      rw [Option.bind_some]
      refine ⟨foundM M (M.1 38 had) (-1) (-1) (-1), rfl, foundM_F _ _ _ _ _ _, ?_, fun j _ _ => Or.inr (by rw [foundM_k (by decide)])⟩
      have e0 := foundM_j M (M.1 38 had) (-1) (-1) (-1)
      rcases tab had hh with a | a
      · exact absurd a k2
      · obtain ⟨a1, a2⟩ := a N (fun j hj => by rw [k3 j hj, hr]) hNb
        rw [hrem] at a1 a2
        refine ⟨by rw [e0]; exact a1, fun _ hp x hx => ?_, fun _ => ?_, fun b' hb' _ => (tab.cong (foundM_k (by decide)) (foundM_k (by decide))).mono hb', fun hp _ => by unfold nopos; rw [foundM_k (by decide)]; exact hp⟩
        · exfalso
          have := (hp had hh).resolve_left k2
          rw [a1, show (0 : Int32) = nI 0 from rfl, n_eq (rlen _ (by omega)) (by omega)] at this
          rw [cntV_0.mp this] at hx
          cases hx
        · rw [e0, e0]; exact bestOK.none hb a2 _
