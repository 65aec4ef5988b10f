/-! marks(): the class -/
def rwF (d : Nat) (M M' : az_M) : Prop := (∀ k, k ≠ 14 → k ≠ 20 → k ≠ 34 → k ≠ 36 → k ≠ 37 → k ≠ 38 → k ≠ 39 → M'.1 k = M.1 k) ∧ (∀ j, j ≠ 0 → j ≠ 1 → j ≠ 2 → j ≠ 3 → M'.1 34 j = M.1 34 j) ∧ (∀ j, 17 ≤ j → M'.1 36 j = M.1 36 j) ∧ (∀ j, j < 17 * d → M'.1 37 j = M.1 37 j) ∧ M'.2 = M.2
theorem rwF.refl (d : Nat) (M : az_M) : rwF d M M := ⟨fun _ _ _ _ _ _ _ _ => rfl, fun _ _ _ _ _ => rfl, fun _ _ => rfl, fun _ _ => rfl, rfl⟩
theorem rwF.trans {d : Nat} {M M' M'' : az_M} (h : rwF d M M') (g : rwF d M' M'') : rwF d M M'' :=
  ⟨fun k a b c d e f i => (g.1 k a b c d e f i).trans (h.1 k a b c d e f i), fun j a b c d => (g.2.1 j a b c d).trans (h.2.1 j a b c d), fun j a => (g.2.2.1 j a).trans (h.2.2.1 j a), fun j a => (g.2.2.2.1 j a).trans (h.2.2.2.1 j a), g.2.2.2.2.trans h.2.2.2.2⟩
theorem rwF.mono {d d' : Nat} {M M' : az_M} (h : rwF d M M') (hd : d' ≤ d) : rwF d' M M' := ⟨h.1, h.2.1, h.2.2.1, fun j hj => h.2.2.2.1 j (by omega), h.2.2.2.2⟩
theorem p_keepSheet {d : Nat} (hd : d ≤ 7) (M : az_M) : f_X7_keepSheet (nI d) M = some (ro M 37 (cpy (M.1 36) (M.1 37) 0 (17 * d) 17)) := by
  unfold f_X7_keepSheet
  simp (disch := omega) only [n_addl, n_addr, n_add, n_mull, n_mulr, n_mul, n_sub, n_subr, n_subl, n_cl, n_lt, n_le, n_eq, n_ltl, n_ltr, n_lel, n_ler, n_eqr, n_eql, n_nm1, n_m1n, n_m1lt, n_ltm1, l_ltr, l_ltl, l_ler, l_lel, l_m1lt, l_nneg, if_true, if_false, or_false, false_or, or_true, true_or, and_true, true_and, and_false, false_and, not_true_eq_false, not_false_eq_true, Option.bind_some, Option.bind_none, reduceIte, ltT, ltF, leT, leF, eqT, eqF, nI_lt0]
  rw [az_cp_ro, Nat.mul_comm]; rfl
theorem p_resetSheet {d : Nat} (hd : d ≤ 7) (M : az_M) : f_X7_resetSheet (nI d) M = some (ro M 36 (cpy (M.1 37) (M.1 36) (17 * d) 0 17)) := by
  unfold f_X7_resetSheet
  simp (disch := omega) only [n_addl, n_addr, n_add, n_mull, n_mulr, n_mul, n_sub, n_subr, n_subl, n_cl, n_lt, n_le, n_eq, n_ltl, n_ltr, n_lel, n_ler, n_eqr, n_eql, n_nm1, n_m1n, n_m1lt, n_ltm1, l_ltr, l_ltl, l_ler, l_lel, l_m1lt, l_nneg, if_true, if_false, or_false, false_or, or_true, true_or, and_true, true_and, and_false, false_and, not_true_eq_false, not_false_eq_true, Option.bind_some, Option.bind_none, reduceIte, ltT, ltF, leT, leF, eqT, eqF, nI_lt0]
  rw [az_cp_ro, Nat.mul_comm]; rfl
theorem shot_17 (l : Option sp_L) (N : Nat → Int32) {q j : Nat} (hq : q < 12) (hj : 17 ≤ j) : sp_shot l N q j = N j := by
  rw [sp_shot_eq l N hq]
  unfold sp_dig
  split
  · rw [up_ne (by omega), hit_at l N (by omega) (by omega) (by omega)]
  · unfold sp_days
    rw [if_neg (by omega), if_neg (by omega), hit_at l N (by omega) (by omega) (by omega)]
theorem ClsAt.rw {Z : az_S × Nat} {B B' d : Nat} {inF : Int32} {ls : Nat → sp_L} {N N' : Nat → Int32} {M M' : az_M} (h : ClsAt Z B 35 inF ls N M) (f : rwF d M M') (hr : M'.1 36 = N') (hg : sp_rg B' N') (hB : B' ≤ 1000000000) : ClsAt Z B' 35 inF ls N' M' :=
  h.to (f.1 3 (by decide) (by decide) (by decide) (by decide) (by decide) (by decide) (by decide)) (fun k hk => f.1 k (by omega) (by omega) (by omega) (by omega) (by omega) (by omega) (by omega)) (by rw [f.2.2.2.2]) hr hg hB h.ho
/-- the rows of shots that make a weight and a flatness -/
def mk_ok (l : Option sp_L) (w f : Int32) (P : Nat) : Nat → (Nat → Int32) → List (List Nat)
  | 0, N => if N 0 = w ∧ N 1 = f then [[]] else []
  | d + 1, N => (List.range P).flatMap (fun q => if N (27 + q) = 2 ∨ N 0 ≤ 0 then [] else (mk_ok l w f P d (sp_shot l N q)).map (q :: ·))
theorem flat_le {α : Type} (g : Nat → List α) (K : Nat) : ∀ (l : List Nat), (∀ q, q ∈ l → (g q).length ≤ K) → (l.flatMap g).length ≤ l.length * K := by
  intro l
  induction l with
  | nil => intro _; exact Nat.zero_le _
  | cons q l ih =>
    intro h
    have h1 := h q List.mem_cons_self
    have h2 := ih (fun x hx => h x (List.mem_cons_of_mem _ hx))
    rw [List.flatMap_cons, List.length_append, List.length_cons, Nat.succ_mul]
    omega
theorem mk_len (l : Option sp_L) (w f : Int32) {P : Nat} (hP : P ≤ 12) : ∀ (d : Nat) (N : Nat → Int32), (mk_ok l w f P d N).length ≤ 12 ^ d := by
  intro d
  induction d with
  | zero => intro N; rw [mk_ok]; split <;> decide
  | succ d ih =>
    intro N
    rw [mk_ok]
    refine Nat.le_trans (flat_le _ (12 ^ d) _ (fun q _ => ?_)) ?_
    · split
      · exact Nat.zero_le _
      · rw [List.length_map]; exact ih _
    · rw [List.length_range, Nat.pow_succ, Nat.mul_comm]; exact Nat.mul_le_mul_left _ hP
def mkC (M : az_M) (Ls : List (List Nat)) : Prop := M.1 34 0 = nI Ls.length ∧ M.1 34 1 = (match Ls.head? with | none => -1 | some r => sp_code r)
theorem c_tryShots {Z : az_S × Nat} {inF : Int32} {ls : Nat → sp_L} {P n : Nat} {w f : Int32} (hP : P ≤ 12) (hn : n ≤ 3) : ∀ (d e D : Nat), e + d = n → d < D → ∀ (B : Nat) (N : Nat → Int32) (M : az_M) (pre : List Nat) (Ls : List (List Nat)), ClsAt Z B 35 inF ls N M → B + d ≤ 1000000000 → N 23 = nI P → N 3 = 0 → N 18 = 1 → M.1 34 11 = w → M.1 34 12 = f → pre.length = e → (∀ x, x ∈ pre → x < 16) → mkC M Ls → Ls.length + 12 ^ d ≤ 100000 →
    ∃ M', f_X7_tryShots Z sp_G D (nI e) (nI n) (sp_code pre) M = some M' ∧ rwF e M M' ∧ mkC M' (Ls ++ (mk_ok (sp_law inF ls) w f P d N).map (pre ++ ·)) := by
  intro d
  induction d with
  | zero =>
    intro e D he hD B N M pre Ls C hB hPn h3 h18 hw hf hpre hlt hC hL
    obtain ⟨D, rfl⟩ : ∃ D1, D = D1 + 1 := ⟨D - 1, by omega⟩
    have hr : M.1 36 = N := C.row
    rw [f_X7_tryShots]
    unfold f_X7_tryShots_b f_X7_tryShots_53 f_X7_tryShots_66
    rw [if_neg (by rw [n_lt (by omega) (by omega)]; omega), hr, hw, hf, mk_ok]
    by_cases h0 : N 0 = w
    · by_cases h1 : N 1 = f
      · rw [if_pos h0, if_pos h1, if_pos (show N 0 = w ∧ N 1 = f from ⟨h0, h1⟩), List.map_cons, List.append_nil, List.map_nil]
        have fr : ∀ v u, rwF e M (az_i (az_i M 34 1 v) 34 0 u) := fun v u => ⟨fun k _ _ a _ _ _ _ => by rw [gi_k a, gi_k a], fun j a b _ _ => by rw [gi, if_pos rfl, if_neg a, gi, if_pos rfl, if_neg b], fun j _ => by rw [gi_k (by decide), gi_k (by decide)], fun j _ => by rw [gi_k (by decide), gi_k (by decide)], rfl⟩
        have e0 : ∀ v, (az_i M 34 1 v).1 34 0 = nI Ls.length := fun v => by rw [gi, if_pos rfl, if_neg (by decide), hC.1]
        cases Ls with
        | nil =>
          rw [if_pos (by rw [hC.1]; rfl)]
          refine ⟨_, rfl, fr _ _, ?_, ?_⟩
          · rw [gi, if_pos rfl, if_pos rfl, e0]; rfl
          · rw [gi, if_pos rfl, if_neg (by decide), gi, if_pos rfl, if_pos rfl]; rfl
        | cons r rs =>
          rw [if_neg (by rw [hC.1, show (0 : Int32) = nI 0 from rfl, n_eq (by omega) (by omega), List.length_cons]; omega)]
          refine ⟨_, rfl, fr _ _, ?_, ?_⟩
          · rw [gi, if_pos rfl, if_pos rfl, e0, List.length_append, ← n_add]; rfl
          · rw [gi, if_pos rfl, if_neg (by decide), gi, if_pos rfl, if_pos rfl, hC.2]; rfl
      · rw [if_pos h0, if_neg h1, if_neg (fun e => h1 e.2), List.map_nil, List.append_nil]
        exact ⟨M, rfl, rwF.refl _ _, hC⟩
    · rw [if_neg h0, if_neg (fun e => h0 e.1), List.map_nil, List.append_nil]
      exact ⟨M, rfl, rwF.refl _ _, hC⟩
  | succ d ih =>
    intro e D he hD B N M pre Ls C hB hPn h3 h18 hw hf hpre hlt hC hL
    obtain ⟨D, rfl⟩ : ∃ D1, D = D1 + 1 := ⟨D - 1, by omega⟩
    have hr : M.1 36 = N := C.row
    rw [f_X7_tryShots]
    unfold f_X7_tryShots_b
    rw [if_pos (by rw [n_lt (by omega) (by omega)]; omega), p_keepSheet (by omega), Option.bind_some, mk_ok, List.range_eq_range']
    have K : ∀ (c q F : Nat), q + c = P → c < F → ∀ (X : az_M) (Lx : List (List Nat)), rwF e M X → (∀ j, 17 * e ≤ j → j < 17 * e + 17 → X.1 37 j = N (j - 17 * e)) → mkC X Lx → Lx.length + c * 12 ^ d ≤ 100000 →
        ∃ M', f_X7_tryShots_75 Z sp_G (f_X7_tryShots Z sp_G D) F (nI e) (nI n) (sp_code pre) (nI q) X = some M' ∧ rwF e M M' ∧ mkC M' (Lx ++ ((List.range' q c).flatMap (fun q => if N (27 + q) = 2 ∨ N 0 ≤ 0 then [] else (mk_ok (sp_law inF ls) w f P d (sp_shot (sp_law inF ls) N q)).map (q :: ·))).map (pre ++ ·)) := by
      intro c
      induction c with
      | zero =>
        intro q F hq hF X Lx fX kX cX lX
        obtain ⟨F, rfl⟩ : ∃ F1, F = F1 + 1 := ⟨F - 1, by omega⟩
        rw [f_X7_tryShots_75, fX.2.2.1 23 (by omega), hr, hPn, if_pos (by rw [n_le (by omega) (by omega)]; omega)]
        refine ⟨X, rfl, fX, ?_⟩
        simpa using cX
      | succ c ihc =>
        intro q F hq hF X Lx fX kX cX lX
        obtain ⟨F, rfl⟩ : ∃ F1, F = F1 + 1 := ⟨F - 1, by omega⟩
        rw [Nat.succ_mul] at lX
        rw [f_X7_tryShots_75, fX.2.2.1 23 (by omega), hr, hPn, if_neg (by rw [n_le (by omega) (by omega)]; omega), p_resetSheet (by omega), Option.bind_some]
        generalize hY : ro X 36 (cpy (X.1 37) (X.1 36) (17 * e) 0 17) = Y
        have Y36 : Y.1 36 = N := by
          rw [← hY, ro_eq]
          funext j
          by_cases hj : j < 17
          · rw [cpy_in (by omega), kX _ (by omega) (by omega)]
            exact congrArg N (by omega)
          · rw [cpy_out (by omega), fX.2.2.1 j (by omega), hr]
        have fY : rwF e M Y := fX.trans (by rw [← hY]; exact ⟨fun k _ _ _ a _ _ _ => ro_ne a, fun j _ _ _ _ => by rw [ro_ne (by decide)], fun j hj => by rw [ro_eq, cpy_out (by omega)], fun j _ => by rw [ro_ne (by decide)], rfl⟩)
        have kY : ∀ j, 17 * e ≤ j → j < 17 * e + 17 → Y.1 37 j = N (j - 17 * e) := fun j a b => by rw [← hY, ro_ne (by decide)]; exact kX j a b
        have cY : mkC Y Lx := by unfold mkC; rw [← hY, ro_ne (by decide)]; exact cX
        unfold f_X7_tryShots_150
        rw [p_canBeFired, show Y.1 (35 + 1) = N from Y36, Option.bind_some, List.range'_succ, List.flatMap_cons]
        simp (disch := omega) only [n_addl, n_addr, n_add, n_mull, n_mulr, n_mul, n_sub, n_subr, n_subl, n_cl, n_lt, n_le, n_eq, n_ltl, n_ltr, n_lel, n_ler, n_eqr, n_eql, n_nm1, n_m1n, n_m1lt, n_ltm1, l_ltr, l_ltl, l_ler, l_lel, l_m1lt, l_nneg, if_true, if_false, or_false, false_or, or_true, true_or, and_true, true_and, and_false, false_and, not_true_eq_false, not_false_eq_true, Option.bind_some, Option.bind_none, reduceIte, ltT, ltF, leT, leF, eqT, eqF, nI_lt0]
        have skip : (N (27 + q) = 2 ∨ N 0 ≤ 0) → ∃ M', f_X7_tryShots_75 Z sp_G (f_X7_tryShots Z sp_G D) F (nI e) (nI n) (sp_code pre) (nI (q + 1)) Y = some M' ∧ rwF e M M' ∧ mkC M' (Lx ++ ((if N (27 + q) = 2 ∨ N 0 ≤ 0 then [] else (mk_ok (sp_law inF ls) w f P d (sp_shot (sp_law inF ls) N q)).map (q :: ·)) ++ (List.range' (q + 1) c).flatMap (fun q => if N (27 + q) = 2 ∨ N 0 ≤ 0 then [] else (mk_ok (sp_law inF ls) w f P d (sp_shot (sp_law inF ls) N q)).map (q :: ·))).map (pre ++ ·)) := by
          intro hs
          rw [if_pos hs, List.nil_append]
          exact ihc (q + 1) F (by omega) (by omega) Y Lx fY kY cY (Nat.le_trans (Nat.add_le_add_left (Nat.le_add_right _ _) _) lX)
        unfold sp_can
        rw [if_pos h3, h18]
        by_cases h0 : N 0 < 1
        · rw [if_pos h0, if_pos rfl]
          exact skip (Or.inr (by rw [Int32.lt_iff_toInt_lt] at h0; rw [Int32.le_iff_toInt_le]; have e1 : (1 : Int32).toInt = 1 := rfl; have e2 : (0 : Int32).toInt = 0 := rfl; omega))
        · rw [if_neg h0, if_neg (by decide)]
          by_cases hk : N (27 + q) = 2
          · rw [if_pos hk]; exact skip (Or.inl hk)
          · rw [if_neg hk]
            have hns : ¬ (N (27 + q) = 2 ∨ N 0 ≤ 0) := by
              rintro (h | h)
              · exact hk h
              · rw [Int32.lt_iff_toInt_lt] at h0; rw [Int32.le_iff_toInt_le] at h; have e1 : (1 : Int32).toInt = 1 := rfl; have e2 : (0 : Int32).toInt = 0 := rfl; omega
            have CY : ClsAt Z B 35 inF ls N Y := C.rw fY Y36 C.rg C.hB
            obtain ⟨S, s1, s2, s3, s4⟩ := p_shoot0 CY (q := q) (by omega)
            have s2' : S.1 36 = sp_shot (sp_law inF ls) N q := s2
            have fS : rwF 8 Y S := ⟨fun k a b _ c _ _ _ => s3 k a b c, fun j _ _ _ _ => by rw [s3 34 (by decide) (by decide) (by decide)], fun j hj => by rw [s2', Y36, shot_17 _ _ (by omega) hj], fun j _ => by rw [s3 37 (by decide) (by decide) (by decide)], s4⟩
            have rg' := shot_rg C.rg (by omega) (sp_law inF ls) (q := q) (by omega)
            have CS : ClsAt Z (B + 1) 35 inF ls (sp_shot (sp_law inF ls) N q) S := CY.rw fS s2' rg' (by omega)
            have z3 : sp_shot (sp_law inF ls) N q 3 = 0 := by
              rw [sp_shot_eq _ N (show q < 12 by omega)]
              unfold sp_dig
              rw [if_neg (by rw [hit_at _ N (by omega) (by omega) (by omega)]; exact hk)]
              unfold sp_days
              rw [if_neg (by decide), if_neg (by decide), hit_at _ N (by decide) (by decide) (by omega), h3]
            have e34 : ∀ j, S.1 34 j = Y.1 34 j := fun j => by rw [s3 34 (by decide) (by decide) (by decide)]
            have ec : (sp_code pre <<< (4 &&& 31)) ||| nI q = sp_code (pre ++ [q]) := by
              show _ = List.foldl _ _ _
              rw [List.foldl_append]; rfl
            obtain ⟨T, t1, t2, t3⟩ := ih (e + 1) D (by omega) (by omega) (B + 1) _ S (pre ++ [q]) Lx CS (by omega) (by rw [shot_17 _ _ (by omega) (by omega)]; exact hPn) z3 (by rw [shot_17 _ _ (by omega) (by omega)]; exact h18) (by rw [e34, fY.2.1 11 (by decide) (by decide) (by decide) (by decide)]; exact hw) (by rw [e34, fY.2.1 12 (by decide) (by decide) (by decide) (by decide)]; exact hf) (by rw [List.length_append, hpre]; rfl) (fun x hx => by
              rcases List.mem_append.mp hx with h | h
              · exact hlt x h
              · have := List.mem_singleton.mp h; omega) (by unfold mkC; rw [e34, e34]; exact cY) (by omega)
            rw [s1, Option.bind_some, ec, t1, Option.bind_some]
            have fT : rwF e M T := fY.trans ((fS.mono (by omega)).trans (t2.mono (by omega)))
            have kT : ∀ j, 17 * e ≤ j → j < 17 * e + 17 → T.1 37 j = N (j - 17 * e) := fun j a b => by
              rw [t2.2.2.2.1 j (by omega), fS.2.2.2.1 j (by omega)]; exact kY j a b
            have ml := mk_len (sp_law inF ls) w f hP d (sp_shot (sp_law inF ls) N q)
            obtain ⟨U, u1, u2, u3⟩ := ihc (q + 1) F (by omega) (by omega) T _ fT kT t3 (by rw [List.length_append, List.length_map]; omega)
            refine ⟨U, u1, u2, ?_⟩
            rw [if_neg hns, List.map_append, List.map_map, ← List.append_assoc]
            have em : (fun x => pre ++ x) ∘ (fun x => q :: x) = fun x => pre ++ [q] ++ x := by
              funext x; show pre ++ (q :: x) = _; simp
            rw [em]; exact u3
    have f1 : rwF e M (ro M 37 (cpy (M.1 36) (M.1 37) 0 (17 * e) 17)) := ⟨fun k _ _ _ _ a _ _ => ro_ne a, fun j _ _ _ _ => by rw [ro_ne (by decide)], fun j _ => by rw [ro_ne (by decide)], fun j hj => by rw [ro_eq, cpy_out (by omega)], rfl⟩
    have h12 : P * 12 ^ d ≤ 12 ^ (d + 1) := by rw [Nat.pow_succ, Nat.mul_comm]; exact Nat.mul_le_mul_left _ hP
    exact K P 0 sp_G (by omega) (by show P < 1000000; omega) _ Ls f1 (fun j a b => by rw [ro_eq, cpy_in (by omega), hr]; exact congrArg N (by omega)) (by unfold mkC; rw [ro_ne (by decide)]; exact hC) (by omega)
