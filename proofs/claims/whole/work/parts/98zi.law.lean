theorem ob_law : Ob_law az_Inv sp_G := by
  intro m Z M hm h
  obtain ⟨r, Mc1, hres, cK, c2, hcase⟩ := law_class h
  refine ⟨fun q hq => by rw [hres] at hq; injection hq with hq; rw [← hq]; exact h.2.1.same c2, ?_⟩
  obtain ⟨z1, z2, -, -⟩ := h.lens
  obtain ⟨T, L, hL, h255, hT, t1, t2⟩ := tape_of h.2.2.2.2.1
  have hW := h.2.2.2.2.2.2.2.2.2.2.2
  have h71 := h.1.1.1
  obtain ⟨ls, ⟨n, n1, n2, n3, -⟩, -⟩ := h.2.2.2.1
  have n6 : n = 6 ∨ n < 6 := by omega
  rcases n6 with rfl | hn
  · -- six laws already
    refine ⟨-5, p_rc (az_i M 5 1 0) (-5) 3, [], _, ?_, ?_, law_no (v := -5) (j := 3) (j' := 5) (M' := p_rf (az_i (az_i (p_rc (az_i M 5 1 0) (-5) 3) 40 0 0) 40 13 0) (-5) 5) h (Or.inl ⟨rfl, rfl⟩) (fun a q0 q5 q12 q15 q16 q17 q18 q40 q41 q50 q51 q52 q53 q54 => ?_) (fun q hq => ?_) rfl (fun k hk => rfl) ⟨rfl, rfl, ?_⟩ ⟨rfl, ?_, rfl, rfl⟩ rfl rfl⟩
    · unfold f_X11_law
      rw [if_neg (by rw [n2]; decide), p_refuse5]; rfl
    · unfold f_X12_law
      rw [if_pos (show (az_i (p_rc (az_i M 5 1 0) (-5) 3) 40 0 0).1 42 4 = 6 from n3), p_tell5]; rfl
    · unfold p_rf p_rc
      rw [gi_k q41, gi_k q40, gi_k q40, gi_k q40, gi_k q12, gi_k q0, gi_k q5]
    · rcases hq with rfl | rfl | rfl | rfl <;> rfl
    · exact h.2.2.2.2.2.2.2.2.2.2.1
    · exact h.2.2.2.2.2.1.2.1
  · rcases hcase with ⟨j, hj, rfl⟩ | ⟨rfl, N, len, N1, N2, len1, len2, len3⟩
    · -- a text that can't be read
      obtain ⟨X1, hX1⟩ : ∃ X1, X1 = az_i (az_i Mc1 0 13 (nI j)) 5 1 0 := ⟨_, rfl⟩
      have xK : ∀ a, a ≠ 0 → a ≠ 5 → a ≠ 15 → a ≠ 16 → a ≠ 17 → a ≠ 18 → X1.1 a = M.1 a := fun a p q r s t u => by rw [hX1, gi_k q, gi_k p, cK a r s t u]
      have x2 : X1.2 = M.2 := by rw [hX1]; exact c2
      have x013 : X1.1 0 13 = nI j := by rw [hX1, gi_k (by decide), gi, if_pos rfl, if_pos rfl]
      have x0 : ∀ q, q ≠ 13 → X1.1 0 q = M.1 0 q := fun q hq => by rw [hX1, gi_k (by decide), gi, if_pos rfl, if_neg hq, cK 0 (by decide) (by decide) (by decide) (by decide)]
      have x51 : X1.1 5 1 = 0 := by rw [hX1, gi, if_pos rfl, if_pos rfl]
      have e1 : f_X11_law Z sp_G M = some (-6, p_rc X1 (-6) 4, []) := by
        unfold f_X11_law
        rw [if_pos (by rw [n2, show (6 : Int32) = nI 6 from rfl, n_lt (by omega) (by omega)]; exact hn), hres, Option.bind_some, ← hX1, if_neg (by rw [x013, n_nm1 (by omega)]; exact not_false), p_refuse6]; rfl
      obtain ⟨M1, hM1⟩ : ∃ M1, M1 = p_rc X1 (-6) 4 := ⟨_, rfl⟩
      have mK : ∀ a, a ≠ 0 → a ≠ 12 → M1.1 a = X1.1 a := fun a p q => by rw [hM1]; unfold p_rc; rw [gi_k q, gi_k p]
      have m2 : M1.2 = M.2 := by rw [hM1]; exact x2
      have m12 : M1.1 12 = up (M.1 12) 4 (M.1 12 4 + 1) := by
        rw [hM1]; unfold p_rc
        rw [az_i_ro, ro_eq, gi_k (by decide), xK 12 (by decide) (by decide) (by decide) (by decide) (by decide) (by decide)]
      have m0 : ∀ q, M1.1 0 q = if q = 12 then -6 else X1.1 0 q := fun q => by
        rw [hM1]; unfold p_rc; rw [gi_k (by decide), gi, if_pos rfl]
      rw [← hM1] at e1
      obtain ⟨Y, hY⟩ : ∃ Y, Y = az_i M1 40 0 0 := ⟨_, rfl⟩
      have yK : ∀ a, a ≠ 40 → Y.1 a = M1.1 a := fun a p => by rw [hY, gi_k p]
      have y40 : ∀ q, q ≠ 0 → Y.1 40 q = M.1 40 q := fun q hq => by rw [hY, gi, if_pos rfl, if_neg hq, mK 40 (by decide) (by decide), xK 40 (by decide) (by decide) (by decide) (by decide) (by decide) (by decide)]
      have y2 : Y.2 = M.2 := by rw [hY]; exact m2
      obtain ⟨Mc0, Mr0, -, -, r1, r2, r3, r4, r5, hr⟩ := law_read (Z := Z) hL h255 z1 z2 hT (Mr := Y) ⟨by rw [y40 13 (by decide)]; exact t1, fun i hi => by rw [yK 49 (by decide), mK 49 (by decide) (by decide), xK 49 (by decide) (by decide) (by decide) (by decide) (by decide) (by decide)]; exact t2 i hi⟩ (by unfold RWk; rw [y2]; exact hW)
      rcases hr with ⟨Mc', j', X, Mr', q1, q2, q3, q4, q5, q6, q7, q8⟩ | ⟨Mc', X, i, c, nn, mm, l, q1, -⟩
      · rw [hres] at q1
        injection q1 with q1
        have jj : nI j = nI j' := congrArg Prod.fst q1
        have e2 : f_X12_law sp_G M1 = some (-6, p_rf (az_i (az_i Mr' 40 20 0) 40 13 0) (-6) 6) := by
          unfold f_X12_law
          rw [← hY, if_neg (by rw [yK 42 (by decide), mK 42 (by decide) (by decide), xK 42 (by decide) (by decide) (by decide) (by decide) (by decide) (by decide), n3, show (6 : Int32) = nI 6 from rfl, n_eq (by omega) (by omega)]; omega), q4]
          unfold f_X12_law_64
          rw [q5, Option.bind_some, if_neg (by rw [gi, if_pos rfl, if_neg (by decide), gi, if_pos rfl, if_neg (by decide), q6]; decide), p_tell6]; rfl
        have eK : ∀ a, a ≠ 40 → a ≠ 41 → a ≠ 50 → a ≠ 51 → a ≠ 52 → a ≠ 53 → a ≠ 54 → (p_rf (az_i (az_i Mr' 40 20 0) 40 13 0) (-6) 6).1 a = M1.1 a := fun a p41 p42 p50 p51 p52 p53 p54 => by
          unfold p_rf
          rw [gi_k p42, gi_k p41, gi_k p41, gi_k p41, q8.1 a p41 p51 p52 p53 p54 p50, r1 a p41, yK a p41]
        have e40 : ∀ q, q ≠ 1 → q ≠ 13 → q ≠ 20 → (p_rf (az_i (az_i Mr' 40 20 0) 40 13 0) (-6) 6).1 40 q = Mr'.1 40 q := fun q p1 p2 p3 => by
          unfold p_rf
          rw [gi_k (by decide), gi, if_pos rfl, if_neg p1, gi, if_pos rfl, if_neg p2, gi, if_pos rfl, if_neg p3]
        refine ⟨-6, M1, [], _, e1, e2, law_no (v := -6) (j := 4) (j' := 6) h (Or.inr ⟨rfl, rfl⟩) (fun a p0 p5 p12 p15 p16 p17 p18 p40 p41 p50 p51 p52 p53 p54 => by rw [eK a p40 p41 p50 p51 p52 p53 p54, mK a p0 p12, xK a p0 p5 p15 p16 p17 p18]) (fun q hq => ?_) ?_ (fun k hk => ?_) ⟨?_, ?_, ?_⟩ ⟨?_, ?_, ?_, ?_⟩ ?_ ?_⟩
        · rw [e40 q (by omega) (by omega) (by omega), q8.2.1 q (by omega) (by omega) (by omega) (by omega) (by omega) (by omega) (by omega) (by omega) (by omega) (by omega), r2 q (by omega) (by omega) (by omega) (by omega) (by omega) (by omega) (by omega) (by omega) (by omega), y40 q (by omega)]
        · show Mr'.2.2 = _
          rw [q8.2.2.2.2, r4, y2]
        · show Mr'.2.1 k = _
          rw [q8.2.2.1 k hk, r3 k hk, y2]
        · rw [eK 5 (by decide) (by decide) (by decide) (by decide) (by decide) (by decide) (by decide), mK 5 (by decide) (by decide)]; exact x51
        · rfl
        · rfl
        · rw [eK 0 (by decide) (by decide) (by decide) (by decide) (by decide) (by decide) (by decide), m0, if_pos rfl]; rfl
        · rw [eK 0 (by decide) (by decide) (by decide) (by decide) (by decide) (by decide) (by decide), m0, if_neg (by decide), e40 18 (by decide) (by decide) (by decide), q7, x013, jj]
        · rw [eK 0 (by decide) (by decide) (by decide) (by decide) (by decide) (by decide) (by decide), m0, if_neg (by decide), x0 14 (by decide)]
        · rw [eK 0 (by decide) (by decide) (by decide) (by decide) (by decide) (by decide) (by decide), m0, if_neg (by decide), x0 15 (by decide)]
        · rw [eK 12 (by decide) (by decide) (by decide) (by decide) (by decide) (by decide) (by decide)]; exact m12
        · have e41 : (az_i (az_i (az_i Mr' 40 20 0) 40 13 0) 40 1 (-6)).1 41 = M.1 41 := by rw [gi_k (by decide), gi_k (by decide), gi_k (by decide), q8.1 41 (by decide) (by decide) (by decide) (by decide) (by decide) (by decide), r1 41 (by decide), yK 41 (by decide), mK 41 (by decide) (by decide), xK 41 (by decide) (by decide) (by decide) (by decide) (by decide) (by decide)]
          have e41' : (az_i (az_i Mr' 40 20 0) 40 13 0).1 41 = M.1 41 := by
            have := e41
            rw [gi_k (by decide)] at this
            exact this
          unfold p_rf
          rw [az_i_ro, ro_eq, e41, e41']
      · rw [hres] at q1
        injection q1 with q1
        have jj : nI j = -1 := congrArg Prod.fst q1
        rw [n_nm1 (by omega)] at jj
        exact jj.elim
    · -- a law more
      obtain ⟨X1, hX1⟩ : ∃ X1, X1 = az_i (az_i Mc1 0 13 (-1)) 5 1 0 := ⟨_, rfl⟩
      have xC : ∀ a, a ≠ 0 → a ≠ 5 → X1.1 a = Mc1.1 a := fun a p q => by rw [hX1, gi_k q, gi_k p]
      have xK : ∀ a, a ≠ 0 → a ≠ 5 → a ≠ 15 → a ≠ 16 → a ≠ 17 → a ≠ 18 → X1.1 a = M.1 a := fun a p q r s t u => by rw [xC a p q, cK a r s t u]
      have x2 : X1.2 = M.2 := by rw [hX1]; exact c2
      have x013 : X1.1 0 13 = -1 := by rw [hX1, gi_k (by decide), gi, if_pos rfl, if_pos rfl]
      have x0 : ∀ q, q ≠ 13 → X1.1 0 q = M.1 0 q := fun q hq => by rw [hX1, gi_k (by decide), gi, if_pos rfl, if_neg hq, cK 0 (by decide) (by decide) (by decide) (by decide)]
      have x51 : X1.1 5 1 = 0 := by rw [hX1, gi, if_pos rfl, if_pos rfl]
      have x162 : X1.1 16 2 = nI N := by rw [xC 16 (by decide) (by decide)]; exact N1
      have x163 : X1.1 16 3 = nI len := by rw [xC 16 (by decide) (by decide)]; exact len1
      have l6 : nI len * 6 = nI (6 * len) := by rw [show nI len * 6 = nI (len * 6) from n_mulr 6 len, Nat.mul_comm]
      obtain ⟨MT, hMT⟩ : ∃ MT, MT = az_mt X1 Z.2 N (6 * len) := ⟨_, rfl⟩
      have tK : ∀ a, a < Z.2 → MT.1 a = X1.1 a := fun a ha => by
        rw [hMT]
        show (if a = Z.2 then _ else if a = Z.2 + 1 then _ else if a = Z.2 + 2 then _ else X1.1 a) = _
        rw [if_neg (by omega), if_neg (by omega), if_neg (by omega)]
      have T2 : MT.2 = M.2 := by rw [hMT]; exact x2
      have T0 : MT.1 Z.2 3 = nI len := by rw [hMT, az_mt_0]; show X1.1 16 3 = _; exact x163
      have T1 : ∀ j, j < N → MT.1 (Z.2 + 1) j = Mc1.1 17 j := fun j hj => by
        rw [hMT, az_mt_1]
        unfold va_cpy
        rw [if_pos (by omega), xC 17 (by decide) (by decide)]
        exact congrArg (Mc1.1 17) (by omega)
      have T3 : ∀ j, j < 6 * len → MT.1 (Z.2 + 2) j = Mc1.1 18 j := fun j hj => by
        rw [hMT, az_mt_2]
        unfold va_cpy
        rw [if_pos (by omega), xC 18 (by decide) (by decide)]
        exact congrArg (Mc1.1 18) (by omega)
      have t31 : MT.1 3 1 = nI n := by rw [tK 3 (by omega), xK 3 (by decide) (by decide) (by decide) (by decide) (by decide) (by decide)]; exact n2
      have tok : az_toko (az_zx Z [(10, 0), (13, N), (13, 6 * len)]) (some Z.2) = true := by
        show az_tok _ Z.2 = true
        have zk : ∀ i, (az_zx Z [(10, 0), (13, N), (13, 6 * len)]).1.1 (Z.2 + i) = ([(10, 0), (13, N), (13, 6 * len)].getD i (0, 0)).1 := fun i => by
          show (if Z.2 + i < Z.2 then _ else _) = _
          rw [if_neg (by omega), Nat.add_sub_cancel_left]
        have a1 := zk 0; have a2 := zk 1; have a3 := zk 2
        rw [Nat.add_zero] at a1
        unfold az_tok; rw [a1, a2, a3, show (az_zx Z [(10, 0), (13, N), (13, 6 * len)]).2 = Z.2 + 3 from rfl]; simp
      obtain ⟨M1, hM1⟩ : ∃ M1, M1 = az_i (az_i (az_i (az_q MT 4 n (some Z.2)) 3 1 (nI (n + 1))) 0 12 0) 34 13 0 := ⟨_, rfl⟩
      have ad : f_X0_add (az_zx Z [(10, 0), (13, N), (13, 6 * len)]) 3 Z.2 MT = some (nI n, az_i (az_q MT 4 n (some Z.2)) 3 1 (nI (n + 1))) := by
        unfold f_X0_add
        have q31 : ∀ j v, (az_q MT (3 + 1) j v).1 3 1 = nI n := fun j v => t31
        have p1 : (az_i (az_q MT (3 + 1) n (some Z.2)) 3 1 (nI (n + 1))).1 3 1 - 1 = nI n := by rw [gi, if_pos rfl, if_pos rfl]; exact nI_pred n
        rw [t31, if_pos (by rw [show (6 : Int32) = nI 6 from rfl, n_lt (by omega) (by omega)]; exact hn), if_neg (nI_in (by omega) (by decide)), if_pos tok, n_cl (by omega), q31, show nI n + 1 = nI (n + 1) from (nI_succ n).symm, p1]
      have e1 : f_X11_law Z sp_G M = some (nI n, M1, [(10, 0), (13, N), (13, 6 * len)]) := by
        unfold f_X11_law
        rw [if_pos (by rw [n2, show (6 : Int32) = nI 6 from rfl, n_lt (by omega) (by omega)]; exact hn), hres, Option.bind_some, ← hX1, if_pos x013, x162, x163, l6, n_cl (by omega), n_cl (by omega), if_neg (fun e => by
          rcases e with e | e
          · rw [show (0 : Int32) = nI 0 from rfl, n_lt (by omega) (by omega)] at e; omega
          · omega), if_neg (fun e => by
          rcases e with e | e
          · rw [show (0 : Int32) = nI 0 from rfl, n_lt (by omega) (by omega)] at e; omega
          · omega), ← hMT, ad, Option.bind_some]
        unfold f_X11_settle f_X7_forget
        rw [Option.bind_some, Option.bind_some, ← hM1]
      have mK : ∀ a, a < Z.2 → a ≠ 0 → a ≠ 3 → a ≠ 34 → M1.1 a = X1.1 a := fun a ha p q r => by
        rw [hM1, gi_k r, gi_k p, gi_k q]; exact tK a ha
      have mN : ∀ a, a ≠ 0 → a ≠ 3 → a ≠ 34 → M1.1 a = MT.1 a := fun a p q r => by rw [hM1, gi_k r, gi_k p, gi_k q]; rfl
      have m21 : M1.2.1 = M.2.1 := by rw [hM1]; show MT.2.1 = _; rw [T2]
      have m22 : M1.2.2 = fun q => if q = 4 then va_up (M.2.2 4) n (some Z.2) else M.2.2 q := by
        rw [hM1]
        show (fun q => if q = 4 then va_up (MT.2.2 4) n (some Z.2) else MT.2.2 q) = _
        rw [T2]
      have m0 : ∀ q, M1.1 0 q = if q = 12 then 0 else X1.1 0 q := fun q => by
        rw [hM1, gi_k (by decide), gi, if_pos rfl, gi_k (by decide)]
        show (if q = 12 then 0 else MT.1 0 q) = _
        rw [tK 0 (by omega)]
      have m31 : M1.1 3 1 = nI (n + 1) ∧ M1.1 3 2 = M.1 3 2 := by
        constructor
        · rw [hM1, gi_k (by decide), gi_k (by decide), gi, if_pos rfl, if_pos rfl]
        · rw [hM1, gi_k (by decide), gi_k (by decide), gi, if_pos rfl, if_neg (by decide)]
          show MT.1 3 2 = _
          rw [tK 3 (by omega), xK 3 (by decide) (by decide) (by decide) (by decide) (by decide) (by decide)]
      have m34 : M1.1 34 13 = 0 := by rw [hM1, gi, if_pos rfl, if_pos rfl]
      obtain ⟨Y, hY⟩ : ∃ Y, Y = az_i M1 40 0 0 := ⟨_, rfl⟩
      have yK : ∀ a, a ≠ 40 → Y.1 a = M1.1 a := fun a p => by rw [hY, gi_k p]
      have y40 : ∀ q, q ≠ 0 → Y.1 40 q = M.1 40 q := fun q hq => by rw [hY, gi, if_pos rfl, if_neg hq, mK 40 (by omega) (by decide) (by decide) (by decide), xK 40 (by decide) (by decide) (by decide) (by decide) (by decide) (by decide)]
      have y21 : Y.2.1 = M.2.1 := by rw [hY]; exact m21
      have y22 : Y.2.2 = M1.2.2 := by rw [hY]; rfl
      obtain ⟨Mc0, Mr0, -, -, r1, r2, r3, r4, r5, hr⟩ := law_read (Z := Z) hL h255 z1 z2 hT (Mr := Y) ⟨by rw [y40 13 (by decide)]; exact t1, fun i hi => by rw [yK 49 (by decide), mK 49 (by omega) (by decide) (by decide) (by decide), xK 49 (by decide) (by decide) (by decide) (by decide) (by decide) (by decide)]; exact t2 i hi⟩ (by unfold RWk; rw [y21]; exact hW)
      rcases hr with ⟨Mc', j', X, Mr', q1, q2, -⟩ | ⟨Mc', X, i, c, nn, mm, l, q1, q4, q5, q6, q7, ⟨q8, q9, q10, q11⟩, q12, q13, q14⟩
      · rw [hres] at q1
        injection q1 with q1
        have jj : (-1 : Int32) = nI j' := congrArg Prod.fst q1
        rw [n_m1n (by omega)] at jj
        exact jj.elim
      · rw [hres] at q1
        injection q1 with q1
        have eM : Mc1 = Mc' := congrArg Prod.snd q1
        subst eM
        have eN : nn = N := by
          have := q6.2.1.2.2.2
          rw [N1, n_eq (by omega) (by have := q6.2.2.2.1; have := q6.2.2.1; omega)] at this
          exact this.symm
        have eL : l.length = len := by
          rw [len1, n_eq (by omega) (by omega)] at q8
          exact q8.symm
        subst eN
        subst eL
        have hmm : mm ≤ 400 := by have := q7.2.2.1.1; have := q7.2.2.1.2.1; omega
        have X42 : X.1 42 = M.1 42 := by rw [q13.1 42 (by decide) (by decide) (by decide) (by decide) (by decide) (by decide), r1 42 (by decide), yK 42 (by decide), mK 42 (by omega) (by decide) (by decide) (by decide), xK 42 (by decide) (by decide) (by decide) (by decide) (by decide) (by decide)]
        obtain ⟨E, hE⟩ : ∃ E, E = az_i (az_i X 40 20 0) 40 13 0 := ⟨_, rfl⟩
        have EK : ∀ a, a ≠ 40 → E.1 a = X.1 a := fun a p => by rw [hE, gi_k p, gi_k p]
        have E40 : ∀ q, q ≠ 13 → q ≠ 20 → E.1 40 q = X.1 40 q := fun q p r => by rw [hE, gi, if_pos rfl, if_neg p, gi, if_pos rfl, if_neg r]
        have E13 : E.1 40 13 = 0 ∧ E.1 40 20 = 0 := by rw [hE]; exact ⟨rfl, rfl⟩
        have E2 : E.2 = X.2 := by rw [hE]; rfl
        have E424 : E.1 42 4 = nI n := by rw [EK 42 (by decide), X42]; exact n3
        obtain ⟨W, hWd⟩ : ∃ W, W = az_i E 42 (151 + 900 * n) (nI l.length) := ⟨_, rfl⟩
        have WK : ∀ a, a ≠ 42 → W.1 a = E.1 a := fun a p => by rw [hWd, gi_k p]
        have W42 : ∀ q, q ≠ 151 + 900 * n → W.1 42 q = M.1 42 q := fun q p => by rw [hWd, gi, if_pos rfl, if_neg p, EK 42 (by decide), X42]
        obtain ⟨M2, s1, s2, s3, s4, s5, s6, s7, s8, s9⟩ := r_store (M := W) (n := n) (b := 150 + 900 * n) (len := l.length) (m := mm) hn rfl q11 hmm (by rw [WK 40 (by decide), E40 21 (by decide) (by decide)]; exact q9) (by rw [WK 40 (by decide), E40 23 (by decide) (by decide)]; exact q7.2.1.2.2.2) (by rw [W42 4 (by omega)]; exact n3)
        have e2 : f_X12_law sp_G M1 = some (nI n, M2) := by
          unfold f_X12_law
          rw [← hY, if_neg (by rw [yK 42 (by decide), mK 42 (by omega) (by decide) (by decide) (by decide), xK 42 (by decide) (by decide) (by decide) (by decide) (by decide) (by decide), n3, show (6 : Int32) = nI 6 from rfl, n_eq (by omega) (by omega)]; omega), q4]
          unfold f_X12_law_64
          rw [q5, Option.bind_some, ← hE, if_pos (by rw [E40 19 (by decide) (by decide)]; exact q7.2.1.2.1), E424, show (900 : Int32) * nI n = nI (900 * n) from n_mull 900 n, show (150 : Int32) + nI (900 * n) = nI (150 + 900 * n) from n_addl 150 (900 * n), show nI (150 + 900 * n) + 1 = nI (150 + 900 * n + 1) from n_addr 1 _, if_neg (nI_in (by omega) (by omega)), n_cl (by omega), E40 21 (by decide) (by decide), q9, show 150 + 900 * n + 1 = 151 + 900 * n by omega, ← hWd]
          exact s1
        have fin : ∀ a, a ≠ 40 → a ≠ 42 → a ≠ 50 → a ≠ 51 → a ≠ 52 → a ≠ 53 → a ≠ 54 → M2.1 a = M1.1 a := fun a p40 p42 p50 p51 p52 p53 p54 => by
          rw [s2 a p40 p42, WK a p42, EK a p40, q13.1 a p40 p51 p52 p53 p54 p50, r1 a p40, yK a p40]
        have c50 : ∀ a, a = 50 ∨ a = 51 ∨ a = 52 → W.1 a = X.1 a := fun a p => by rw [WK a (by omega), EK a (by omega)]
        refine ⟨nI n, M1, _, M2, e1, e2, ?_⟩
        show az_Inv (m + 1) (if _ then _ else _) M2
        rw [if_neg (by simp)]
        refine law_yes (C := Mc1.1 17) (D := Mc1.1 18) (Op := X.1 51) (Ar := X.1 52) (Dr := X.1 50) (mm := mm) h hn n2 rfl q11 N2 hmm q14 (fun a ha p0 p3 p5 p15 p16 p17 p18 p34 p40 p42 p50 p51 p52 p53 p54 => by rw [fin a p40 p42 p50 p51 p52 p53 p54, mK a ha p0 p3 p34, xK a p0 p5 p15 p16 p17 p18]) (fun q hq => ?_) ?_ (fun k hk => ?_) ⟨?_, ?_, ?_⟩ ⟨?_, ?_, ?_, ?_⟩ ?_ ⟨?_, ?_⟩ ?_ (fun j hj => ?_) (fun j hj => ?_) s6 ?_ (fun j hj => ?_) (fun k hk => ?_) (fun j hj hj2 => ?_)
        · rw [s3 q (by omega), WK 40 (by decide), E40 q (by omega) (by omega), q13.2.1 q (by omega) (by omega) (by omega) trivial trivial (by omega) (by omega) (by omega) (by omega) (by omega), r2 q (by omega) (by omega) (by omega) (by omega) (by omega) (by omega) (by omega) (by omega) (by omega), y40 q (by omega)]
        · rw [s5, hWd]
          show E.2.2 = _
          rw [E2, q13.2.2.2.2.1, r4, y22, m22]
        · rw [s5, hWd]
          show E.2.1 k = _
          rw [E2, q13.2.2.1 k hk, r3 k hk, y21]
        · rw [fin 5 (by decide) (by decide) (by decide) (by decide) (by decide) (by decide) (by decide), mK 5 (by omega) (by decide) (by decide) (by decide)]; exact x51
        · rw [s3 13 (by decide), WK 40 (by decide)]; exact E13.1
        · rw [s3 20 (by decide), WK 40 (by decide)]; exact E13.2
        · rw [fin 0 (by decide) (by decide) (by decide) (by decide) (by decide) (by decide) (by decide), m0, if_pos rfl, s4]
        · rw [fin 0 (by decide) (by decide) (by decide) (by decide) (by decide) (by decide) (by decide), m0, if_neg (by decide), x013, s3 18 (by decide), WK 40 (by decide), E40 18 (by decide) (by decide), q13.2.1 18 (by decide) (by decide) (by decide) trivial trivial (by decide) (by decide) (by decide) (by decide) (by decide), r5]
        · rw [fin 0 (by decide) (by decide) (by decide) (by decide) (by decide) (by decide) (by decide), m0, if_neg (by decide), x0 14 (by decide)]
        · rw [fin 0 (by decide) (by decide) (by decide) (by decide) (by decide) (by decide) (by decide), m0, if_neg (by decide), x0 15 (by decide)]
        · rw [fin 34 (by decide) (by decide) (by decide) (by decide) (by decide) (by decide) (by decide)]; exact m34
        · rw [fin 3 (by decide) (by decide) (by decide) (by decide) (by decide) (by decide) (by decide)]; exact m31.1
        · rw [fin 3 (by decide) (by decide) (by decide) (by decide) (by decide) (by decide) (by decide)]; exact m31.2
        · rw [fin Z.2 (by omega) (by omega) (by omega) (by omega) (by omega) (by omega) (by omega), mN Z.2 (by omega) (by omega) (by omega)]; exact T0
        · rw [fin (Z.2 + 1) (by omega) (by omega) (by omega) (by omega) (by omega) (by omega) (by omega), mN (Z.2 + 1) (by omega) (by omega) (by omega)]; exact T1 j hj
        · rw [fin (Z.2 + 2) (by omega) (by omega) (by omega) (by omega) (by omega) (by omega) (by omega), mN (Z.2 + 2) (by omega) (by omega) (by omega)]; exact T3 j hj
        · rw [s9 _ (by omega) (Or.inl (by omega)), hWd, gi, if_pos rfl, if_pos rfl]
        · rw [show 152 + 900 * n + j = 150 + 900 * n + 2 + j by omega, s7 j hj, c50 50 (by omega)]
        · rw [← c50 51 (by omega), ← c50 52 (by omega)]; exact s8 k hk
        · rw [s9 j hj (by omega), W42 j (by omega)]
