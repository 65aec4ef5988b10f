/-! BOTH READERS: tests -/
def lT (m : Nat) (x : Nat × Nat) : Prop := x.1 < 31 ∧ (x.1 = 29 ∨ x.1 = 30 → m ≤ x.2)
def JTK (T : Nat → Nat) (L o : Nat) (i0 c0 b n m : Nat) (P : List (Nat × Nat)) (lv : Nat) (Mc0 Mr0 Mc : az_M) (i c n' : Nat) (φ : sp_E → Option Int32) : Prop :=
  CSt T L o i c b n' Mc ∧ cFr n Mc0 Mc ∧ ((i0 < i ∧ n' + i0 ≤ n + i) ∧ c0 < c ∧ is01 φ) ∧ cSeg (WL o) (Mc.1 17) n n' (c - c0) φ ∧ ∃ Mr' m' q K, (∀ F, f_X12_readExpression_20 sp_G (F + K) 1 0 Mr0 = f_X12_readExpression_20 sp_G F 1 2 Mr') ∧ (K ≤ 2 * (i - i0) ∧ m ≤ m') ∧ RSt T L o i c b m' (q ++ P) Mr' ∧ rFr m Mr0 Mr' ∧ (∀ x, x ∈ q → lT m x ∧ lv ≤ bd x.1) ∧ rSeg o (stl q (Mr'.1 51, Mr'.1 52, m')).1 (stl q (Mr'.1 51, Mr'.1 52, m')).2.1 m (stl q (Mr'.1 51, Mr'.1 52, m')).2.2 (c - c0) φ
def JTB (L i n : Nat) (Mc Mr : az_M) (res : Option (Int32 × az_M)) : Prop := ∃ Mc' j Mr' K, res = some (0, Mc') ∧ Mc'.1 15 4 = nI j ∧ j ≤ 400 ∧ cFr n Mc Mc' ∧ (∀ F, f_X12_readExpression_20 sp_G (F + K) 1 0 Mr = some Mr') ∧ K ≤ 3 * (L - i) + 20 ∧ rBad j Mr Mr'
def JT (T : Nat → Nat) (L o : Nat) (i c b n m : Nat) (P : List (Nat × Nat)) (lv : Nat) (endc : Nat → Prop) (Mc Mr : az_M) (res : Option (Int32 × az_M)) : Prop :=
  JTB L i n Mc Mr res ∨ ∃ Mc' i' c' n' φ, res = some (1, Mc') ∧ endc i' ∧ JTK T L o i c b n m P lv Mc Mr Mc' i' c' n' φ
def cnk : Nat → (sp_E → Option Int32) → sp_E → Option Int32
  | 0, φ => φ
  | k + 1, φ => cn (cnk k φ)
theorem is01_cn {φ : sp_E → Option Int32} (h : is01 φ) : is01 (cn φ) := by
  intro e v hv
  unfold cn at hv
  cases hp : φ e with
  | none => rw [hp] at hv; cases hv
  | some u =>
    rw [hp] at hv
    injection hv with hv
    rcases h e u hp with rfl | rfl
    · right; rw [← hv]; rfl
    · left; rw [← hv]; rfl
theorem is01_cnk {φ : sp_E → Option Int32} (h : is01 φ) : ∀ k, is01 (cnk k φ) := by
  intro k
  induction k with
  | zero => exact h
  | succ k ih => exact is01_cn ih
theorem is01_cmp {o : Nat} {φ ψ : sp_E → Option Int32} (ho : 7 ≤ o ∧ o ≤ 9) : is01 (cj o φ ψ) := by
  intro e v hv
  unfold cj at hv
  obtain ⟨a, ha, hv⟩ := Option.bind_eq_some_iff.mp hv
  obtain ⟨b, hb, hv⟩ := Option.bind_eq_some_iff.mp hv
  unfold jn at hv
  have hq : f_X6_join (nI o) a.toInt64 b.toInt64 m_0 = some 0 ∨ f_X6_join (nI o) a.toInt64 b.toInt64 m_0 = some 1 := by
    rcases (show o = 7 ∨ o = 8 ∨ o = 9 by omega) with rfl | rfl | rfl
    · unfold f_X6_join f_X6_join_99
      rw [if_neg (by decide), if_neg (by decide), if_neg (by decide), if_neg (by decide), if_neg (by decide), if_pos (by decide)]
      split
      · exact Or.inl rfl
      · exact Or.inr rfl
    · unfold f_X6_join f_X6_join_111
      rw [if_neg (by decide), if_neg (by decide), if_neg (by decide), if_neg (by decide), if_neg (by decide), if_neg (by decide), if_pos (by decide)]
      split
      · exact Or.inl rfl
      · exact Or.inr rfl
    · unfold f_X6_join f_X6_join_123
      rw [if_neg (by decide), if_neg (by decide), if_neg (by decide), if_neg (by decide), if_neg (by decide), if_neg (by decide), if_neg (by decide)]
      split
      · exact Or.inr rfl
      · exact Or.inl rfl
  rcases hq with hq | hq
  · rw [hq] at hv
    have : some (0 : Int32) = some v := hv
    injection this with this
    exact Or.inl this.symm
  · rw [hq] at hv
    have : some (1 : Int32) = some v := hv
    injection this with this
    exact Or.inr this.symm
theorem cn_cn {φ : sp_E → Option Int32} (h : is01 φ) : cn (cn φ) = φ := by
  funext e
  unfold cn
  cases hp : φ e with
  | none => rfl
  | some v => rcases h e v hp with rfl | rfl <;> rfl
theorem cnk_mod {φ : sp_E → Option Int32} (h : is01 φ) (k : Nat) : cnk k φ = if k % 2 = 1 then cn φ else φ := by
  induction k with
  | zero => rfl
  | succ k ih =>
    rw [cnk, ih]
    by_cases h2 : k % 2 = 1
    · rw [if_pos h2, if_neg (by omega), cn_cn h]
    · rw [if_neg h2, if_pos (by omega)]
/-- 'not's that wait -/
def nots (k : Nat) : List (Nat × Nat) := List.replicate k (28, 0)
theorem rSeg_nots {o a : Nat} {φ : sp_E → Option Int32} {kk : Nat} (ho : o ≤ 1) (h01 : is01 φ) : ∀ (k : Nat) (S : rC), rSeg o S.1 S.2.1 a S.2.2 kk φ → rSeg o (stl (nots k) S).1 (stl (nots k) S).2.1 a (stl (nots k) S).2.2 kk (cnk k φ) := by
  intro k
  have K : ∀ (k j : Nat) (S : rC), rSeg o S.1 S.2.1 a S.2.2 kk (cnk j φ) → rSeg o (stl (nots k) S).1 (stl (nots k) S).2.1 a (stl (nots k) S).2.2 kk (cnk (j + k) φ) := by
    intro k
    induction k with
    | zero => intro j S h; exact h
    | succ k ih =>
      intro j S h
      have e : nots (k + 1) = (28, 0) :: nots k := rfl
      rw [e, stl, show j + (k + 1) = j + 1 + k by omega]
      refine ih (j + 1) _ ?_
      have est : st1 (28, 0) S = (up S.1 S.2.2 (nI 28), up S.2.1 S.2.2 0, S.2.2 + 1) := by unfold st1; rw [if_neg (by decide)]
      rw [est]
      exact rSeg_not ho (h.cong (fun j _ hj => ⟨up_ne (by omega), up_ne (by omega)⟩)) (up_eq _ _ _) (is01_cnk h01 j)
  intro S h
  have := K k 0 S h
  rw [Nat.zero_add] at this
  exact this
theorem innV_lt {q P : List (Nat × Nat)} (h : ∀ x, x ∈ q → x.1 < 31) : innV (q ++ P) = innV P := by
  induction q with
  | nil => rfl
  | cons x q ih =>
    have := h x List.mem_cons_self
    rw [List.cons_append, innV, if_neg (by omega)]
    exact ih (fun z hz => h z (List.mem_cons_of_mem _ hz))
theorem cmpV_arith {q P : List (Nat × Nat)} (h : ∀ x, x ∈ q → arith x.1) : cmpV (q ++ P) = cmpV P := by
  induction q with
  | nil => rfl
  | cons x q ih =>
    rw [List.cons_append, cmpV, if_pos (show 20 ≤ x.1 ∧ x.1 ≤ 24 from h x List.mem_cons_self)]
    exact ih (fun z hz => h z (List.mem_cons_of_mem _ hz))
theorem cmpV_nots {k : Nat} {P : List (Nat × Nat)} (hP : P = [] ∨ ∃ x P', P = x :: P' ∧ bd x.1 < 3) : cmpV (nots k ++ P) = false := by
  cases k with
  | zero =>
    show cmpV P = false
    rcases hP with rfl | ⟨x, P', rfl, h⟩
    · rfl
    · rw [cmpV]
      have hx : 29 ≤ x.1 := by
        unfold bd at h
        repeat' split at h
        all_goals omega
      rw [if_neg (by omega), decide_eq_false (by omega)]
  | succ k => rfl
theorem r_turn0 {F : Nat} {x1 : Int32} {M : az_M} (h : M.1 40 19 = 0) : f_X12_readExpression_20 sp_G (F + 1) x1 0 M = (f_X12_readPlain sp_G M).bind fun q => f_X12_readExpression_20 sp_G F x1 q.1 q.2 := by
  rw [f_X12_readExpression_20, if_pos h, if_neg (by decide), if_pos rfl]; rfl
theorem r_turn2 {F : Nat} {x1 : Int32} {M : az_M} (h : M.1 40 19 = 0) : f_X12_readExpression_20 sp_G (F + 1) x1 2 M = (f_X12_behindTest sp_G M).bind fun q => f_X12_readExpression_20 sp_G F x1 q.1 q.2 := by
  rw [f_X12_readExpression_20, if_pos h, if_neg (by decide), if_neg (by decide), if_neg (by decide), if_neg (by decide)]; rfl
theorem w_not : (14836 : Int64) = lN (whash [110, 111, 116]) := by decide
theorem w_and : (1476 : Int64) = lN (whash [97, 110, 100]) := by decide
theorem w_or : (498 : Int64) = lN (whash [111, 114]) := by decide
theorem arith_lT {m : Nat} {x : Nat × Nat} (h : arith x.1) : lT m x ∧ 4 ≤ bd x.1 := ⟨⟨by have := h.2; omega, fun e => by have := h.2; omega⟩, by have := bd_arith h; omega⟩
/-- a test that compares: from behind its 'not's -/
theorem j_cmp {T : Nat → Nat} {L o b : Nat} {Z : az_S × Nat} (hL : L ≤ 400) (h255 : ∀ i, T i ≤ 255) (hZ : Z.1.2 17 = 400) (ho : o ≤ 1) {i c n m : Nat} {P : List (Nat × Nat)} {Mc Mr : az_M} (k : Nat) (hb : b ≤ 8) (hC : CSt T L o i c b n Mc) (hR : RSt T L o i c b m (nots k ++ P) Mr) (hP : P = [] ∨ ∃ x P', P = x :: P' ∧ bd x.1 < 3) (hin : innV P ≠ 32) (hn : wx T L i 8 = -1) (h40 : ¬ sg T L i 40) (R : az_M → Option (Int32 × az_M)) (t : Int32) :
    JTB L i n Mc Mr (f_X5_readPlain_41 Z sp_G R t Mc)
    ∨ ∃ Mc' i' c' n' φ, f_X5_readPlain_41 Z sp_G R t Mc = f_X5_readPlain_141 Z sp_G R t Mc' ∧ JTK T L o i c b n m (nots k ++ P) 4 Mc Mr Mc' i' c' n' φ := by
  have top5 : nots k ++ P = [] ∨ ∃ x P', nots k ++ P = x :: P' ∧ bd x.1 < 5 := by
    cases k with
    | zero =>
      rcases hP with h | ⟨x, P', h, h2⟩
      · exact Or.inl h
      · exact Or.inr ⟨x, P', h, by omega⟩
    | succ k => exact Or.inr ⟨(28, 0), nots k ++ P, rfl, by decide⟩
  have hi32 : innV (nots k ++ P) ≠ 32 := by
    rw [innV_lt (fun x hx => by rw [(List.mem_replicate.mp hx).2]; decide)]; exact hin
  -- a turn for a plain test is one for a part
  have t01 : ∀ F, f_X12_readExpression_20 sp_G (F + 1) 1 0 Mr = f_X12_readExpression_20 sp_G (F + 1) 1 1 Mr := by
    intro F
    rw [r_turn0 hR.2.1.2.1, r_turn1 hR.2.1.2.1]
    unfold f_X12_readPlain
    rw [w_not, p_word1 (a := 8) (by decide) rfl hR.1.2, if_pos hn, Option.bind_some, if_pos rfl, show f_X12_isSign 40 Mr = _ from p_signR (c := 40) h255 hR.1.2 (by decide), if_neg h40, Option.bind_some, if_pos rfl, Option.bind_assoc]
    rfl
  unfold f_X5_readPlain_41
  rw [show f_X5_isSign 40 Mc = _ from p_signC (c := 40) hL h255 hC.1.1 hC.1.2 (by decide), if_neg h40, Option.bind_some, if_pos rfl]
  rcases (h_sum (Z := Z) hL h255 hZ ho 10 b hb (by omega) i c n m (nots k ++ P) Mc Mr 1 hC hR top5).of with ⟨Mc', j, Mr', K, e1, e2, e3, e4, e5, e6, e7⟩ | ⟨Mc1, i1, c1, n1, φ1, e1, eE, hC1, fC1, ⟨⟨a1, a1n⟩, a2, a3⟩, s1, Mr1, m1, q1, K1, g1, ⟨g2, gm⟩, g3, g4, g5, g6⟩
  · rw [e1, Option.bind_some, if_pos rfl]
    exact Or.inl ⟨Mc', j, Mr', K + 1, rfl, e2, e3, e4, fun F => by rw [show F + (K + 1) = (F + K) + 1 by omega, t01, show F + K + 1 = (F + 1) + K by omega, e5 (F + 1)], by omega, e7⟩
  · rw [e1, Option.bind_some, if_neg (show ¬ (1 : Int32) = 0 by decide)]
    have hi1 := hC1.2.2.1
    -- the reference, behind the first sum
    have b1 : ∀ F, f_X12_readExpression_20 sp_G (F + (K1 + 1)) 1 0 Mr = (f_X12_behindSum_202 sp_G (if sg T L i1 60 then 25 else if sg T L i1 62 then 26 else 27) Mr1).bind fun q => f_X12_readExpression_20 sp_G F 1 q.1 q.2 := by
      intro F
      rw [show F + (K1 + 1) = (F + K1) + 1 by omega, t01, show F + K1 + 1 = (F + 1) + K1 by omega, g1 (F + 1), r_turn3 g3.2.1.2.1, p_noOp h255 g3 eE]
      unfold f_X12_behindSum_71 f_X12_behindSum_163 f_X12_isCompared
      have hPl : (q1 ++ (nots k ++ P)).length ≤ 400 := by have := g3.2.2.2.1.2.1; omega
      rw [if_pos rfl, p_inner g3.2.2.1.1 g3.2.2.1.2 g3.2.1.2.2.2.2.2 hPl, Option.bind_some, innV_arith g5, if_neg hi32, g3.2.1.2.2.2.2.2, p_compared sp_G (by show _ < 1000000; omega) g3.2.2.1.1 g3.2.2.1.2 hPl, Option.bind_some, cmpV_arith g5, cmpV_nots hP, if_neg (show ¬ (false = true) by decide), if_pos rfl, if_neg (show ¬ (1 : Int32) = 0 by decide), ite_self, show f_X12_isSign 60 Mr1 = _ from p_signR (c := 60) h255 g3.1.2 (by decide), show f_X12_isSign 62 Mr1 = _ from p_signR (c := 62) h255 g3.1.2 (by decide)]
      by_cases h60 : sg T L i1 60
      · rw [if_pos h60, if_pos h60]; rfl
      · rw [if_neg h60, if_neg h60]
        by_cases h62 : sg T L i1 62
        · rw [if_pos h62, if_pos h62]; rfl
        · rw [if_neg h62, if_neg h62]; rfl
    rw [show f_X5_isSign 60 Mc1 = _ from p_signC (c := 60) hL h255 hC1.1.1 hC1.1.2 (by decide), show f_X5_isSign 62 Mc1 = _ from p_signC (c := 62) hL h255 hC1.1.1 hC1.1.2 (by decide), show f_X5_isSign 61 Mc1 = _ from p_signC (c := 61) hL h255 hC1.1.1 hC1.1.2 (by decide)]
    -- a comparison
    have go : ∀ (ch op : Nat), (ch = 60 ∧ op = 7) ∨ (ch = 62 ∧ op = 8) ∨ (ch = 61 ∧ op = 9) → sg T L i1 ch → (JTB L i n Mc Mr (f_X5_readPlain_111 Z sp_G R t (nI op) Mc1) ∨ ∃ Mc' i' c' n' φ, f_X5_readPlain_111 Z sp_G R t (nI op) Mc1 = f_X5_readPlain_141 Z sp_G R t Mc' ∧ JTK T L o i c b n m (nots k ++ P) 4 Mc Mr Mc' i' c' n' φ) := by
      intro ch op hco hs
      have hk : tkd T L i1 ≠ 0 := by have := hs.1; omega
      have tl := tnx_lt hk
      have no : ∀ d, d ≠ ch → ¬ sg T L i1 d := fun d hd e => hd (e.2.symm.trans hs.2)
      have hop18 : op + 18 = 25 ∨ op + 18 = 26 ∨ op + 18 = 27 := by omega
      have hbd : bd (op + 18) = 4 := by rcases (show op = 7 ∨ op = 8 ∨ op = 9 by omega) with rfl | rfl | rfl <;> rfl
      obtain ⟨Mr2, t1, t2, t3⟩ := g3.mustOK hL h255
      obtain ⟨Mr3, m3, u1, u2, u3, u4, u5⟩ := t2.settle hL 5 m (by decide) (fun x hx => bd_arith (g5 x hx)) top5 (fun x hx e => by have := (g5 x hx).2; omega) gm
      obtain ⟨Mr4, v1, v2, v3, v4, v5⟩ := u2.pushP (j := 0) hL (op + 18) 0 (by omega) (by decide) (by
        have h1 := g3.2.2.2.1.2.1
        have h2 : m3 = (stl q1 (Mr2.1 51, Mr2.1 52, m1)).2.2 := congrArg (fun S : rC => S.2.2) u3
        have h3 := (stl_le q1 (Mr2.1 51, Mr2.1 52, m1)).2
        rw [List.length_append] at h1
        have h4 : (Mr2.1 51, Mr2.1 52, m1).2.2 = m1 := rfl
        omega)
      have b2 : ∀ F, f_X12_readExpression_20 sp_G (F + (K1 + 1)) 1 0 Mr = f_X12_readExpression_20 sp_G F 1 1 Mr4 := by
        intro F
        rw [b1 F]
        unfold f_X12_behindSum_202 f_X12_behindSum_219 f_X12_behindSum_224 f_X12_behindSum_245
        rw [t1, Option.bind_some, if_pos t2.2.1.2.1, show f_X12_settle sp_G 5 Mr2 = some Mr3 from u1, Option.bind_some]
        rcases hco with ⟨rfl, rfl⟩ | ⟨rfl, rfl⟩ | ⟨rfl, rfl⟩
        · rw [if_pos hs, if_neg (by decide), show f_X12_push 25 0 Mr3 = some Mr4 from v1]; rfl
        · rw [if_neg (no 60 (by decide)), if_pos hs, if_neg (by decide), show f_X12_push 26 0 Mr3 = some Mr4 from v1]; rfl
        · rw [if_neg (no 60 (by decide)), if_neg (no 62 (by decide)), if_pos rfl, show f_X12_isSign 61 Mr1 = _ from p_signR (c := 61) h255 g3.1.2 (by decide), if_pos hs, Option.bind_some, if_neg (by decide), show f_X12_push 27 0 Mr3 = some Mr4 from v1]; rfl
      rw [t3.1 51 (by decide), t3.1 52 (by decide)] at u3
      have hm3 : m ≤ m3 := by
        have h1 : m3 = (stl q1 (Mr1.1 51, Mr1.1 52, m1)).2.2 := congrArg (fun S : rC => S.2.2) u3
        have h2 := (stl_le q1 (Mr1.1 51, Mr1.1 52, m1)).1
        rw [h1]; exact Nat.le_trans gm h2
      rw [← u3] at g6
      have sR1 : rSeg o (Mr4.1 51) (Mr4.1 52) m m3 (c1 - c) φ1 := by rw [v4, v5]; exact g6
      have f04 : rFr m Mr Mr4 := g4.trans ((t3.fr m).trans (u4.trans (v3.mono hm3)))
      obtain ⟨Mc2, w1, w2, w3⟩ := hC1.next hL h255
      unfold f_X5_readPlain_111
      rw [if_neg (by rw [n_nm1 (by omega)]; exact not_false), w1, Option.bind_some]
      rcases (h_sum (Z := Z) hL h255 hZ ho 10 b hb (by omega) (tnx T L i1) c1 n1 m3 ((op + 18, 0) :: (nots k ++ P)) Mc2 Mr4 1 w2 v2 (Or.inr ⟨_, _, rfl, by show bd (op + 18) < 5; rw [hbd]; decide⟩)).of with ⟨Mc', j, Mr', K, e1, e2, e3, e4, e5, e6, e7⟩ | ⟨Mc3, i3, c3, n3, φ3, e1, eE3, hC3, fC3, ⟨⟨x1, x1n⟩, x2, x3⟩, s3, Mr5, m5, q5, K5, y1, ⟨y2, ym⟩, y3, y4, y5, y6⟩
      · rw [e1, Option.bind_some, if_pos rfl]
        exact Or.inl ⟨Mc', j, Mr', K + (K1 + 1), rfl, e2, e3, fC1.trans (((w3.fr n1).trans e4).mono (by have := s1.1; omega)), fun F => by rw [show F + (K + (K1 + 1)) = (F + K) + (K1 + 1) by omega, b2, e5 F], by omega, e7.1, e7.2.1, f04.tB e7.2.2⟩
      · rw [e1, Option.bind_some, if_neg (show ¬ (1 : Int32) = 0 by decide)]
        have hs3 := s3.1
        have hs1 := s1.1
        have hn1i := hC1.2.2.2.1
        obtain ⟨Mc4, z1, z2, z3, z4⟩ := c_add (s := op) (w := 0) hZ hL hC3 (by omega) (by omega) (by omega)
        rw [show f_X10_addStep Z 16 (nI op) 0 Mc3 = some Mc4 from z1, Option.bind_some]
        have f13 : ∀ j, j < n1 → Mc4.1 17 j = Mc1.1 17 j := fun j hj => by rw [z3.2.2.1 j (by omega), fC3.2.2.1 j hj, w3.1 17 (by decide)]
        have sC := cSeg_op (o := op) (w := 0) (s1.cong (C' := Mc4.1 17) (fun j _ hj => f13 j hj)) (s3.cong (C' := Mc4.1 17) (fun j _ hj => z3.2.2.1 j hj)) ⟨by omega, by omega⟩ (by rw [z4, up_eq]) (by omega)
        rw [show c1 - c + (c3 - c1) = c3 - c by omega] at sC
        have y3i := y3.2.2.2.1.1
        have hPl : (q5 ++ (op + 18, 0) :: (nots k ++ P)).length ≤ 400 := by have := y3.2.2.2.1.2.1; omega
        have b3 : ∀ F, f_X12_readExpression_20 sp_G (F + (K5 + (K1 + 2))) 1 0 Mr = f_X12_readExpression_20 sp_G F 1 2 Mr5 := by
          intro F
          rw [show F + (K5 + (K1 + 2)) = (F + 1 + K5) + (K1 + 1) by omega, b2, y1 (F + 1), r_turn3 y3.2.1.2.1, p_noOp h255 y3 eE3]
          unfold f_X12_behindSum_71 f_X12_behindSum_163 f_X12_isCompared
          have hinn : innV (q5 ++ (op + 18, 0) :: (nots k ++ P)) = innV (nots k ++ P) := by rw [innV_arith y5, innV, if_neg (by show ¬ 31 ≤ op + 18; omega)]
          have hcmp : cmpV (q5 ++ (op + 18, 0) :: (nots k ++ P)) = true := by rw [cmpV_arith y5, cmpV, if_neg (show ¬ (20 ≤ op + 18 ∧ op + 18 ≤ 24) by omega), decide_eq_true (show 25 ≤ op + 18 ∧ op + 18 ≤ 27 by omega)]
          rw [if_pos rfl, p_inner y3.2.2.1.1 y3.2.2.1.2 y3.2.1.2.2.2.2.2 hPl, Option.bind_some, hinn, if_neg hi32, y3.2.1.2.2.2.2.2, p_compared sp_G (by show _ < 1000000; omega) y3.2.2.1.1 y3.2.2.1.2 hPl, Option.bind_some, hcmp, if_pos (show true = true from rfl), if_neg (show ¬ (1 : Int32) = 0 by decide), if_neg (show ¬ (1 : Int32) = 0 by decide), ite_self]
          rfl
        refine Or.inr ⟨Mc4, i3, c3, n3 + 1, cj op φ1 φ3, rfl, z2, fC1.trans (((w3.fr n1).trans (fC3.trans (z3.mono (by omega)))).mono (by omega)), ⟨⟨by omega, by omega⟩, by omega, is01_cmp (by omega)⟩, sC, Mr5, m5, q5 ++ [(op + 18, 0)], K5 + (K1 + 2), b3, ⟨by omega, by omega⟩, by rw [List.append_assoc]; exact y3, f04.trans (y4.mono hm3), fun x hx => ?_, ?_⟩
        · rcases List.mem_append.mp hx with hx | hx
          · exact arith_lT (y5 x hx)
          · rw [List.mem_singleton.mp hx]
            exact ⟨⟨by show op + 18 < 31; omega, fun e => by have : op + 18 = 29 ∨ op + 18 = 30 := e; omega⟩, by show 4 ≤ bd (op + 18); rw [hbd]; exact Nat.le_refl 4⟩
        · rw [stl_app]
          generalize hS : stl q5 (Mr5.1 51, Mr5.1 52, m5) = S at y6
          have est : stl [(op + 18, 0)] S = (up S.1 S.2.2 (nI (op + 18)), up S.2.1 S.2.2 0, S.2.2 + 1) := by
            show st1 (op + 18, 0) S = _
            unfold st1; rw [if_neg (by show ¬ (op + 18 = 29 ∨ op + 18 = 30); omega)]
          rw [est]
          have low : ∀ (q : List (Nat × Nat)) (X : rC), m3 ≤ X.2.2 → (∀ x, x ∈ q → x.1 ≠ 29 ∧ x.1 ≠ 30) → ∀ j, j < m3 → (stl q X).1 j = X.1 j ∧ (stl q X).2.1 j = X.2.1 j := by
            intro q
            induction q with
            | nil => intro X _ _ j _; exact ⟨rfl, rfl⟩
            | cons x q ih =>
              intro X hX hx j hj
              have d1 := st1_le x X
              have d2 := hx x List.mem_cons_self
              obtain ⟨d3, d4⟩ := ih (st1 x X) (by omega) (fun z hz => hx z (List.mem_cons_of_mem _ hz)) j hj
              rw [stl, d3, d4]
              unfold st1
              rw [if_neg (by omega)]; exact ⟨up_ne (by omega), up_ne (by omega)⟩
          have lw := low q5 (Mr5.1 51, Mr5.1 52, m5) ym (fun x hx => by have := (y5 x hx).2; omega)
          rw [hS] at lw
          have r1 : rSeg o (up S.1 S.2.2 (nI (op + 18))) (up S.2.1 S.2.2 0) m m3 (c1 - c) φ1 := sR1.cong (fun j _ hj => by
            have := y6.1
            rw [up_ne (by omega), up_ne (by omega), (lw j hj).1, (lw j hj).2]
            exact ⟨(y4.2.2.2.2.2 j hj).1, (y4.2.2.2.2.2 j hj).2⟩)
          have r2 : rSeg o (up S.1 S.2.2 (nI (op + 18))) (up S.2.1 S.2.2 0) m3 S.2.2 (c3 - c1) φ3 := y6.cong (fun j _ hj => ⟨up_ne (by omega), up_ne (by omega)⟩)
          have r3 := rSeg_op (q := op) ho r1 r2 ⟨by omega, by omega⟩ (up_eq _ _ _)
          rw [show c1 - c + (c3 - c1) = c3 - c by omega] at r3
          exact r3
    by_cases h60 : sg T L i1 60
    · rw [if_pos h60]; exact go 60 7 (by omega) h60
    · rw [if_neg h60]
      by_cases h62 : sg T L i1 62
      · rw [if_pos h62]; exact go 62 8 (by omega) h62
      · rw [if_neg h62]
        by_cases h61 : sg T L i1 61
        · rw [if_pos h61]; exact go 61 9 (by omega) h61
        · rw [if_neg h61]
          have hm' := g3
          obtain ⟨M', z1, z2⟩ := r_bad (j := i1) hL g3 (g4.mono (by omega)) 1 1
          refine Or.inl ⟨Mc1, i1, M', K1 + 2, rfl, hC1.1.2.2.1, by omega, fC1, fun F => ?_, by omega, z2⟩
          rw [show F + (K1 + 2) = (F + 1) + (K1 + 1) by omega, b1 (F + 1), if_neg h60, if_neg h62]
          unfold f_X12_behindSum_202 f_X12_behindSum_224 f_X12_behindSum_245
          rw [if_pos rfl, show f_X12_isSign 61 Mr1 = _ from p_signR (c := 61) h255 g3.1.2 (by decide), if_neg h61, Option.bind_some, if_pos rfl, g3.mustBad, Option.bind_some, if_neg bad19, Option.bind_some]
          exact z1 F
