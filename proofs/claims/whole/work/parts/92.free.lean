/-! free(); the rows on bits begin as the kit's BITS family (given for pasting) -/
def bt (x : Int32) (i : Nat) : Bool := x.toBitVec.getLsbD i
theorem b_ext {x y : Int32} (h : ∀ i, i < 32 → bt x i = bt y i) : x = y := Int32.toBitVec_inj.mp (BitVec.eq_of_getLsbD_eq (fun i hi => h i hi))
theorem b_or (x y : Int32) (i : Nat) : bt (x ||| y) i = (bt x i || bt y i) := by unfold bt; rw [Int32.toBitVec_or, BitVec.getLsbD_or]
theorem b_and (x y : Int32) (i : Nat) : bt (x &&& y) i = (bt x i && bt y i) := by unfold bt; rw [Int32.toBitVec_and, BitVec.getLsbD_and]
theorem b_0 (i : Nat) : bt 0 i = false := BitVec.getLsbD_zero
theorem b_1 : ∀ i, i < 32 → bt 1 i = decide (i = 0) := by decide +kernel
theorem s_l : ∀ n, n < 32 → ((nI n &&& 31).toBitVec.smod 32).toNat = n := by decide +kernel
theorem b_shl (n : Nat) (hn : n < 32) (x : Int32) {i : Nat} (hi : i < 32) : bt (x <<< (nI n &&& 31)) i = (decide (n ≤ i) && bt x (i - n)) := by
  unfold bt
  rw [Int32.toBitVec_shiftLeft]
  show (x.toBitVec <<< ((nI n &&& 31).toBitVec.smod 32).toNat).getLsbD i = _
  rw [s_l n hn, BitVec.getLsbD_shiftLeft]
  rcases Nat.lt_or_ge i n with h | h
  · simp [h, Nat.not_le.mpr h]
  · simp [hi, h, Nat.not_lt.mpr h]
theorem b_sshr (n : Nat) (hn : n < 32) (x : Int32) {i : Nat} (hi : i < 32) : bt (x >>> (nI n &&& 31)) i = if n + i < 32 then bt x (n + i) else bt x 31 := by
  unfold bt
  rw [Int32.toBitVec_shiftRight]
  show (x.toBitVec.sshiftRight ((nI n &&& 31).toBitVec.smod 32).toNat).getLsbD i = _
  rw [s_l n hn, BitVec.getLsbD_sshiftRight, BitVec.msb_eq_getLsbD_last]
  simp [hi]
/-- one bit -/
theorem b_bit (x : Int32) {n : Nat} (hn : n < 32) : ((x >>> (nI n &&& 31)) &&& 1) = if bt x n = true then 1 else 0 := by
  refine b_ext fun i hi => ?_
  rw [b_and, b_sshr n hn x hi, b_1 i hi]
  by_cases h0 : i = 0
  · subst h0
    rw [Nat.add_zero, if_pos hn]
    cases bt x n <;> decide
  · rw [decide_eq_false h0, Bool.and_false]
    cases bt x n
    · rw [if_neg (by decide), b_0]
    · rw [if_pos rfl, b_1 i hi, decide_eq_false h0]
theorem b_pow {n : Nat} (hn : n < 32) {i : Nat} (hi : i < 32) : bt (1 <<< (nI n &&& 31)) i = decide (i = n) := by
  rw [b_shl n hn 1 hi, b_1 (i - n) (by omega)]
  by_cases h : i = n
  · subst h; simp
  · rw [decide_eq_false h]
    by_cases h2 : n ≤ i
    · rw [decide_eq_false (show ¬ i - n = 0 by omega), Bool.and_false]
    · rw [decide_eq_false h2, Bool.false_and]
theorem b_two (x : Int32) {a b : Nat} (ha : a < 32) (hb : b < 32) : (x &&& (1 <<< (nI a &&& 31) ||| 1 <<< (nI b &&& 31))) = 0 ↔ bt x a = false ∧ bt x b = false := by
  constructor
  · intro h
    have e : ∀ i, i < 32 → (bt x i && (decide (i = a) || decide (i = b))) = false := fun i hi => by
      rw [← b_pow ha hi, ← b_pow hb hi, ← b_or, ← b_and, h, b_0]
    have e1 := e a ha
    have e2 := e b hb
    simp at e1 e2
    exact ⟨e1, e2⟩
  · rintro ⟨h1, h2⟩
    refine b_ext fun i hi => ?_
    rw [b_and, b_or, b_pow ha hi, b_pow hb hi, b_0]
    by_cases e1 : i = a
    · subst e1; rw [h1, Bool.false_and]
    · by_cases e2 : i = b
      · subst e2; rw [h2, Bool.false_and]
      · rw [decide_eq_false e1, decide_eq_false e2, Bool.or_false, Bool.and_false]
theorem p_is (x : Int32) {n : Nat} (hn : n < 32) (M : az_M) : f_X12_is x (nI n) M = some (if bt x n = true then 1 else 0) := by
  unfold f_X12_is f_X12_is_14
  rw [b_bit x hn]
  cases bt x n <;> rfl
/-- how many bits -/
def bc (s : Nat) : Nat := (List.range 12).foldl (fun a i => a + (s >>> i) % 2) 0
def m_0 : az_M := (fun _ _ => 0, fun _ _ => 0, fun _ _ => none)
theorem p_bitCount {s : Nat} (hs : s < 128) (M : az_M) : f_J6_bitCount_0f7a4 (nI s) M = some (nI (bc s)) := by
  have : ∀ s, s < 128 → f_J6_bitCount_0f7a4 (nI s) m_0 = some (nI (bc s)) := by decide +kernel
  exact this s hs
theorem p_ones {s : Nat} (hs : s < 128) (M : az_M) : f_X12_ones sp_G (nI s) M = some (nI (bc s)) := by
  have K : ∀ (F : Nat) (x a : Int32) (i : Nat), i < 12 → f_X12_ones_4 sp_G (F + 1) x a (nI i) M = f_X12_ones_4 sp_G F x (a + ((x >>> (nI i &&& 31)) &&& 1)) (nI (i + 1)) M := by
    intro F x a i hi
    rw [f_X12_ones_4, if_neg (by rw [show (12 : Int32) = nI 12 from rfl, n_le (by omega) (by omega)]; omega), show nI i + 1 = nI (i + 1) from (nI_succ i).symm]
  show f_X12_ones_4 sp_G (999987 + 1 + 1 + 1 + 1 + 1 + 1 + 1 + 1 + 1 + 1 + 1 + 1 + 1) (nI s) 0 (nI 0) M = _
  rw [K _ _ _ 0 (by decide), K _ _ _ 1 (by decide), K _ _ _ 2 (by decide), K _ _ _ 3 (by decide), K _ _ _ 4 (by decide), K _ _ _ 5 (by decide), K _ _ _ 6 (by decide), K _ _ _ 7 (by decide), K _ _ _ 8 (by decide), K _ _ _ 9 (by decide), K _ _ _ 10 (by decide), K _ _ _ 11 (by decide), f_X12_ones_4, if_pos (by decide)]
  refine congrArg some ?_
  have : ∀ s, s < 128 → 0 + ((nI s >>> (nI 0 &&& 31)) &&& 1) + ((nI s >>> (nI 1 &&& 31)) &&& 1) + ((nI s >>> (nI 2 &&& 31)) &&& 1) + ((nI s >>> (nI 3 &&& 31)) &&& 1) + ((nI s >>> (nI 4 &&& 31)) &&& 1) + ((nI s >>> (nI 5 &&& 31)) &&& 1) + ((nI s >>> (nI 6 &&& 31)) &&& 1) + ((nI s >>> (nI 7 &&& 31)) &&& 1) + ((nI s >>> (nI 8 &&& 31)) &&& 1) + ((nI s >>> (nI 9 &&& 31)) &&& 1) + ((nI s >>> (nI 10 &&& 31)) &&& 1) + ((nI s >>> (nI 11 &&& 31)) &&& 1) = nI (bc s) := by decide +kernel
  exact this s hs
/-- whether nobody is in two of the quarrels s -/
def fr_m (N : Nat → Int32) (q : Nat) : Int32 := 1 <<< (N (93 + q) &&& 31) ||| 1 <<< (N (100 + q) &&& 31)
def fr (N : Nat → Int32) (s : Int32) : Nat → Nat → Int32 → Bool
  | 0, _, _ => true
  | d + 1, q, w => if bt s q = true then (if w &&& fr_m N q = 0 then fr N s d (q + 1) (w ||| fr_m N q) else false) else fr N s d (q + 1) w
theorem p_areFree {n : Nat} {M : az_M} (hn : M.1 2 25 = nI n) (h7 : n ≤ 7) (s : Int32) : ∀ (d q : Nat) (w : Int32) (F : Nat), q + d = n → d < F → f_X2_areFree_4 sp_G F s w (nI q) M = some (if fr (M.1 2) s d q w = true then 1 else 0) := by
  intro d
  induction d with
  | zero =>
    intro q w F hq hF
    obtain ⟨F, rfl⟩ : ∃ F', F = F' + 1 := ⟨F - 1, by omega⟩
    rw [f_X2_areFree_4, hn, if_pos (by rw [n_le (by omega) (by omega)]; omega)]
    rfl
  | succ d ih =>
    intro q w F hq hF
    obtain ⟨F, rfl⟩ : ∃ F', F = F' + 1 := ⟨F - 1, by omega⟩
    rw [f_X2_areFree_4, hn, if_neg (by rw [n_le (by omega) (by omega)]; omega), b_bit s (by omega), fr]
    unfold f_X2_areFree_71
    rw [show nI q + 1 = nI (q + 1) from (nI_succ q).symm]
    by_cases hb : bt s q = true
    · rw [if_pos hb, if_pos hb, if_neg (by decide)]
      simp (disch := omega) only [n_addl, n_addr, n_add, n_mull, n_mulr, n_mul, n_sub, n_subr, n_subl, n_cl, n_lt, n_le, n_eq, n_ltl, n_ltr, n_lel, n_ler, n_eqr, n_eql, n_nm1, n_m1n, n_m1lt, n_ltm1, l_ltr, l_ltl, l_ler, l_lel, l_m1lt, l_nneg, if_true, if_false, or_false, false_or, or_true, true_or, and_true, true_and, and_false, false_and, not_true_eq_false, not_false_eq_true, Option.bind_some, Option.bind_none, reduceIte, ltT, ltF, leT, leF, eqT, eqF, nI_lt0]
      show (if w &&& fr_m (M.1 2) q = 0 then _ else _) = _
      by_cases hw : w &&& fr_m (M.1 2) q = 0
      · rw [if_pos hw, if_pos hw]; exact ih (q + 1) _ F (by omega) (by omega)
      · rw [if_neg hw, if_neg hw]; rfl
    · rw [if_neg hb, if_neg hb, if_pos rfl]; exact ih (q + 1) _ F (by omega) (by omega)
theorem p_free0 {n : Nat} {M : az_M} (hn : M.1 42 2 = nI n) (h7 : n ≤ 7) (K : Int32 → Int32 → Int32 → Int32 → az_M → Option (Int32 × az_M)) (x1 x2 x3 s : Int32) : ∀ (d q : Nat) (w : Int32) (F : Nat), q + d = n → d < F → f_X12_free_46 sp_G K F x1 x2 x3 s w 0 (nI q) M = K x1 x2 x3 (s + 1) M := by
  intro d
  induction d with
  | zero =>
    intro q w F hq hF
    obtain ⟨F, rfl⟩ : ∃ F', F = F' + 1 := ⟨F - 1, by omega⟩
    rw [f_X12_free_46, hn, if_pos (by rw [n_le (by omega) (by omega)]; omega), if_pos rfl]
    rfl
  | succ d ih =>
    intro q w F hq hF
    obtain ⟨F, rfl⟩ : ∃ F', F = F' + 1 := ⟨F - 1, by omega⟩
    rw [f_X12_free_46, hn, if_neg (by rw [n_le (by omega) (by omega)]; omega), p_is s (by omega), Option.bind_some]
    unfold f_X12_free_106 f_X12_free_107 f_X12_free_133
    rw [show f_X12_ofQuarrel (nI q) 0 M = _ from p_ofQuarrel (w := 0) (by omega) (by omega) M, show f_X12_ofQuarrel (nI q) 1 M = _ from p_ofQuarrel (w := 1) (by omega) (by omega) M]
    simp only [Option.bind_some]
    rw [show nI q + 1 = nI (q + 1) from (nI_succ q).symm]
    by_cases hb : bt s q = true
    · rw [if_pos hb, if_neg (by decide), if_pos trivial]; exact ih (q + 1) _ F (by omega) (by omega)
    · rw [if_neg hb, if_pos rfl]; exact ih (q + 1) _ F (by omega) (by omega)
theorem p_free1 {n s : Nat} {N : Nat → Int32} {M : az_M} (hn : M.1 42 2 = nI n) (h7 : n ≤ 7) (hs : s < 128) (hN : ∀ q, q < n → (∃ a, a < 10 ∧ M.1 42 (95 + 4 * q) = nI a) ∧ (∃ a, a < 10 ∧ M.1 42 (96 + 4 * q) = nI a) ∧ N (93 + q) = M.1 42 (95 + 4 * q) ∧ N (100 + q) = M.1 42 (96 + 4 * q)) (K : Int32 → Int32 → Int32 → Int32 → az_M → Option (Int32 × az_M)) (x1 x2 x3 : Int32) : ∀ (d q : Nat) (w : Int32) (F : Nat), q + d = n → d < F → f_X12_free_46 sp_G K F x1 x2 x3 (nI s) w 1 (nI q) M = (if fr N (nI s) d q w = true ∧ x2 < nI (bc s) then K x1 (nI (bc s)) (nI s) (nI s + 1) M else K x1 x2 x3 (nI s + 1) M) := by
  intro d
  induction d with
  | zero =>
    intro q w F hq hF
    obtain ⟨F, rfl⟩ : ∃ F', F = F' + 1 := ⟨F - 1, by omega⟩
    rw [f_X12_free_46, hn, if_pos (by rw [n_le (by omega) (by omega)]; omega), if_neg (by decide), p_ones hs, Option.bind_some]
    unfold f_X12_free_162
    by_cases hx : x2 < nI (bc s)
    · rw [if_neg (fun e => by rw [Int32.lt_iff_toInt_lt] at hx; rw [Int32.le_iff_toInt_le] at e; omega), Option.bind_some, if_pos ⟨rfl, hx⟩]
    · rw [if_pos (by rw [Int32.lt_iff_toInt_lt] at hx; rw [Int32.le_iff_toInt_le]; omega), if_neg (fun e => hx e.2)]
  | succ d ih =>
    intro q w F hq hF
    obtain ⟨F, rfl⟩ : ∃ F', F = F' + 1 := ⟨F - 1, by omega⟩
    obtain ⟨⟨a, ha, ea⟩, ⟨b', hb', eb⟩, n1, n2⟩ := hN q (by omega)
    have hm : fr_m N q = 1 <<< (nI a &&& 31) ||| 1 <<< (nI b' &&& 31) := by unfold fr_m; rw [n1, n2, ea, eb]
    rw [f_X12_free_46, hn, if_neg (by rw [n_le (by omega) (by omega)]; omega), p_is (nI s) (by omega), Option.bind_some]
    unfold f_X12_free_106 f_X12_free_107 f_X12_free_133
    rw [show f_X12_ofQuarrel (nI q) 0 M = _ from p_ofQuarrel (w := 0) (by omega) (by omega) M, show f_X12_ofQuarrel (nI q) 1 M = _ from p_ofQuarrel (w := 1) (by omega) (by omega) M]
    simp only [Option.bind_some]
    rw [show 95 + 4 * q + 1 = 96 + 4 * q by omega, Nat.add_zero, ea, eb, p_is w (show a < 32 by omega), p_is w (show b' < 32 by omega)]
    simp only [Option.bind_some]
    rw [show nI q + 1 = nI (q + 1) from (nI_succ q).symm, fr, hm]
    by_cases hb : bt (nI s) q = true
    · rw [if_pos hb, if_pos hb, if_neg (by decide), if_neg (by decide)]
      by_cases hw : w &&& (1 <<< (nI a &&& 31) ||| 1 <<< (nI b' &&& 31)) = 0
      · obtain ⟨h1, h2⟩ := (b_two w (by omega) (by omega)).mp hw
        rw [h1, h2, if_pos (by decide), if_pos (by decide), if_pos hw]
        exact ih (q + 1) _ F (by omega) (by omega)
      · rw [if_neg hw, if_neg (show ¬ (false = true ∧ x2 < nI (bc s)) from fun e => absurd e.1 (by decide))]
        by_cases h1 : bt w a = true
        · rw [if_pos h1, if_neg (by decide)]; exact p_free0 hn h7 K x1 x2 x3 (nI s) d (q + 1) _ F (by omega) (by omega)
        · rw [if_neg h1, if_pos rfl]
          have h2 : bt w b' = true := by
            cases h3 : bt w b' with
            | true => rfl
            | false => exact absurd ((b_two w (by omega) (by omega)).mpr ⟨by simpa using h1, h3⟩) hw
          rw [if_pos h2, if_neg (by decide)]; exact p_free0 hn h7 K x1 x2 x3 (nI s) d (q + 1) _ F (by omega) (by omega)
    · rw [if_neg hb, if_neg hb, if_pos rfl]; exact ih (q + 1) _ F (by omega) (by omega)
/-- the first of the most -/
def fr_pick (N : Nat → Int32) (n : Nat) : Nat → Nat → Nat → Nat
  | 0, _, c => c
  | d + 1, s, c => if bc c < bc s ∧ fr N (nI s) n 0 0 = true then fr_pick N n d (s + 1) s else fr_pick N n d (s + 1) c
theorem fr_2n : ∀ n, n ≤ 7 → (1 : Int32) <<< (nI n &&& 31) = nI (2 ^ n) := by decide +kernel
theorem fr_bc : ∀ s, s < 128 → bc s ≤ 7 := by decide +kernel
theorem fr_lt : ∀ n, n ≤ 7 → 2 ^ n ≤ 128 := by decide
theorem fr_pick_lt (N : Nat → Int32) (n : Nat) : ∀ (d s c : Nat), s + d ≤ 128 → c < 128 → fr_pick N n d s c < 128 := by
  intro d
  induction d with
  | zero => intro s c _ hc; exact hc
  | succ d ih =>
    intro s c hs hc
    rw [fr_pick]
    by_cases h : bc c < bc s ∧ fr N (nI s) n 0 0 = true
    · rw [if_pos h]; exact ih (s + 1) s (by omega) (by omega)
    · rw [if_neg h]; exact ih (s + 1) c (by omega) hc
theorem p_freeQuarrels {n : Nat} {M : az_M} (hn : M.1 2 25 = nI n) (h7 : n ≤ 7) : ∀ (d s c F : Nat), s + d = 2 ^ n → c < 128 → d < F → f_X2_freeQuarrels_4 sp_G F (nI c) (nI s) M = some (nI (fr_pick (M.1 2) n d s c)) := by
  have h2 := fr_lt n h7
  intro d
  induction d with
  | zero =>
    intro s c F hs hc hF
    obtain ⟨F, rfl⟩ : ∃ F', F = F' + 1 := ⟨F - 1, by omega⟩
    rw [f_X2_freeQuarrels_4, hn, fr_2n n h7, if_pos (by rw [n_le (by omega) (by omega)]; omega)]
    rfl
  | succ d ih =>
    intro s c F hs hc hF
    obtain ⟨F, rfl⟩ : ∃ F', F = F' + 1 := ⟨F - 1, by omega⟩
    have b1 := fr_bc s (by omega)
    have b2 := fr_bc c hc
    rw [f_X2_freeQuarrels_4, hn, fr_2n n h7, if_neg (by rw [n_le (by omega) (by omega)]; omega), p_bitCount (by omega), p_bitCount hc, Option.bind_some, Option.bind_some, fr_pick]
    unfold f_X2_freeQuarrels_41
    rw [show nI s + 1 = nI (s + 1) from (nI_succ s).symm]
    simp only [n_le (show bc s < 2147483648 by omega) (show bc c < 2147483648 by omega)]
    by_cases hb : bc s ≤ bc c
    · rw [if_pos hb, if_neg (fun e => by omega)]; exact ih (s + 1) c F (by omega) hc (by omega)
    · rw [if_neg hb]
      have e : f_X2_areFree sp_G (nI s) M = _ := p_areFree hn h7 (nI s) n 0 0 sp_G (by omega) (by show n < 1000000; omega)
      rw [e, Option.bind_some]
      by_cases hf : fr (M.1 2) (nI s) n 0 0 = true
      · rw [if_pos hf, if_neg (by decide), if_pos ⟨by omega, hf⟩]; exact ih (s + 1) s F (by omega) (by omega) (by omega)
      · rw [if_neg hf, if_pos rfl, if_neg (fun e => hf e.2)]; exact ih (s + 1) c F (by omega) hc (by omega)
theorem p_free24 {n : Nat} {N : Nat → Int32} {M : az_M} (hn : M.1 42 2 = nI n) (h7 : n ≤ 7) (hN : ∀ q, q < n → (∃ a, a < 10 ∧ M.1 42 (95 + 4 * q) = nI a) ∧ (∃ a, a < 10 ∧ M.1 42 (96 + 4 * q) = nI a) ∧ N (93 + q) = M.1 42 (95 + 4 * q) ∧ N (100 + q) = M.1 42 (96 + 4 * q)) (x1 : Int32) : ∀ (d s c F : Nat), s + d = 2 ^ n → c < 128 → d < F → f_X12_free_24 sp_G F x1 (nI (bc c)) (nI c) (nI s) M = some (if x1 = 0 then nI (bc (fr_pick N n d s c)) else nI (fr_pick N n d s c), M) := by
  have h2 := fr_lt n h7
  intro d
  induction d with
  | zero =>
    intro s c F hs hc hF
    obtain ⟨F, rfl⟩ : ∃ F', F = F' + 1 := ⟨F - 1, by omega⟩
    rw [f_X12_free_24, hn, fr_2n n h7, if_pos (by rw [n_le (by omega) (by omega)]; omega)]
    unfold f_X12_free_177
    by_cases h : x1 = 0
    · rw [if_pos h, if_pos h]; rfl
    · rw [if_neg h, if_neg h]; rfl
  | succ d ih =>
    intro s c F hs hc hF
    obtain ⟨F, rfl⟩ : ∃ F', F = F' + 1 := ⟨F - 1, by omega⟩
    have b1 := fr_bc s (by omega)
    have b2 := fr_bc c hc
    rw [f_X12_free_24, hn, fr_2n n h7, if_neg (by rw [n_le (by omega) (by omega)]; omega), show f_X12_free_46 sp_G (f_X12_free_24 sp_G F) sp_G x1 (nI (bc c)) (nI c) (nI s) 0 1 0 M = _ from p_free1 hn h7 (by omega) hN (f_X12_free_24 sp_G F) x1 (nI (bc c)) (nI c) n 0 0 sp_G (by omega) (by show n < 1000000; omega), fr_pick, show nI s + 1 = nI (s + 1) from (nI_succ s).symm]
    simp only [n_lt (show bc c < 2147483648 by omega) (show bc s < 2147483648 by omega)]
    by_cases h : bc c < bc s ∧ fr N (nI s) n 0 0 = true
    · rw [if_pos h, if_pos ⟨h.2, h.1⟩]; exact ih (s + 1) s F (by omega) (by omega) (by omega)
    · rw [if_neg h, if_neg (fun e => h ⟨e.2, e.1⟩)]; exact ih (s + 1) c F (by omega) hc (by omega)
theorem ob_free : Ob_free az_Inv sp_G := by
  intro m Z M a1 _ h
  have g3 := h.2.2.1
  have hI := (h.ke (sp_ke_thrown M 0)).mono
  rcases r_cases a1 0 1 (by decide) (by decide) with ⟨p, _, hp, rfl⟩ | ⟨hb, hi⟩
  · obtain ⟨n, hn, -, h7⟩ := sp_in.nat g3.2.2.2.2.1.2.2.1 (by decide) (by decide)
    have h7' : n ≤ 7 := by omega
    obtain ⟨k, hk, -, hk10⟩ := sp_in.nat g3.2.2.2.2.1.2.1 (by decide) (by decide)
    have hcl : (M.1 2 25).toNatClampNeg = n := by rw [hn, n_cl (by omega)]
    have hR : (az_i M 40 0 0).1 42 2 = nI n := by rw [gi_k (by decide), ← g3.1.2.2.2.1.2.2.1]; exact hn
    have hN : ∀ q, q < n → (∃ a, a < 10 ∧ (az_i M 40 0 0).1 42 (95 + 4 * q) = nI a) ∧ (∃ a, a < 10 ∧ (az_i M 40 0 0).1 42 (96 + 4 * q) = nI a) ∧ M.1 2 (93 + q) = (az_i M 40 0 0).1 42 (95 + 4 * q) ∧ M.1 2 (100 + q) = (az_i M 40 0 0).1 42 (96 + 4 * q) := by
      intro q hq
      rw [gi_k (by decide)]
      obtain ⟨e1, e2, -⟩ := g3.1.2.2.2.2.2.2.1 q (by rw [hcl]; exact hq)
      obtain ⟨r1, r2, -⟩ := g3.2.2.2.2.2.2.2 q (by rw [hcl]; exact hq)
      rw [hk, n_int (by omega)] at r1 r2
      obtain ⟨a, ea, -, la⟩ := sp_in.nat r1 (by decide) (by omega)
      obtain ⟨b, eb, -, lb⟩ := sp_in.nat r2 (by decide) (by omega)
      exact ⟨⟨a, by omega, by rw [← e1]; exact ea⟩, ⟨b, by omega, by rw [← e2]; exact eb⟩, e1, e2⟩
    have h2 := fr_lt n h7'
    have hpos : 0 < 2 ^ n := Nat.pow_pos (by decide)
    have c0 : bc 0 = 0 := by decide
    have ec : f_X2_freeQuarrels sp_G M = some (nI (fr_pick (M.1 2) n (2 ^ n - 1) 1 0)) := p_freeQuarrels hn h7' (2 ^ n - 1) 1 0 sp_G (by omega) (by decide) (by show 2 ^ n - 1 < 1000000; omega)
    have fr0 : ∀ (d q : Nat) (w : Int32), q + d ≤ 7 → fr (M.1 2) (nI 0) d q w = true := by
      intro d
      induction d with
      | zero => intro q w _; rfl
      | succ d ih =>
        intro q w hq
        rw [fr, if_neg (by rw [show nI 0 = 0 from rfl, b_0]; decide)]; exact ih (q + 1) w (by omega)
    have lp := fr_pick_lt (M.1 2) n (2 ^ n - 1) 1 0 (by omega) (by decide)
    have er : f_X12_free_24 sp_G sp_G (nI p) (-1) 0 0 (az_i M 40 0 0) = some (if nI p = 0 then nI (bc (fr_pick (M.1 2) n (2 ^ n - 1) 1 0)) else nI (fr_pick (M.1 2) n (2 ^ n - 1) 1 0), az_i M 40 0 0) := by
      show f_X12_free_24 sp_G (999999 + 1) (nI p) (-1) 0 (nI 0) (az_i M 40 0 0) = _
      rw [f_X12_free_24, hR, fr_2n n h7', if_neg (by rw [n_le (by omega) (by omega)]; omega), show f_X12_free_46 sp_G (f_X12_free_24 sp_G 999999) sp_G (nI p) (-1) 0 (nI 0) 0 1 0 (az_i M 40 0 0) = _ from p_free1 hR h7' (by decide) hN (f_X12_free_24 sp_G 999999) (nI p) (-1) 0 n 0 0 sp_G (by omega) (by show n < 1000000; omega), if_pos ⟨fr0 n 0 0 (by omega), by decide⟩]
      exact p_free24 hR h7' hN (nI p) (2 ^ n - 1) 1 0 999999 (by omega) (by decide) (by omega)
    refine ⟨if nI p = 0 then nI (bc (fr_pick (M.1 2) n (2 ^ n - 1) 1 0)) else nI (fr_pick (M.1 2) n (2 ^ n - 1) 1 0), _, ?_, ?_, hI⟩
    · unfold f_X11_free f_X11_free_31
      rw [ec, Option.bind_some, if_neg (nI_pos (by omega)), if_pos (by rw [show (1 : Int32) = nI 1 from rfl, n_le (by omega) (by omega)]; omega), p_bitCount lp, Option.bind_some]
      by_cases h0 : nI p = 0
      · rw [if_pos h0, if_pos h0]
      · rw [if_neg h0, if_neg h0]
    · unfold f_X12_free
      rw [g_in (Nat.zero_le p) hp (by decide) (az_i M 40 0 0), Option.bind_some, if_neg (by decide), er]
  · refine ⟨-1, _, ?_, ?_, hI⟩
    · unfold f_X11_free f_X11_free_9
      by_cases h1 : a1 < 0
      · rw [if_pos h1]
      · rw [if_neg h1, if_neg]
        have := hb.resolve_left h1
        rw [Int32.lt_iff_toInt_lt] at this
        rw [Int32.le_iff_toInt_le]
        have e : (nI 1).toInt = 1 := rfl
        have e2 : (1 : Int32).toInt = 1 := rfl
        omega
    · unfold f_X12_free
      rw [show f_X12_in a1.toInt64 0 1 _ = some 0 from hi _, Option.bind_some, if_pos rfl]
