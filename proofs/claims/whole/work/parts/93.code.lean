/-! rows as numbers, four bits each -/
theorem b_nI (c : Nat) {i : Nat} (hi : i < 32) : bt (nI c) i = c.testBit i := by
  show (BitVec.ofNat 32 c).getLsbD i = _
  rw [BitVec.getLsbD_ofNat, decide_eq_true hi, Bool.true_and]
theorem c_shr {c s : Nat} (hs : s < 32) (hc : c < 2147483648) : nI c >>> (nI s &&& 31) = nI (c / 2 ^ s) := by
  refine b_ext fun i hi => ?_
  rw [b_sshr s hs _ hi, b_nI _ hi, Nat.testBit_div_two_pow, Nat.add_comm i s]
  by_cases h : s + i < 32
  · rw [if_pos h, b_nI _ h]
  · rw [if_neg h, b_nI _ (by decide), Nat.testBit_lt_two_pow (i := 31) (by omega), Nat.testBit_lt_two_pow (i := s + i)]
    exact Nat.lt_of_lt_of_le hc (Nat.pow_le_pow_right (n := 2) (by decide) (show 31 ≤ s + i by omega))
theorem c_shl (c : Nat) {s : Nat} (hs : s < 32) : nI c <<< (nI s &&& 31) = nI (2 ^ s * c) := by
  refine b_ext fun i hi => ?_
  rw [b_shl s hs _ hi, b_nI _ hi, Nat.testBit_two_pow_mul, b_nI _ (by omega)]
theorem c_or {a s q : Nat} (hq : q < 2 ^ s) : nI (2 ^ s * a) ||| nI q = nI (2 ^ s * a + q) := by
  refine b_ext fun i hi => ?_
  rw [b_or, b_nI _ hi, b_nI _ hi, b_nI _ hi, Nat.testBit_two_pow_mul_add _ hq, Nat.testBit_two_pow_mul]
  by_cases h : i < s
  · rw [if_pos h, decide_eq_false (by omega), Bool.false_and, Bool.false_or]
  · rw [if_neg h, decide_eq_true (by omega), Bool.true_and, Nat.testBit_lt_two_pow (x := q) (i := i), Bool.or_false]
    exact Nat.lt_of_lt_of_le hq (Nat.pow_le_pow_right (by decide) (by omega))
theorem c_15 (c : Nat) : nI c &&& 15 = nI (c % 16) := by
  have h15 : ∀ i, i < 32 → bt 15 i = decide (i < 4) := by decide +kernel
  refine b_ext fun i hi => ?_
  rw [b_and, b_nI _ hi, b_nI _ hi, h15 i hi, show 16 = 2 ^ 4 from rfl, Nat.testBit_mod_two_pow, Bool.and_comm]
def codeN (r : List Nat) : Nat := r.foldl (fun a q => 16 * a + q) 0
theorem codeN_from (r : List Nat) : ∀ a, r.foldl (fun a q => 16 * a + q) a = 16 ^ r.length * a + codeN r := by
  induction r with
  | nil => intro a; show a = 16 ^ 0 * a + 0; omega
  | cons q r ih =>
    intro a
    show r.foldl (fun a q => 16 * a + q) (16 * a + q) = 16 ^ (r.length + 1) * a + r.foldl (fun a q => 16 * a + q) (16 * 0 + q)
    rw [ih, ih (16 * 0 + q), Nat.pow_succ, Nat.mul_zero, Nat.zero_add, Nat.mul_add, Nat.mul_assoc, Nat.add_assoc]
theorem codeN_cons (q : Nat) (r : List Nat) : codeN (q :: r) = 16 ^ r.length * q + codeN r := by
  show r.foldl (fun a q => 16 * a + q) (16 * 0 + q) = _
  rw [codeN_from, Nat.mul_zero, Nat.zero_add]
theorem codeN_snoc (q : Nat) (r : List Nat) : codeN (r ++ [q]) = 16 * codeN r + q := by
  unfold codeN
  rw [List.foldl_append]; rfl
theorem codeN_lt {r : List Nat} (h : ∀ q, q ∈ r → q < 16) : codeN r < 16 ^ r.length := by
  induction r with
  | nil => decide
  | cons q r ih =>
    have h1 := ih (fun x hx => h x (List.mem_cons_of_mem _ hx))
    have h2 := h q List.mem_cons_self
    have h3 : 16 ^ r.length * (q + 1) ≤ 16 ^ r.length * 16 := Nat.mul_le_mul_left _ (by omega)
    rw [codeN_cons, List.length_cons, Nat.pow_succ]
    rw [Nat.mul_add, Nat.mul_one] at h3
    omega
theorem code_nat {r : List Nat} (h : ∀ q, q ∈ r → q < 16) : sp_code r = nI (codeN r) := by
  have K : ∀ (r : List Nat), (∀ q, q ∈ r → q < 16) → ∀ a, r.foldl (fun (a : Int32) (q : Nat) => (a <<< 4) ||| nI q) (nI a) = nI (r.foldl (fun a q => 16 * a + q) a) := by
    intro r
    induction r with
    | nil => intro _ a; rfl
    | cons q r ih =>
      intro h a
      show r.foldl (fun (a : Int32) (q : Nat) => (a <<< 4) ||| nI q) ((nI a <<< 4) ||| nI q) = nI (r.foldl (fun a q => 16 * a + q) (16 * a + q))
      rw [show (4 : Int32) = nI 4 &&& 31 from by decide, c_shl a (by decide), c_or (s := 4) (h q List.mem_cons_self)]
      have := ih (fun x hx => h x (List.mem_cons_of_mem _ hx)) (2 ^ 4 * a + q)
      rw [show (4 : Int32) = nI 4 &&& 31 from by decide] at this
      exact this
  exact K r h 0
theorem code_at {r : List Nat} (h : ∀ q, q ∈ r → q < 16) : ∀ {i x : Nat}, r[i]? = some x → codeN r / 16 ^ (r.length - 1 - i) % 16 = x := by
  induction r with
  | nil => intro i x hx; cases hx
  | cons q r ih =>
    intro i x hx
    have hr : ∀ q, q ∈ r → q < 16 := fun x hx => h x (List.mem_cons_of_mem _ hx)
    have hl := codeN_lt hr
    rw [codeN_cons]
    cases i with
    | zero =>
      injection hx with hx
      subst hx
      have := h q List.mem_cons_self
      rw [show (q :: r).length - 1 - 0 = r.length from rfl, Nat.mul_add_div (Nat.pow_pos (by decide)), Nat.div_eq_of_lt hl, Nat.add_zero, Nat.mod_eq_of_lt this]
    | succ i =>
      have hx' : r[i]? = some x := hx
      have hi : i < r.length := (List.getElem?_eq_some_iff.mp hx').1
      have e := ih hr hx'
      rw [show (q :: r).length - 1 - (i + 1) = r.length - 1 - i by simp only [List.length_cons]; omega]
      rw [show 16 ^ r.length * q = 16 ^ (r.length - 1 - i) * (16 * (16 ^ i * q)) by
        rw [← Nat.mul_assoc, ← Nat.mul_assoc, ← Nat.pow_succ, ← Nat.pow_add, show (r.length - 1 - i).succ + i = r.length by omega], Nat.mul_add_div (Nat.pow_pos (by decide)), Nat.mul_add_mod]
      exact e
theorem p_inRow {r : List Nat} (h : ∀ q, q ∈ r → q < 16) (hl : r.length ≤ 7) {i x : Nat} (hx : r[i]? = some x) (M : az_M) : f_X7_inRow (sp_code r) (nI r.length) (nI i) M = some (nI x) := by
  have hi : i < r.length := (List.getElem?_eq_some_iff.mp hx).1
  have h1 := codeN_lt h
  have h2 : 16 ^ r.length ≤ 16 ^ 7 := Nat.pow_le_pow_right (by decide) hl
  have h3 : (16 : Nat) ^ 7 = 268435456 := by decide
  unfold f_X7_inRow
  rw [code_nat h, show (4 : Int32) = nI 4 from rfl, show (1 : Int32) = nI 1 from rfl, n_sub (by omega), n_sub (by omega), n_mul, c_shr (by omega) (by omega), c_15, Nat.pow_mul, show (2 : Nat) ^ 4 = 16 from rfl, code_at h hx]
