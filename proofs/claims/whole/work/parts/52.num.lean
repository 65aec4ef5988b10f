/-! NUMBERS: all by Nat -/
theorem n_addl (c k : Nat) : no_index (OfNat.ofNat c : Int32) + nI k = nI (OfNat.ofNat c + k) := (Int32.ofNat_add c k).symm
theorem n_addr (c k : Nat) : nI k + no_index (OfNat.ofNat c : Int32) = nI (k + OfNat.ofNat c) := (Int32.ofNat_add k c).symm
theorem n_add (a b : Nat) : nI a + nI b = nI (a + b) := (Int32.ofNat_add a b).symm
theorem n_mull (c k : Nat) : no_index (OfNat.ofNat c : Int32) * nI k = nI (OfNat.ofNat c * k) := (Int32.ofNat_mul c k).symm
theorem n_mulr (c k : Nat) : nI k * no_index (OfNat.ofNat c : Int32) = nI (k * OfNat.ofNat c) := (Int32.ofNat_mul k c).symm
theorem n_mul (a b : Nat) : nI a * nI b = nI (a * b) := (Int32.ofNat_mul a b).symm
theorem n_sub {a b : Nat} (h : b ≤ a) : nI a - nI b = nI (a - b) := by
  have e : nI a = nI (a - b) + nI b := by rw [n_add, Nat.sub_add_cancel h]
  rw [e, Int32.add_sub_cancel]
theorem n_subr {c k : Nat} (h : OfNat.ofNat c ≤ k) : nI k - no_index (OfNat.ofNat c : Int32) = nI (k - OfNat.ofNat c) := n_sub h
theorem n_subl {c k : Nat} (h : k ≤ OfNat.ofNat c) : no_index (OfNat.ofNat c : Int32) - nI k = nI (OfNat.ofNat c - k) := n_sub h
theorem n_cl {k : Nat} (h : k < 2147483648) : (nI k).toNatClampNeg = k := nI_clamp h
theorem n_int {k : Nat} (h : k < 2147483648) : (nI k).toInt = (k : Int) := nI_toInt h
theorem n_lt {a b : Nat} (ha : a < 2147483648) (hb : b < 2147483648) : (nI a < nI b) = (a < b) := by
  rw [eq_iff_iff, Int32.lt_iff_toInt_lt, n_int ha, n_int hb]; omega
theorem n_le {a b : Nat} (ha : a < 2147483648) (hb : b < 2147483648) : (nI a ≤ nI b) = (a ≤ b) := by
  rw [eq_iff_iff, Int32.le_iff_toInt_le, n_int ha, n_int hb]; omega
theorem n_eq {a b : Nat} (ha : a < 2147483648) (hb : b < 2147483648) : (nI a = nI b) = (a = b) := by
  rw [eq_iff_iff, ← Int32.toInt_inj, n_int ha, n_int hb]; omega
theorem n_ltl {c k : Nat} (hc : OfNat.ofNat c < 2147483648) (h : k < 2147483648) : (no_index (OfNat.ofNat c : Int32) < nI k) = (OfNat.ofNat c < k) := n_lt hc h
theorem n_ltr {c k : Nat} (hc : OfNat.ofNat c < 2147483648) (h : k < 2147483648) : (nI k < no_index (OfNat.ofNat c : Int32)) = (k < OfNat.ofNat c) := n_lt h hc
theorem n_lel {c k : Nat} (hc : OfNat.ofNat c < 2147483648) (h : k < 2147483648) : (no_index (OfNat.ofNat c : Int32) ≤ nI k) = (OfNat.ofNat c ≤ k) := n_le hc h
theorem n_ler {c k : Nat} (hc : OfNat.ofNat c < 2147483648) (h : k < 2147483648) : (nI k ≤ no_index (OfNat.ofNat c : Int32)) = (k ≤ OfNat.ofNat c) := n_le h hc
theorem n_eqr {c k : Nat} (hc : OfNat.ofNat c < 2147483648) (h : k < 2147483648) : (nI k = no_index (OfNat.ofNat c : Int32)) = (k = OfNat.ofNat c) := n_eq h hc
theorem n_eql {c k : Nat} (hc : OfNat.ofNat c < 2147483648) (h : k < 2147483648) : (no_index (OfNat.ofNat c : Int32) = nI k) = (OfNat.ofNat c = k) := n_eq hc h
theorem n_ge0 {k : Nat} (h : k < 2147483648) : 0 ≤ nI k := nI_pos' h
theorem n_nm1 {k : Nat} (h : k < 2147483648) : (nI k = -1) = False := by
  rw [eq_iff_iff, ← Int32.toInt_inj, n_int h]
  show (k : Int) = -1 ↔ False
  exact ⟨fun h => by omega, False.elim⟩
theorem n_m1n {k : Nat} (h : k < 2147483648) : ((-1 : Int32) = nI k) = False := by
  rw [eq_comm (a := (-1 : Int32))]; exact n_nm1 h
theorem n_m1lt {k : Nat} (h : k < 2147483648) : ((-1 : Int32) < nI k) = True := by
  rw [eq_iff_iff, Int32.lt_iff_toInt_lt, n_int h]
  show (-1 : Int) < k ↔ True
  exact ⟨fun _ => trivial, fun _ => by omega⟩
theorem n_ltm1 {k : Nat} (h : k < 2147483648) : (nI k < (-1 : Int32)) = False := by
  rw [eq_iff_iff, Int32.lt_iff_toInt_lt, n_int h]
  show (k : Int) < -1 ↔ False
  exact ⟨fun h => by omega, False.elim⟩
/-- every number is below 0 or counts -/
theorem n_cases (x : Int32) : x < 0 ∨ ∃ k, k < 2147483648 ∧ x = nI k := by
  by_cases h : x < 0
  · exact Or.inl h
  · right
    have h1 : 0 ≤ x.toInt := by
      rw [Int32.lt_iff_toInt_lt] at h
      have : (0 : Int32).toInt = 0 := rfl
      omega
    have h2 := Int32.toInt_lt x
    refine ⟨x.toInt.toNat, by omega, ?_⟩
    rw [← Int32.toInt_inj, n_int (by omega)]
    omega
theorem sp_in.nat {x : Int32} {lo : Int} {hi : Int} (h : sp_in x lo hi) (h0 : 0 ≤ lo) (hh : hi < 2147483648) : ∃ k : Nat, x = nI k ∧ lo ≤ k ∧ (k : Int) ≤ hi := by
  obtain ⟨h1, h2⟩ := h
  refine ⟨x.toInt.toNat, ?_, by omega, by omega⟩
  rw [← Int32.toInt_inj, n_int (by omega)]
  omega
theorem sp_in_nI {k : Nat} {lo hi : Int} (h : k < 2147483648) : sp_in (nI k) lo hi = (lo ≤ k ∧ (k : Int) ≤ hi) := by rw [sp_in, n_int h]
/-! the reference's long ones -/
theorem l_lit {c : Nat} (h : c < 9223372036854775808) : (OfNat.ofNat c : Int64).toInt = (c : Int) := Int64.toInt_ofNat_of_lt h
theorem n_64 {k : Nat} (h : k < 2147483648) : (nI k).toInt64.toInt = (k : Int) := by rw [Int32.toInt_toInt64, n_int h]
theorem l_ltr {c k : Nat} (hc : OfNat.ofNat c < 9223372036854775808) (h : k < 2147483648) : ((nI k).toInt64 < no_index (OfNat.ofNat c : Int64)) = (k < OfNat.ofNat c) := by
  rw [eq_iff_iff, Int64.lt_iff_toInt_lt, n_64 h, (l_lit hc : (OfNat.ofNat c : Int64).toInt = ((OfNat.ofNat c : Nat) : Int))]; exact Int.ofNat_lt
theorem l_ltl {c k : Nat} (hc : OfNat.ofNat c < 9223372036854775808) (h : k < 2147483648) : (no_index (OfNat.ofNat c : Int64) < (nI k).toInt64) = (OfNat.ofNat c < k) := by
  rw [eq_iff_iff, Int64.lt_iff_toInt_lt, n_64 h, (l_lit hc : (OfNat.ofNat c : Int64).toInt = ((OfNat.ofNat c : Nat) : Int))]; exact Int.ofNat_lt
theorem l_ler {c k : Nat} (hc : OfNat.ofNat c < 9223372036854775808) (h : k < 2147483648) : ((nI k).toInt64 ≤ no_index (OfNat.ofNat c : Int64)) = (k ≤ OfNat.ofNat c) := by
  rw [eq_iff_iff, Int64.le_iff_toInt_le, n_64 h, (l_lit hc : (OfNat.ofNat c : Int64).toInt = ((OfNat.ofNat c : Nat) : Int))]; exact Int.ofNat_le
theorem l_lel {c k : Nat} (hc : OfNat.ofNat c < 9223372036854775808) (h : k < 2147483648) : (no_index (OfNat.ofNat c : Int64) ≤ (nI k).toInt64) = (OfNat.ofNat c ≤ k) := by
  rw [eq_iff_iff, Int64.le_iff_toInt_le, n_64 h, (l_lit hc : (OfNat.ofNat c : Int64).toInt = ((OfNat.ofNat c : Nat) : Int))]; exact Int.ofNat_le
theorem l_m1 (k : Nat) (h : k < 2147483648) : ((nI k).toInt64 - 1).toInt = (k : Int) - 1 := by
  rw [Int64.toInt_sub, n_64 h]
  show (((k : Int) - 1).bmod (2 ^ 64)) = _
  exact Int.bmod_eq_of_le (by omega) (by omega)
theorem l_m1lt {j k : Nat} (hj : j < 2147483648) (h : k < 2147483648) : ((nI k).toInt64 - 1 < (nI j).toInt64) = (k ≤ j) := by
  rw [eq_iff_iff, Int64.lt_iff_toInt_lt, n_64 hj, l_m1 k h]; omega
theorem l_neg {x : Int32} (h : x < 0) : x.toInt64 < 0 := by
  rw [Int64.lt_iff_toInt_lt, Int32.toInt_toInt64]
  exact Int32.lt_iff_toInt_lt.mp h
theorem l_nneg {k : Nat} (h : k < 2147483648) : ((nI k).toInt64 < 0) = False := by
  rw [eq_iff_iff, Int64.lt_iff_toInt_lt, n_64 h]
  show (k : Int) < 0 ↔ False
  exact ⟨fun h => by omega, False.elim⟩
/-! comparisons that are settled -/
theorem ltT {a b : Nat} (h : a < b) : (a < b) = True := eq_true h
theorem ltF {a b : Nat} (h : b ≤ a) : (a < b) = False := eq_false (by omega)
theorem leT {a b : Nat} (h : a ≤ b) : (a ≤ b) = True := eq_true h
theorem leF {a b : Nat} (h : b < a) : (a ≤ b) = False := eq_false (by omega)
theorem eqT {a b : Nat} (h : a = b) : (a = b) = True := eq_true h
theorem eqF {a b : Nat} (h : a < b ∨ b < a) : (a = b) = False := eq_false (by omega)
/-! whole rows -/
/-- memory with one row new -/
def ro (M : az_M) (k : Nat) (f : Nat → Int32) : az_M := (fun q => if q = k then f else M.1 q, M.2)
/-- a row with one number new -/
def up (f : Nat → Int32) (j : Nat) (v : Int32) : Nat → Int32 := fun i => if i = j then v else f i
theorem ro_eq (M : az_M) (k : Nat) (f : Nat → Int32) : (ro M k f).1 k = f := if_pos rfl
theorem ro_ne {M : az_M} {k q : Nat} {f : Nat → Int32} (h : q ≠ k) : (ro M k f).1 q = M.1 q := if_neg h
theorem ro_2 (M : az_M) (k : Nat) (f : Nat → Int32) : (ro M k f).2 = M.2 := rfl
theorem ro_at (M : az_M) (k q : Nat) (f : Nat → Int32) : (ro M k f).1 q = if q = k then f else M.1 q := rfl
theorem az_i_ro (M : az_M) (k j : Nat) (v : Int32) : az_i M k j v = ro M k (up (M.1 k) j v) := by
  refine Prod.ext ?_ rfl
  funext q i
  rw [gi, ro_at]
  by_cases h : q = k
  · subst h; rw [if_pos rfl, if_pos rfl]; rfl
  · rw [if_neg h, if_neg h]
theorem az_cp_ro (M : az_M) (a sp b dp n : Nat) : az_cp M a sp b dp n = ro M b (va_cpy (M.1 a) (M.1 b) sp dp n) := rfl
theorem ro_ro (M : az_M) (k : Nat) (f g : Nat → Int32) : ro (ro M k f) k g = ro M k g := by
  refine Prod.ext ?_ rfl
  funext q
  rw [ro_at, ro_at, ro_at]
  by_cases h : q = k
  · rw [if_pos h, if_pos h]
  · rw [if_neg h, if_neg h, if_neg h]
theorem ro_self (M : az_M) (k : Nat) : ro M k (M.1 k) = M := by
  refine Prod.ext ?_ rfl
  funext q
  rw [ro_at]
  by_cases h : q = k
  · rw [if_pos h, h]
  · rw [if_neg h]
theorem ro_comm {M : az_M} {k q : Nat} {f g : Nat → Int32} (h : q ≠ k) : ro (ro M k f) q g = ro (ro M q g) k f := by
  refine Prod.ext ?_ rfl
  funext x
  rw [ro_at, ro_at, ro_at, ro_at]
  by_cases h1 : x = q
  · rw [if_pos h1, if_neg (by rw [h1]; exact h), if_pos h1]
  · rw [if_neg h1, if_neg h1]
theorem up_eq (f : Nat → Int32) (j : Nat) (v : Int32) : up f j v j = v := if_pos rfl
theorem up_ne {f : Nat → Int32} {j i : Nat} {v : Int32} (h : i ≠ j) : up f j v i = f i := if_neg h
theorem up_at (f : Nat → Int32) (j i : Nat) (v : Int32) : up f j v i = if i = j then v else f i := rfl
