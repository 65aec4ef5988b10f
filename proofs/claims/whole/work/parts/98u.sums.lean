theorem p_opAt {T : Nat → Nat} {L i : Nat} {M : az_M} (h255 : ∀ i, T i ≤ 255) (h : tokR T L i M) (x1 : Int32) (ch op : Nat) (hc : (ch = 43 ∧ op = 2) ∨ (ch = 45 ∧ op = 3) ∨ (ch = 42 ∧ op = 4) ∨ (ch = 47 ∧ op = 5) ∨ (ch = 37 ∧ op = 6)) (hs : sg T L i ch) : f_X12_behindSum sp_G x1 M = f_X12_behindSum_71 sp_G x1 (nI (op + 18)) M := by
  unfold f_X12_behindSum
  have no : ∀ d, d ≠ ch → ¬ sg T L i d := fun d hd e => hd (e.2.symm.trans hs.2)
  rw [show f_X12_isSign 43 M = _ from p_signR (c := 43) h255 h (by decide), show f_X12_isSign 45 M = _ from p_signR (c := 45) h255 h (by decide), show f_X12_isSign 42 M = _ from p_signR (c := 42) h255 h (by decide), show f_X12_isSign 47 M = _ from p_signR (c := 47) h255 h (by decide), show f_X12_isSign 37 M = _ from p_signR (c := 37) h255 h (by decide)]
  rcases hc with ⟨rfl, rfl⟩ | ⟨rfl, rfl⟩ | ⟨rfl, rfl⟩ | ⟨rfl, rfl⟩ | ⟨rfl, rfl⟩
  · rw [if_pos hs]; rfl
  · rw [if_neg (no 43 (by decide)), if_pos hs]; rfl
  · rw [if_neg (no 43 (by decide)), if_neg (no 45 (by decide)), if_pos hs]; rfl
  · rw [if_neg (no 43 (by decide)), if_neg (no 45 (by decide)), if_neg (no 42 (by decide)), if_pos hs]; rfl
  · rw [if_neg (no 43 (by decide)), if_neg (no 45 (by decide)), if_neg (no 42 (by decide)), if_neg (no 47 (by decide)), if_pos hs]; rfl
def mulo (op : Nat) : Prop := 22 ≤ op ∧ op ≤ 24
def eTerm (T : Nat → Nat) (L i : Nat) : Prop := ¬ sg T L i 42 ∧ ¬ sg T L i 47 ∧ ¬ sg T L i 37
theorem j_term {T : Nat → Nat} {L o b : Nat} {Z : az_S × Nat} {R : az_M → Option (Int32 × az_M)} (hL : L ≤ 400) (h255 : ∀ i, T i ≤ 255) (hZ : Z.1.2 17 = 400) (ho : o ≤ 1) (ih : b < 8 → HS T L o (WL o) R (b + 1)) {i c n m : Nat} {P : List (Nat × Nat)} {Mc Mr : az_M} {x1 : Int32} (hC : CSt T L o i c b n Mc) (hR : RSt T L o i c b m P Mr) (hP : P = [] ∨ ∃ x P', P = x :: P' ∧ bd x.1 < 6) :
    JO T L o (WL o) x1 1 3 i c b n m P mulo (sok (WL o)) (eTerm T L) Mc Mr (f_X5_readTerm Z sp_G R Mc) := by
  have loop : ∀ (e : Nat) (x F : Nat) (Mc' : az_M) (i' c' n' : Nat) (φ : sp_E → Option Int32), L - i' ≤ e → e < F → x ≤ i' → JK T L o (WL o) x1 1 3 i c b n m P mulo (sok (WL o)) Mc Mr Mc' i' c' n' φ → JO T L o (WL o) x1 1 3 i c b n m P mulo (sok (WL o)) (eTerm T L) Mc Mr (f_X5_readTerm_11 Z sp_G R F (nI x) Mc') := by
    intro e
    induction e with
    | zero =>
      intro x F Mc' i' c' n' φ he hF hx hK
      obtain ⟨F, rfl⟩ : ∃ F1, F = F1 + 1 := ⟨F - 1, by omega⟩
      have hCC := hK.1
      have hi' := hCC.2.2.1
      have no : ∀ d, ¬ sg T L i' d := fun d e => by have := tkd_lt (T := T) (L := L) (p := i') (by have := e.1; omega); omega
      rw [f_X5_readTerm_11, show f_X5_isSign 42 Mc' = _ from p_signC (c := 42) hL h255 hCC.1.1 hCC.1.2 (by decide), show f_X5_isSign 47 Mc' = _ from p_signC (c := 47) hL h255 hCC.1.1 hCC.1.2 (by decide), show f_X5_isSign 37 Mc' = _ from p_signC (c := 37) hL h255 hCC.1.1 hCC.1.2 (by decide), if_neg (no 42), if_neg (no 47), if_neg (no 37)]
      unfold f_X5_readTerm_102
      simp only [Option.bind_some, if_true]
      rw [ite_self]
      exact hK.to ⟨no 42, no 47, no 37⟩
    | succ e ihe =>
      intro x F Mc' i' c' n' φ he hF hx hK
      obtain ⟨F, rfl⟩ : ∃ F1, F = F1 + 1 := ⟨F - 1, by omega⟩
      have hCC := hK.1
      have hi' := hCC.2.2.1
      have s42 : f_X5_isSign 42 Mc' = _ := p_signC (c := 42) hL h255 hCC.1.1 hCC.1.2 (by decide)
      have s47 : f_X5_isSign 47 Mc' = _ := p_signC (c := 47) hL h255 hCC.1.1 hCC.1.2 (by decide)
      have s37 : f_X5_isSign 37 Mc' = _ := p_signC (c := 37) hL h255 hCC.1.1 hCC.1.2 (by decide)
      rw [f_X5_readTerm_11, s42, s47, s37]
      unfold f_X5_readTerm_102
      have go : ∀ (ch op : Nat), ((ch = 42 ∧ op = 4) ∨ (ch = 47 ∧ op = 5) ∨ (ch = 37 ∧ op = 6)) → sg T L i' ch → JO T L o (WL o) x1 1 3 i c b n m P mulo (sok (WL o)) (eTerm T L) Mc Mr (f_X5_readTerm_73 Z sp_G R (f_X5_readTerm_11 Z sp_G R F) (nI x) (nI op) Mc') := by
        intro ch op hco hs
        have hk : tkd T L i' ≠ 0 := by have := hs.1; omega
        have tl := tnx_lt hk
        obtain ⟨Mc1, a1, a2⟩ := j_bin (op := op) (lam := 6) (lim0 := fun _ => False) (endc0 := fun _ => True) (sub := f_X5_readPart Z sp_G R) hL h255 hZ ho (by omega) (by rcases (show op = 4 ∨ op = 5 ∨ op = 6 by omega) with rfl | rfl | rfl <;> rfl) (by decide) (fun y hy => by
          unfold mulo at hy
          refine ⟨?_, by omega, by omega⟩
          unfold bd
          rw [if_neg (by omega), if_neg (by omega), if_neg (by omega), if_neg (by omega), if_neg (by omega), if_pos (by omega)]
          exact Nat.le_refl 6) (fun y hy => hy.elim) (by unfold mulo; omega) hP (fun i c n m Mc Mr h1 h2 => j_part hL h255 hZ ho h1 h2 ih) hk (fun M hM => p_opAt h255 hM x1 ch op (by omega) hs) hK
        unfold f_X5_readTerm_73
        rw [a1, Option.bind_some, show nI x + 1 = nI (x + 1) from (nI_succ x).symm]
        rcases a2 with ⟨Mc2, b1, j, Mr', K, b2⟩ | ⟨Mc2, Mc3, i2, c2, n2, φ2, b1, b2, b3, b4, b5⟩
        · rw [b1, Option.bind_some, if_pos rfl]; exact Or.inl ⟨Mc2, j, Mr', K, rfl, b2⟩
        · rw [b1, Option.bind_some, if_neg (show ¬ (1 : Int32) = 0 by decide), b2, Option.bind_some]
          exact ihe (x + 1) F Mc3 i2 c2 n2 φ2 (by omega) (by omega) (by omega) b5
      have lt4 : ∀ d, sg T L i' d → ¬ (400 : Int32) ≤ nI x := fun d hd => by
        have := tkd_lt (T := T) (L := L) (p := i') (by have := hd.1; omega)
        rw [show (400 : Int32) = nI 400 from rfl, n_le (by omega) (by omega)]; omega
      have e45 : f_X5_readTerm_45 Z sp_G R (f_X5_readTerm_11 Z sp_G R F) (nI x) Mc' = if sg T L i' 42 then f_X5_readTerm_73 Z sp_G R (f_X5_readTerm_11 Z sp_G R F) (nI x) (nI 4) Mc' else if sg T L i' 47 then f_X5_readTerm_73 Z sp_G R (f_X5_readTerm_11 Z sp_G R F) (nI x) (nI 5) Mc' else f_X5_readTerm_73 Z sp_G R (f_X5_readTerm_11 Z sp_G R F) (nI x) (nI 6) Mc' := by
        unfold f_X5_readTerm_45
        rw [s42, s47]
        by_cases h1 : sg T L i' 42
        · rw [if_pos h1, if_pos h1]; rfl
        · rw [if_neg h1, if_neg h1]
          by_cases h2 : sg T L i' 47
          · rw [if_pos h2, if_pos h2]; rfl
          · rw [if_neg h2, if_neg h2]; rfl
      rw [e45]
      by_cases h42 : sg T L i' 42
      · rw [if_pos h42, if_pos h42, if_neg (lt4 42 h42)]
        exact go 42 4 (by omega) h42
      · rw [if_neg h42, if_neg h42]
        by_cases h47 : sg T L i' 47
        · rw [if_pos h47, if_pos h47, if_neg (lt4 47 h47)]
          exact go 47 5 (by omega) h47
        · rw [if_neg h47, if_neg h47]
          by_cases h37 : sg T L i' 37
          · rw [if_pos h37, if_neg (lt4 37 h37)]
            exact go 37 6 (by omega) h37
          · rw [if_neg h37]
            simp only [Option.bind_some, if_true]
            rw [ite_self]
            exact hK.to ⟨h42, h47, h37⟩
  unfold f_X5_readTerm
  rcases (j_part (Z := Z) (x1 := x1) hL h255 hZ ho hC hR ih).of with ⟨Mc', j, Mr', K, e1, e2⟩ | ⟨Mc', i', c', n', φ, e1, -, a1, a2, a3, a4, Mr', m', q, K, g1, g2, g3, g4, g5, g6⟩
  · rw [e1, Option.bind_some, if_pos rfl]; exact Or.inl ⟨Mc', j, Mr', K, rfl, e2⟩
  · rw [e1, Option.bind_some, if_neg (show ¬ (1 : Int32) = 0 by decide)]
    exact loop 400 0 sp_G Mc' i' c' n' φ (by omega) (by decide) (by omega) ⟨a1, a2, a3, a4, Mr', m', q, K, g1, g2, g3, g4, fun x hx => (g5 x hx).elim, g6⟩
theorem j_sum {T : Nat → Nat} {L o b : Nat} {Z : az_S × Nat} {R : az_M → Option (Int32 × az_M)} (hL : L ≤ 400) (h255 : ∀ i, T i ≤ 255) (hZ : Z.1.2 17 = 400) (ho : o ≤ 1) (ih : b < 8 → HS T L o (WL o) R (b + 1)) {i c n m : Nat} {P : List (Nat × Nat)} {Mc Mr : az_M} {x1 : Int32} (hC : CSt T L o i c b n Mc) (hR : RSt T L o i c b m P Mr) (hP : P = [] ∨ ∃ x P', P = x :: P' ∧ bd x.1 < 5) :
    JO T L o (WL o) x1 1 3 i c b n m P arith (sok (WL o)) (eSum T L) Mc Mr (f_X5_readSum_b Z sp_G R Mc) := by
  have hP6 : P = [] ∨ ∃ x P', P = x :: P' ∧ bd x.1 < 6 := by
    rcases hP with h | ⟨x, P', h, h2⟩
    · exact Or.inl h
    · exact Or.inr ⟨x, P', h, by omega⟩
  have loop : ∀ (e : Nat) (x F : Nat) (Mc' : az_M) (i' c' n' : Nat) (φ : sp_E → Option Int32), L - i' ≤ e → e < F → x ≤ i' → eTerm T L i' → JK T L o (WL o) x1 1 3 i c b n m P arith (sok (WL o)) Mc Mr Mc' i' c' n' φ → JO T L o (WL o) x1 1 3 i c b n m P arith (sok (WL o)) (eSum T L) Mc Mr (f_X5_readSum_11 Z sp_G R F (nI x) Mc') := by
    intro e
    induction e with
    | zero =>
      intro x F Mc' i' c' n' φ he hF hx hT hK
      obtain ⟨F, rfl⟩ : ∃ F1, F = F1 + 1 := ⟨F - 1, by omega⟩
      have hCC := hK.1
      have hi' := hCC.2.2.1
      have no : ∀ d, ¬ sg T L i' d := fun d e => by have := tkd_lt (T := T) (L := L) (p := i') (by have := e.1; omega); omega
      rw [f_X5_readSum_11, show f_X5_isSign 43 Mc' = _ from p_signC (c := 43) hL h255 hCC.1.1 hCC.1.2 (by decide), show f_X5_isSign 45 Mc' = _ from p_signC (c := 45) hL h255 hCC.1.1 hCC.1.2 (by decide), if_neg (no 43), if_neg (no 45)]
      unfold f_X5_readSum_79
      simp only [Option.bind_some, if_true]
      rw [ite_self]
      exact hK.to ⟨no 43, no 45, hT⟩
    | succ e ihe =>
      intro x F Mc' i' c' n' φ he hF hx hT hK
      obtain ⟨F, rfl⟩ : ∃ F1, F = F1 + 1 := ⟨F - 1, by omega⟩
      have hCC := hK.1
      have hi' := hCC.2.2.1
      have s43 : f_X5_isSign 43 Mc' = _ := p_signC (c := 43) hL h255 hCC.1.1 hCC.1.2 (by decide)
      have s45 : f_X5_isSign 45 Mc' = _ := p_signC (c := 45) hL h255 hCC.1.1 hCC.1.2 (by decide)
      rw [f_X5_readSum_11, s43, s45]
      unfold f_X5_readSum_79 f_X5_readSum_36
      rw [s43]
      have go : ∀ (ch op : Nat), ((ch = 43 ∧ op = 2) ∨ (ch = 45 ∧ op = 3)) → sg T L i' ch → JO T L o (WL o) x1 1 3 i c b n m P arith (sok (WL o)) (eSum T L) Mc Mr (f_X5_readSum_50 Z sp_G R (f_X5_readSum_11 Z sp_G R F) (nI x) (nI op) Mc') := by
        intro ch op hco hs
        have hk : tkd T L i' ≠ 0 := by have := hs.1; omega
        have tl := tnx_lt hk
        have hbd : bd (op + 18) = 5 := by rcases (show op = 2 ∨ op = 3 by omega) with rfl | rfl <;> rfl
        obtain ⟨Mc1, a1, a2⟩ := j_bin (op := op) (lam := 5) (lim0 := mulo) (endc0 := eTerm T L) (sub := f_X5_readTerm Z sp_G R) hL h255 hZ ho (by omega) hbd (by decide) (fun y hy => ⟨bd_arith hy, by have := hy.2; omega, by have := hy.2; omega⟩) (fun y hy => ⟨by have := hy.1; omega, hy.2⟩) ⟨by omega, by omega⟩ hP (fun i c n m Mc Mr h1 h2 => j_term hL h255 hZ ho ih h1 h2 (Or.inr ⟨_, _, rfl, by show bd (op + 18) < 6; rw [hbd]; decide⟩)) hk (fun M hM => p_opAt h255 hM x1 ch op (by omega) hs) hK
        unfold f_X5_readSum_50
        rw [a1, Option.bind_some, show nI x + 1 = nI (x + 1) from (nI_succ x).symm]
        rcases a2 with ⟨Mc2, b1, j, Mr', K, b2⟩ | ⟨Mc2, Mc3, i2, c2, n2, φ2, b1, b2, b3, b4, b5⟩
        · rw [b1, Option.bind_some, if_pos rfl]; exact Or.inl ⟨Mc2, j, Mr', K, rfl, b2⟩
        · rw [b1, Option.bind_some, if_neg (show ¬ (1 : Int32) = 0 by decide), b2, Option.bind_some]
          exact ihe (x + 1) F Mc3 i2 c2 n2 φ2 (by omega) (by omega) (by omega) b4 b5
      have lt4 : ∀ d, sg T L i' d → ¬ (400 : Int32) ≤ nI x := fun d hd => by
        have := tkd_lt (T := T) (L := L) (p := i') (by have := hd.1; omega)
        rw [show (400 : Int32) = nI 400 from rfl, n_le (by omega) (by omega)]; omega
      by_cases h43 : sg T L i' 43
      · rw [if_pos h43, if_neg (lt4 43 h43)]
        exact go 43 2 (by omega) h43
      · rw [if_neg h43]
        by_cases h45 : sg T L i' 45
        · rw [if_pos h45, if_neg (lt4 45 h45)]
          exact go 45 3 (by omega) h45
        · rw [if_neg h45]
          simp only [Option.bind_some, if_true]
          rw [ite_self]
          exact hK.to ⟨h43, h45, hT⟩
  unfold f_X5_readSum_b
  rcases (j_term (Z := Z) (x1 := x1) hL h255 hZ ho ih hC hR hP6).of with ⟨Mc', j, Mr', K, e1, e2⟩ | ⟨Mc', i', c', n', φ, e1, eT, a1, a2, a3, a4, Mr', m', q, K, g1, g2, g3, g4, g5, g6⟩
  · rw [e1, Option.bind_some, if_pos rfl]; exact Or.inl ⟨Mc', j, Mr', K, rfl, e2⟩
  · rw [e1, Option.bind_some, if_neg (show ¬ (1 : Int32) = 0 by decide)]
    exact loop 400 0 sp_G Mc' i' c' n' φ (by omega) (by decide) (by omega) eT ⟨a1, a2, a3, a4, Mr', m', q, K, g1, g2, g3, g4, fun x hx => ⟨by have := (g5 x hx).1; omega, (g5 x hx).2⟩, g6⟩
/-- sums, whatever brackets they stand in -/
theorem h_sum {T : Nat → Nat} {L o : Nat} {Z : az_S × Nat} (hL : L ≤ 400) (h255 : ∀ i, T i ≤ 255) (hZ : Z.1.2 17 = 400) (ho : o ≤ 1) : ∀ (D b : Nat), b ≤ 8 → 9 ≤ b + D → HS T L o (WL o) (f_X5_readSum Z sp_G D) b := by
  intro D
  induction D with
  | zero => intro b hb h; omega
  | succ D ih =>
    intro b hb h i c n m P Mc Mr x1 hC hR hP
    rw [f_X5_readSum]
    exact j_sum hL h255 hZ ho (fun hb8 => ih (b + 1) (by omega) (by omega)) hC hR hP
