/-! THE PURE SIDE: what both programs mean -/
abbrev sp_E : Type := Nat → Int32
/-- a clause: its head, its test (none: broken; 0: not so), its sum (none: broken) -/
abbrev sp_C : Type := Int32 × (sp_E → Option Int32) × (sp_E → Option Int32)
abbrev sp_L : Type := List sp_C
def sp_G : Nat := 1000000
/-- what a clause tells, if it holds -/
def sp_tell1 (c : sp_C) (head : Int32) (e : sp_E) : Option Int32 := if c.1 = head then (match c.2.1 e with | none => none | some v => if v = 0 then none else c.2.2 e) else none
/-- the last clause that tells -/
def sp_tell (l : sp_L) (head : Int32) (e : sp_E) : Option Int32 := l.foldl (fun a c => (sp_tell1 c head e).or a) none
def sp_clamp (hi v : Int32) : Int32 := if 0 < (if v < hi then v else hi) then (if v < hi then v else hi) else 0
def sp_most (head : Nat) : Int32 := (az_sl 3).getD head 0
/-- the words of a law, over a province's row -/
def sp_env (N : Nat → Int32) (person place : Int32) : sp_E := fun j => match j with
  | 0 => person
  | 1 => if person = -1 then -1 else N (63 + person.toNatClampNeg)
  | 2 => place
  | 3 => N (27 + place.toNatClampNeg)
  | 4 => N (39 + place.toNatClampNeg)
  | 5 => N (4 + place.toNatClampNeg)
  | 6 => N 0
  | 7 => N 1
  | 8 => N 2
  | 9 => N 16
  | _ => N 20
def sp_without (N : Nat → Int32) (head : Nat) (person place : Int32) : Int32 := match head with
  | 0 => N (63 + person.toNatClampNeg)
  | 1 => N (39 + place.toNatClampNeg) / 10
  | 2 => N (39 + place.toNatClampNeg) / 20
  | 3 => N (4 + place.toNatClampNeg) * 10
  | _ => 0
/-- what the law in force says: aims 0, wears 1, flattens 2, prices 3, bars 4 -/
def sp_ask (l : Option sp_L) (N : Nat → Int32) (head : Nat) (person place : Int32) : Int32 := match l with
  | none => sp_without N head person place
  | some l => match sp_tell l (nI head) (sp_env N person place) with
    | none => sp_without N head person place
    | some v => sp_clamp (sp_most head) v
def sp_canFire (N : Nat → Int32) : Prop := N 3 = 0 ∧ N 18 ≤ N 0
/-- days go by -/
def sp_days (N : Nat → Int32) (n : Int32) : Nat → Int32 := fun j => if j = 16 then N 16 + (if 999 - N 16 < n then 999 - N 16 else n) else if j = 2 then (if N 2 + (if 999 - N 16 < n then 999 - N 16 else n) < 99 then N 2 + (if 999 - N 16 < n then 999 - N 16 else n) else 99) else N j
/-- a shot into a place, lead and log aside -/
def sp_shot (l : Option sp_L) (N : Nat → Int32) (place : Nat) : Nat → Int32 :=
  let worn := if sp_ask l N 1 (-1) (nI place) < N 0 then sp_ask l N 1 (-1) (nI place) else N 0
  let flat := N 1 + sp_ask l N 2 (-1) (nI place)
  let N1 : Nat → Int32 := fun j => if j = 0 then N 0 - worn else if j = 1 then (if flat < 99 then flat else 99) else if j = 4 + place then N (4 + place) + 1 else N j
  if N (27 + place) = 2 then (fun j => if j = 3 then 1 else N1 j) else sp_days N1 ((N (51 + place) + N 19 - 1) / N 19)
/-- so many shots into a place, all of a bullet that can be fired -/
def sp_shots (l : Option sp_L) : Nat → (Nat → Int32) → Nat → Option (Nat → Int32)
  | 0, N, _ => some N
  | n + 1, N, place => if N 3 = 0 ∧ N 18 ≤ N 0 then sp_shots l n (sp_shot l N place) place else none
/-- a quarrel with all shots missed, to its end and in time -/
def sp_miss (l : Option sp_L) (N : Nat → Int32) (q : Nat) : Option (Nat → Int32) := (sp_shots l (2 * (N 17).toNatClampNeg) N (N (107 + q)).toNatClampNeg).bind fun N' => if N' 3 = 0 ∧ N' 16 ≤ N (114 + q) then some N' else none
/-- the rows of quarrels that can be had, by number, with the weight that is left -/
def sp_rows (l : Option sp_L) : Nat → List Nat → (Nat → Int32) → List (List Nat × Int32)
  | 0, _, N => [([], N 0)]
  | n + 1, rem, N => rem.flatMap (fun q => match sp_miss l N q with
    | none => []
    | some N' => (sp_rows l n (rem.filter (fun r => r != q)) N').map (fun x => (q :: x.1, x.2)))
/-- the first of those with most left -/
def sp_best : List (List Nat × Int32) → Option (List Nat × Int32)
  | [] => none
  | x :: xs => match sp_best xs with
    | none => some x
    | some y => if y.2 ≤ x.2 then some x else some y
/-- a row as a number, four bits each -/
def sp_code (r : List Nat) : Int32 := r.foldl (fun a q => (a <<< 4) ||| nI q) 0
/-- what the class keeps of its rows is right -/
def sp_rowsOk (l : Option sp_L) (N : Nat → Int32) (found first best left : Int32) : Prop :=
  let rs := sp_rows l (N 25).toNatClampNeg (List.range (N 25).toNatClampNeg) N
  found = nI rs.length ∧ (∀ x, rs.head? = some x → first = sp_code x.1) ∧ (∀ x, sp_best rs = some x → best = sp_code x.1 ∧ left = x.2)
/-! what a text in the class, a law in the reference mean -/
def sp_enc (v : Option Int32) : Int32 := match v with
  | none => -2147483648
  | some v => v
def sp_RC (Z : az_S × Nat) (t : Nat) (A : Nat → Nat → Int32) (f g : Int32) (φ : sp_E → Option Int32) : Prop :=
  ∀ M : az_M, M.1 (t + 1) = A (t + 1) → ∃ M', f_X6_reckon Z sp_G t 20 f g M = some (sp_enc (φ (M.1 20)), M') ∧ (∀ k, k ≠ 14 → M'.1 k = M.1 k) ∧ M'.2 = M.2
def sp_CT (Z : az_S × Nat) (A : Nat → Nat → Int32) (t : Nat) (l : sp_L) : Prop :=
  71 ≤ t ∧ az_tok Z t = true ∧ A t 3 = nI l.length ∧ l.length ≤ 12 ∧ 6 * l.length ≤ Z.1.2 (t + 2) ∧ ∀ c x, l[c]? = some x → A (t + 2) (6 * c) = x.1 ∧ sp_RC Z t A (A (t + 2) (6 * c + 4)) (A (t + 2) (6 * c + 5)) x.2.1 ∧ sp_RC Z t A (A (t + 2) (6 * c + 2)) (A (t + 2) (6 * c + 3)) x.2.2
def sp_RM (R : Nat → Int32) (b : Nat) (f g : Int32) (φ : sp_E → Option Int32) : Prop :=
  ∀ (M : az_M) (e : sp_E), (∀ j, b ≤ j → j < b + 900 → M.1 42 j = R j) → M.1 40 20 = 0 → M.1 40 34 = nI b → (∀ j, j < 11 → M.2.1 58 (j + 1) = (e j).toInt64) →
    ∃ M', f_X12_reckonAll sp_G f g M = some M' ∧ (φ e = none → M'.1 40 38 = 1) ∧ (∀ v, φ e = some v → M'.1 40 38 = 0 ∧ M'.2.1 40 39 = v.toInt64) ∧ (∀ k, k ≠ 40 → M'.1 k = M.1 k) ∧ (∀ j, j ≠ 38 → M'.1 40 j = M.1 40 j) ∧ (∀ k, k ≠ 40 → k ≠ 60 → M'.2.1 k = M.2.1 k) ∧ (∀ j, j ≠ 39 → M'.2.1 40 j = M.2.1 40 j) ∧ M'.2.2 = M.2.2
def sp_MT (R : Nat → Int32) (i : Nat) (l : sp_L) : Prop :=
  R (151 + 900 * i) = nI l.length ∧ ∀ c x, l[c]? = some x → R (152 + 900 * i + 8 * c) = x.1 ∧ (x.1 = 0 ∨ x.1 = 1 ∨ x.1 = 2 ∨ x.1 = 3 ∨ x.1 = 4) ∧
    (if R (157 + 900 * i + 8 * c) < R (158 + 900 * i + 8 * c) then sp_RM R (150 + 900 * i) (R (157 + 900 * i + 8 * c)) (R (158 + 900 * i + 8 * c)) x.2.1 else x.2.1 = fun _ => some 1) ∧
    (if x.1 = 4 then x.2.2 = fun _ => some 1 else sp_RM R (150 + 900 * i) (R (155 + 900 * i + 8 * c)) (R (156 + 900 * i + 8 * c)) x.2.2)
/-- a clause's test is so or not; its sum stays within -/
def sp_cok (x : sp_C) : Prop := (∀ e v, x.2.1 e = some v → v = 0 ∨ v = 1) ∧ ∀ (e : sp_E) v, (∀ j, j < 11 → -1000000000 ≤ (e j).toInt ∧ (e j).toInt ≤ 1000000000) → x.2.2 e = some v → -1000000000 ≤ v.toInt ∧ v.toInt ≤ 1000000000
/-- a book's laws, and which is in force: meant alike by class and reference -/
def sp_bk (Z : az_S × Nat) (A : Nat → Nat → Int32) (ref : Nat → Option Nat) (cnt inF : Int32) (R : Nat → Int32) (ls : Nat → sp_L) : Prop :=
  ∃ n, n ≤ 6 ∧ cnt = nI n ∧ R 4 = nI n ∧ inF = R 5 ∧ (inF = -1 ∨ ∃ f, f < n ∧ inF = nI f) ∧ ∀ i, i < n → ∃ t, ref i = some t ∧ sp_CT Z A t (ls i) ∧ sp_MT R i (ls i) ∧ ∀ x, x ∈ ls i → sp_cok x
def sp_law (inF : Int32) (ls : Nat → sp_L) : Option sp_L := if inF = -1 then none else some (ls inF.toNatClampNeg)
/-! the two provinces -/
def sp_pr (N R : Nat → Int32) : Prop :=
  (N 0 = R 11 ∧ N 1 = R 12 ∧ N 2 = R 13 ∧ N 3 = R 14) ∧ (∀ t, t < 5 → N (16 + t) = R (6 + t)) ∧ (N 21 = R 15 ∧ N 22 = R 16) ∧ (N 23 = R 0 ∧ N 24 = R 1 ∧ N 25 = R 2 ∧ N 26 = R 3) ∧
  (∀ p, p < 12 → N (27 + p) = R (17 + 4 * p) ∧ N (39 + p) = R (18 + 4 * p) ∧ N (51 + p) = R (19 + 4 * p) ∧ N (4 + p) = R (20 + 4 * p)) ∧
  (∀ p, p < 10 → N (63 + p) = R (65 + 3 * p) ∧ N (73 + p) = R (66 + 3 * p) ∧ N (83 + p) = R (67 + 3 * p)) ∧
  (∀ q, q < (N 25).toNatClampNeg → N (93 + q) = R (95 + 4 * q) ∧ N (100 + q) = R (96 + 4 * q) ∧ N (107 + q) = R (97 + 4 * q) ∧ N (114 + q) = R (98 + 4 * q)) ∧
  (∀ i, i < 24 → N (121 + i) = R (123 + i))
def sp_in (x : Int32) (lo hi : Int) : Prop := lo ≤ x.toInt ∧ x.toInt ≤ hi
/-- a province's numbers are within, dents and lead by B -/
def sp_rg (B : Nat) (N : Nat → Int32) : Prop :=
  (sp_in (N 0) 0 999 ∧ sp_in (N 1) 0 99 ∧ sp_in (N 2) 0 99 ∧ sp_in (N 3) 0 1) ∧ (sp_in (N 16) 0 999 ∧ sp_in (N 17) 1 4 ∧ sp_in (N 18) 1 99 ∧ sp_in (N 19) 1 9 ∧ sp_in (N 20) 0 9) ∧ (sp_in (N 21) 0 B ∧ sp_in (N 22) 0 B) ∧ (sp_in (N 23) 0 12 ∧ sp_in (N 24) 0 10 ∧ sp_in (N 25) 0 7 ∧ sp_in (N 26) 0 24) ∧
  (∀ p, p < 12 → sp_in (N (27 + p)) 0 3 ∧ sp_in (N (39 + p)) 0 99 ∧ sp_in (N (51 + p)) 0 20 ∧ sp_in (N (4 + p)) 0 B) ∧
  (∀ p, p < 10 → sp_in (N (63 + p)) 0 10 ∧ sp_in (N (73 + p)) 0 1 ∧ sp_in (N (83 + p)) 0 1006) ∧
  (∀ q, q < (N 25).toNatClampNeg → sp_in (N (93 + q)) 0 ((N 24).toInt - 1) ∧ sp_in (N (100 + q)) 0 ((N 24).toInt - 1) ∧ N (93 + q) ≠ N (100 + q) ∧ sp_in (N (107 + q)) 0 ((N 23).toInt - 1) ∧ sp_in (N (114 + q)) 0 999)
def sp_B (m : Nat) : Nat := 200000 * m
/-- what can be undone: the class's slots go round, the reference's are moved -/
def sp_past (B : Nat) (el cnt : Int32) (kinds prov : Nat → Int32) (n : Int32) (sorts und : Nat → Int32) : Prop :=
  ∃ e c, e < 16 ∧ c ≤ 16 ∧ el = nI e ∧ cnt = nI c ∧ n = nI c ∧ ∀ k, k < c → kinds ((e + k) % 16) = sorts k ∧ sp_in (sorts k) 0 2 ∧ sp_pr (fun j => prov (145 * ((e + k) % 16) + j)) (fun j => und (150 * k + j)) ∧ sp_rg B (fun j => prov (145 * ((e + k) % 16) + j))
def sp_shape (Z : az_S × Nat) : Prop := 71 ≤ Z.2 ∧ ∀ k, k < 71 → Z.1.1 k = az_kd.getD k 0 ∧ Z.1.2 k = az_ln.getD k 0
/-- an image -/
def sp_image (B : Nat) (Z : az_S × Nat) (M : az_M) (k : Nat) : Prop :=
  (M.1 44 k = 0 ∧ M.2.2 10 k = none ∧ M.2.2 11 k = none) ∨ (M.1 44 k = 1 ∧ ∃ t u ls, M.2.2 10 k = some t ∧ M.2.2 11 k = some u ∧ 71 ≤ t ∧ 71 ≤ u ∧ az_pok Z t = true ∧ az_bok Z u = true ∧ sp_pr (M.1 (t + 1)) (fun j => M.1 43 (5550 * k + j)) ∧ sp_rg B (M.1 (t + 1)) ∧ sp_bk Z M.1 (M.2.2 (u + 1)) (M.1 u 1) (M.1 u 2) (fun j => M.1 43 (5550 * k + j)) ls)
/-- books hold texts alone -/
def sp_tk (Z : az_S × Nat) (q : Nat → Nat → Option Nat) : Prop := (∀ i, i < 6 → az_toko Z (q 4 i) = true) ∧ ∀ k u, k < 2 → q 11 k = some u → ∀ i, i < 6 → az_toko Z (q (u + 1) i) = true
def az_Inv (m : Nat) (Z : az_S × Nat) (M : az_M) : Prop :=
  (sp_shape Z ∧ sp_tk Z M.2.2) ∧ az_rokz Z M ∧ (sp_pr (M.1 2) (M.1 42) ∧ sp_rg (sp_B m) (M.1 2)) ∧
  (∃ ls, sp_bk Z M.1 (M.2.2 4) (M.1 3 1) (M.1 3 2) (M.1 42) ls ∧ (M.1 34 13 = 0 ∨ (M.1 34 13 = 1 ∧ sp_rowsOk (sp_law (M.1 3 2) ls) (M.1 2) (M.1 34 0) (M.1 34 1) (M.1 34 2) (M.1 34 3)))) ∧
  (M.1 5 1 = M.1 40 13 ∧ sp_in (M.1 5 1) 0 400 ∧ ∀ i, i < 400 → M.1 6 i = M.1 49 i ∧ sp_in (M.1 6 i) 0 255) ∧
  (M.1 0 12 = M.1 40 1 ∧ M.1 0 13 = M.1 40 18 ∧ M.1 0 14 = M.1 40 11 ∧ M.1 0 15 = M.1 40 55) ∧
  (M.1 12 0 = M.1 41 1 ∧ M.1 12 1 = M.1 41 2 ∧ M.1 12 2 = M.1 41 3 ∧ M.1 12 3 = M.1 41 5 ∧ M.1 12 4 = M.1 41 6) ∧
  sp_past (sp_B m) (M.1 7 2) (M.1 7 3) (M.1 8) (M.1 9) (M.1 40 8) (M.1 46) (M.1 45) ∧
  (sp_image (sp_B m) Z M 0 ∧ sp_image (sp_B m) Z M 1 ∧ (∀ t, M.2.2 10 0 = some t → M.2.2 10 1 ≠ some t) ∧ ∀ u, M.2.2 11 0 = some u → M.2.2 11 1 ≠ some u) ∧
  (M.1 28 1 = M.1 40 58 ∧ (M.1 28 1 = 0 ∨ (M.1 28 1 = 1 ∧ ∀ j, j < 6 → M.1 29 j = M.1 70 j))) ∧
  (M.1 40 20 = 0 ∧ (∀ j, j < 11 → M.2.1 55 j = az_M0.2.1 55 j) ∧ (∀ j, j < 8 → M.2.1 56 j = az_M0.2.1 56 j) ∧ ∀ j, j < 5 → M.2.1 57 j = az_M0.2.1 57 j)
