/-! NEW CELLS BEHIND A WORLD -/
theorem rz_nd : ∀ n, va_nd (List.range n) = true := by
  have h : ∀ l : List Nat, l.Nodup → va_nd l = true := by
    intro l
    induction l with
    | nil => intro _; rfl
    | cons a l ih =>
      intro h
      have h := List.nodup_cons.mp h
      simp only [va_nd, ih h.2, Bool.and_true]
      simpa using h.1
  exact fun n => h _ List.nodup_range
theorem rz_map {α : Type} (ws t : List α) : (List.range ws.length).map (fun i => (ws ++ t)[i]?) = ws.map some := by
  apply List.ext_getElem?
  intro i
  rw [List.getElem?_map, List.getElem?_map]
  by_cases h : i < ws.length
  · rw [List.getElem?_range h, Option.map_some, List.getElem?_append_left h, List.getElem?_eq_getElem h, Option.map_some]
  · rw [List.getElem?_eq_none (by simpa using h), List.getElem?_eq_none (by simpa using h)]
    rfl
theorem az_wl_len {V : az_V} {M : az_M} : (az_wl V M).length = az_n V := by simp [az_wl]
/-- more cells: address, kind, length of each -/
def az_x (V : az_V) (cs : List (Nat × Nat × Nat)) : az_V := (V.1, V.2.1, fun k => if k < az_n V then az_ad V k else (cs.getD (k - az_n V) (0, 0, 0)).1, (fun k => if k < az_n V then (az_sh V).1 k else (cs.getD (k - az_n V) (0, 0, 0)).2.1, fun k => if k < az_n V then (az_sh V).2 k else (cs.getD (k - az_n V) (0, 0, 0)).2.2), az_n V + cs.length, V.2.2.2.2.2)
/-- references stay within -/
def az_rok (V : az_V) (M : az_M) : Prop := (∀ k, k < az_n V → (az_sh V).1 k < 13 → ∀ j, az_fk (az_y ((az_sh V).1 k) j) = 2 → az_rt ((az_sh V).1 k) k j < az_n V) ∧ ∀ k, k < az_n V → 16 ≤ (az_sh V).1 k → ∀ j t, M.2.2 k j = some t → t < az_n V
/-- two memories with the same cells below n -/
def az_same (n : Nat) (M M' : az_M) : Prop := ∀ k, k < n → M'.1 k = M.1 k ∧ M'.2.1 k = M.2.1 k ∧ M'.2.2 k = M.2.2 k
theorem az_cell_x {V : az_V} {M M' : az_M} {cs : List (Nat × Nat × Nat)} {k : Nat} (hr : az_rok V M) (hs : az_same (az_n V) M M') (hk : k < az_n V) : az_cell (az_x V cs) M' k = az_cell V M k := by
  have h1 : (az_sh (az_x V cs)).1 k = (az_sh V).1 k := if_pos hk
  have h2 : (az_sh (az_x V cs)).2 k = (az_sh V).2 k := if_pos hk
  obtain ⟨s1, s2, s3⟩ := hs k hk
  simp only [az_cell, h1, h2]
  by_cases hc : (az_sh V).1 k < 13
  · rw [if_pos hc, if_pos hc]
    congr 2
    apply List.map_congr_left
    intro j _
    simp only [az_v, h1, s1, s2]
    have : ∀ z, az_fk (az_y ((az_sh V).1 k) j) = z → (match z with | 0 => Value.int (M.1 k j) | 1 => Value.long (M.2.1 k j) | _ => Value.ref (az_ad (az_x V cs) (az_rt ((az_sh V).1 k) k j))) = (match z with | 0 => Value.int (M.1 k j) | 1 => Value.long (M.2.1 k j) | _ => Value.ref (az_ad V (az_rt ((az_sh V).1 k) k j))) := by
      intro z hz
      match z, hz with
      | 0, _ => rfl
      | 1, _ => rfl
      | z + 2, hz =>
        have h2 : az_fk (az_y ((az_sh V).1 k) j) = 2 := by
          have : az_fk (az_y ((az_sh V).1 k) j) ≤ 2 := by
            generalize az_y ((az_sh V).1 k) j = ty
            cases ty <;> simp [az_fk]
          omega
        have hlt := hr.1 k hk hc j h2
        have : az_ad (az_x V cs) (az_rt ((az_sh V).1 k) k j) = az_ad V (az_rt ((az_sh V).1 k) k j) := if_pos (by omega)
        simp only [this]
    exact this _ rfl
  · rw [if_neg hc, if_neg hc]
    simp only [az_a, h1, s1, s2, s3]
    by_cases h14 : (az_sh V).1 k = 14
    · rw [if_pos h14, if_pos h14]; rfl
    · rw [if_neg h14, if_neg h14]
      by_cases h16 : (az_sh V).1 k < 16
      · rw [if_pos h16, if_pos h16]; rfl
      · rw [if_neg h16, if_neg h16]
        have : (fun j => Option.map (az_ad (az_x V cs)) (M.2.2 k j)) = (fun j => Option.map (az_ad V) (M.2.2 k j)) := by
          funext j
          cases ht : M.2.2 k j with
          | none => rfl
          | some t =>
            have hlt := hr.2 k hk (by omega) j t ht
            show some (az_ad (az_x V cs) t) = some (az_ad V t)
            exact congrArg some (if_pos (by omega))
        rw [this]
        rfl
theorem az_wl_x {V : az_V} {M M' : az_M} {cs : List (Nat × Nat × Nat)} (hr : az_rok V M) (hs : az_same (az_n V) M M') : az_wl (az_x V cs) M' = az_wl V M ++ (List.range cs.length).map (fun i => ((cs.getD i (0, 0, 0)).1, az_cell (az_x V cs) M' (az_n V + i))) := by
  show (List.range (az_n V + cs.length)).map _ = _
  rw [List.range_add, List.map_append, List.map_map]
  congr 1
  · apply List.map_congr_left
    intro k hk
    have hk := List.mem_range.mp hk
    rw [az_cell_x hr hs hk]
    congr 1
    exact if_pos hk
  · apply List.map_congr_left
    intro i _
    show (az_ad (az_x V cs) (az_n V + i), _) = _
    congr 1
    show (if az_n V + i < az_n V then _ else _) = _
    rw [if_neg (by omega), Nat.add_sub_cancel_left]
theorem az_x_kd {V : az_V} {cs : List (Nat × Nat × Nat)} (i : Nat) : (az_sh (az_x V cs)).1 (az_n V + i) = (cs.getD i (0, 0, 0)).2.1 := by
  show (if az_n V + i < az_n V then _ else _) = _
  rw [if_neg (by omega), Nat.add_sub_cancel_left]
theorem az_x_ln {V : az_V} {cs : List (Nat × Nat × Nat)} (i : Nat) : (az_sh (az_x V cs)).2 (az_n V + i) = (cs.getD i (0, 0, 0)).2.2 := by
  show (if az_n V + i < az_n V then _ else _) = _
  rw [if_neg (by omega), Nat.add_sub_cancel_left]
theorem az_x_ad {V : az_V} {cs : List (Nat × Nat × Nat)} (i : Nat) : az_ad (az_x V cs) (az_n V + i) = (cs.getD i (0, 0, 0)).1 := by
  show (if az_n V + i < az_n V then _ else _) = _
  rw [if_neg (by omega), Nat.add_sub_cancel_left]
theorem az_x_ad' {V : az_V} {cs : List (Nat × Nat × Nat)} {k : Nat} (h : k < az_n V) : az_ad (az_x V cs) k = az_ad V k := if_pos h
/-- the machine's side with other numbers of cells, slots -/
def az_Yc (Y : az_Y) (k n : Nat) : az_Y := (Y.1, Y.2.1, Y.2.2.1, Y.2.2.2.1, Y.2.2.2.2.1, Y.2.2.2.2.2.1, Y.2.2.2.2.2.2.1, Y.2.2.2.2.2.2.2.1, Y.2.2.2.2.2.2.2.2.1, Y.2.2.2.2.2.2.2.2.2.1, Y.2.2.2.2.2.2.2.2.2.2.1, k, n)
theorem kz_of_az {Y : az_Y} {V : az_V} {E : kz_D} {Q : State → Prop} {nL k n pc : Nat} {M : az_M} {ws : va_W} {lv : List (Nat × Value)} {st : List Value} (hE : E.1 = V.1) (h : ws = az_wl V M) (kk : AW (az_Yc Y k n) V Q nL M pc lv st) : KA Y E Q nL k n ws pc lv st := by
  subst h
  exact fun H locs ls hH hl => kk H locs ls ⟨hE ▸ hH.1, hH.2.1, hH.2.2⟩ hl
theorem az_of_kz {Y : az_Y} {V : az_V} {E : kz_D} {Q : State → Prop} {nL pc : Nat} {M : az_M} {lv : List (Nat × Value)} {st : List Value} (hE : E.1 = V.1) (kk : KA Y E Q nL Y.2.2.2.2.2.2.2.2.2.2.2.1 Y.2.2.2.2.2.2.2.2.2.2.2.2 (az_wl V M) pc lv st) : AW Y V Q nL M pc lv st :=
  fun H locs ls hH hl => kk H locs ls ⟨hE ▸ hH.1, hH.2.1, hH.2.2⟩ hl
theorem az_C.kz {Y : az_Y} {V : az_V} {cc : ByteArray} {nL : Nat} {own : String} {ret : Option FieldType} {d : Nat} (C : az_C Y V cc nL own ret d) : kz_C Y (V.1, V.2.1) cc nL own ret d :=
  ⟨C.1, C.hr, C.hlk, C.hK, C.hE.2.2.2.2, C.hA, C.hR.1, C.hR.2.1⟩
theorem az_C.ext {Y : az_Y} {V V' : az_V} {cc : ByteArray} {nL k n : Nat} {own : String} {ret : Option FieldType} {d : Nat} (C : az_C Y V cc nL own ret d) (h1 : V'.1 = V.1) (h2 : V'.2.1 = V.2.1) (h3 : V'.2.2.2.2.2 = V.2.2.2.2.2) (hL : az_L V') (hk : k ≤ Y.2.2.2.1.cells) (hn : n ≤ Y.2.2.2.1.slots) : az_C (az_Yc Y k n) V' cc nL own ret d := by
  refine ⟨C.1, C.hr, C.hlk, ?_, ?_, C.hA, ⟨C.hR.1, C.hR.2.1, hk, hn⟩, hL⟩
  · have hK := C.hK
    unfold az_tys at hK ⊢
    rw [h1, h2]
    exact hK
  · rw [h3]
    exact C.hE
theorem az_x_L {V : az_V} {cs : List (Nat × Nat × Nat)} (h : az_L V) : az_L (az_x V cs) := by
  refine ⟨Nat.le_trans h.1 (Nat.le_add_right _ _), fun k hk => ?_⟩
  have hlt : k < az_n V := Nat.lt_of_lt_of_le hk h.1
  have h1 : (az_sh (az_x V cs)).1 k = (az_sh V).1 k := if_pos hlt
  have h2 : (az_sh (az_x V cs)).2 k = (az_sh V).2 k := if_pos hlt
  rw [h1, h2]
  exact h.2 k hk
/-- a new object of a class without arguments, its constructor run: 'cs' says the new cells, M' the memory with them -/
theorem az_mk {Y : az_Y} {V : az_V} {cc : ByteArray} {nL : Nat} {own : String} {ret : Option FieldType} {d : Nat} {Q : State → Prop} {M M' : az_M} {pc : Nat} {lv : List (Nat × Value)} {rest : List Value} (C : az_C Y V cc nL own ret d) (hrok : az_rok V M) (hsame : az_same (az_n V) M M') {i1 i2 ci d' mL mc ms : Nat} {y : MethodName} {bt : ByteArray} {fs : List Value} {post : Nat → va_W → Prop} (ln : kz_ln own i1 ci) (hfs : ∀ j, j < az_N ci → defaultValue (az_y ci j) = vp_V fs j) (lk : kz_lN own i2 y bt mL 0) (hM : ∀ q, kz_Ct Y.2.1 (V.1, V.2.1) y bt mL d' mc ms [.ref q] [(q, .inr (ci, fs))] (post q)) (hd : d' + 1 ≤ d)
    (hc : Y.2.2.2.2.2.2.2.2.2.2.2.1 + 1 + mc ≤ Y.2.2.2.1.cells) (hs : Y.2.2.2.2.2.2.2.2.2.2.2.2 + az_N ci + ms ≤ Y.2.2.2.1.slots) (hr : ((Value.ref 0 :: rest).map fun v => v.category).sum ≤ 8)
    (h1 : decode cc pc = .ok (.new i1, 3)) (h2 : decode cc (pc + 3) = .ok (.dup, 1)) (h3 : decode cc (pc + 3 + 1) = .ok (.invokespecial i2, 3))
    (hw : ∀ q w, post q w → ∃ cs : List (Nat × Nat × Nat), (cs.getD 0 (0, 0, 0)).1 = q ∧ w = (List.range cs.length).map (fun i => ((cs.getD i (0, 0, 0)).1, az_cell (az_x V cs) M' (az_n V + i))) ∧ AW (az_Yc Y (Y.2.2.2.2.2.2.2.2.2.2.2.1 + 1 + mc) (Y.2.2.2.2.2.2.2.2.2.2.2.2 + az_N ci + ms)) (az_x V cs) Q nL M' (pc + 3 + 1 + 3) lv (.ref (az_ad (az_x V cs) (az_n V)) :: rest)) : AW Y V Q nL M pc lv rest := by
  refine az_of_kz (E := (V.1, V.2.1)) rfl ?_
  have K := C.kz
  refine kz_new K ln hfs (by omega) (by omega) h1 (fun q => ?_)
  refine kz_dup K h2 rfl ?_
  have hlen : (az_wl V M).length = az_n V := az_wl_len
  refine kz_initN (wr := az_wl V M) (wc := [(q, .inr (ci, fs))]) (rest := .ref q :: rest) K [] (hM q) hd lk [az_n V] (List.range (az_wl V M).length) rfl (by rw [← hlen]; simp) (rz_map _ _) (rz_nd _) (by intro i hi; have := List.mem_range.mp hi; simp; omega) rfl rfl (by simpa [Value.category] using hr) h3 hc hs (fun w1 hp => ?_)
  obtain ⟨cs, e1, e2, kk⟩ := hw q w1 hp
  refine kz_of_az (V := az_x V cs) (M := M') rfl (by rw [az_wl_x hrok hsame, e2]) ?_
  have e3 : az_ad (az_x V cs) (az_n V) = q := (az_x_ad (V := V) (cs := cs) 0).trans e1
  rw [e3] at kk
  exact kk
