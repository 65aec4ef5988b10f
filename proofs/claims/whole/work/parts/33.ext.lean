/-! NEW CELLS BEHIND A WORLD -/
theorem rz_nd : ∀ n, va_nd (List.range n) = true := by
  have h : ∀ l : List Nat, l.Nodup → va_nd l = true := by
    intro l
    induction l with
    | nil => intro _; rfl
    | cons a l ih =>
      intro h
      have h := List.nodup_cons.mp h
      simp only [va_nd, ih h.2, Bool.and_true]
      simpa using h.1
  exact fun n => h _ List.nodup_range
theorem rz_map {α : Type} (ws t : List α) : (List.range ws.length).map (fun i => (ws ++ t)[i]?) = ws.map some := by
  apply List.ext_getElem?
  intro i
  rw [List.getElem?_map, List.getElem?_map]
  by_cases h : i < ws.length
  · rw [List.getElem?_range h, Option.map_some, List.getElem?_append_left h, List.getElem?_eq_getElem h, Option.map_some]
  · rw [List.getElem?_eq_none (by simpa using h), List.getElem?_eq_none (by simpa using h)]
    rfl
theorem az_wl_len {V : az_V} {M : az_M} : (az_wl V M).length = az_n V := by simp [az_wl]
/-- one more cell: its address, kind, length -/
def az_x (V : az_V) (q kd len : Nat) : az_V := (V.1, V.2.1, va_up (az_ad V) (az_n V) q, (va_up (az_sh V).1 (az_n V) kd, va_up (az_sh V).2 (az_n V) len), az_n V + 1, V.2.2.2.2.2)
/-- references stay within -/
def az_rok (V : az_V) (M : az_M) : Prop := (∀ k, k < az_n V → (az_sh V).1 k < 13 → ∀ j, az_fk (az_y ((az_sh V).1 k) j) = 2 → az_rt ((az_sh V).1 k) k j < az_n V) ∧ ∀ k, k < az_n V → 16 ≤ (az_sh V).1 k → ∀ j t, M.2.2 k j = some t → t < az_n V
/-- two memories with the same cells below n -/
def az_same (n : Nat) (M M' : az_M) : Prop := ∀ k, k < n → M'.1 k = M.1 k ∧ M'.2.1 k = M.2.1 k ∧ M'.2.2 k = M.2.2 k
theorem az_cell_x {V : az_V} {M M' : az_M} {q kd len k : Nat} (hr : az_rok V M) (hs : az_same (az_n V) M M') (hk : k < az_n V) : az_cell (az_x V q kd len) M' k = az_cell V M k := by
  have hne : k ≠ az_n V := by omega
  have h1 : (az_sh (az_x V q kd len)).1 k = (az_sh V).1 k := if_neg hne
  have h2 : (az_sh (az_x V q kd len)).2 k = (az_sh V).2 k := if_neg hne
  obtain ⟨s1, s2, s3⟩ := hs k hk
  simp only [az_cell, h1, h2]
  by_cases hc : (az_sh V).1 k < 13
  · rw [if_pos hc, if_pos hc]
    congr 2
    apply List.map_congr_left
    intro j _
    simp only [az_v, h1, s1, s2]
    have : ∀ z, az_fk (az_y ((az_sh V).1 k) j) = z → (match z with | 0 => Value.int (M.1 k j) | 1 => Value.long (M.2.1 k j) | _ => Value.ref (az_ad (az_x V q kd len) (az_rt ((az_sh V).1 k) k j))) = (match z with | 0 => Value.int (M.1 k j) | 1 => Value.long (M.2.1 k j) | _ => Value.ref (az_ad V (az_rt ((az_sh V).1 k) k j))) := by
      intro z hz
      match z, hz with
      | 0, _ => rfl
      | 1, _ => rfl
      | z + 2, hz =>
        have h2 : az_fk (az_y ((az_sh V).1 k) j) = 2 := by
          have : az_fk (az_y ((az_sh V).1 k) j) ≤ 2 := by
            generalize az_y ((az_sh V).1 k) j = ty
            cases ty <;> simp [az_fk]
          omega
        have hlt := hr.1 k hk hc j h2
        have : az_ad (az_x V q kd len) (az_rt ((az_sh V).1 k) k j) = az_ad V (az_rt ((az_sh V).1 k) k j) := if_neg (by omega)
        simp only [this]
    exact this _ rfl
  · rw [if_neg hc, if_neg hc]
    simp only [az_a, h1, s1, s2, s3]
    by_cases h14 : (az_sh V).1 k = 14
    · rw [if_pos h14, if_pos h14]; rfl
    · rw [if_neg h14, if_neg h14]
      by_cases h16 : (az_sh V).1 k < 16
      · rw [if_pos h16, if_pos h16]; rfl
      · rw [if_neg h16, if_neg h16]
        have : (fun j => Option.map (az_ad (az_x V q kd len)) (M.2.2 k j)) = (fun j => Option.map (az_ad V) (M.2.2 k j)) := by
          funext j
          cases ht : M.2.2 k j with
          | none => rfl
          | some t =>
            have hlt := hr.2 k hk (by omega) j t ht
            show some (az_ad (az_x V q kd len) t) = some (az_ad V t)
            exact congrArg some (if_neg (by omega))
        rw [this]
        rfl
theorem az_wl_x {V : az_V} {M M' : az_M} {q kd len : Nat} (hr : az_rok V M) (hs : az_same (az_n V) M M') : az_wl (az_x V q kd len) M' = az_wl V M ++ [(q, az_cell (az_x V q kd len) M' (az_n V))] := by
  show (List.range (az_n V + 1)).map _ = _
  rw [List.range_succ, List.map_append]
  congr 1
  · apply List.map_congr_left
    intro k hk
    have hk := List.mem_range.mp hk
    rw [az_cell_x hr hs hk]
    congr 1
    exact if_neg (by omega)
  · show [(va_up (az_ad V) (az_n V) q (az_n V), _)] = _
    simp [va_up]
/-- the machine's side with other numbers of cells, slots -/
def az_Yc (Y : az_Y) (k n : Nat) : az_Y := (Y.1, Y.2.1, Y.2.2.1, Y.2.2.2.1, Y.2.2.2.2.1, Y.2.2.2.2.2.1, Y.2.2.2.2.2.2.1, Y.2.2.2.2.2.2.2.1, Y.2.2.2.2.2.2.2.2.1, Y.2.2.2.2.2.2.2.2.2.1, Y.2.2.2.2.2.2.2.2.2.2.1, k, n)
theorem kz_of_az {Y : az_Y} {V : az_V} {E : kz_D} {Q : State → Prop} {nL k n pc : Nat} {M : az_M} {ws : va_W} {lv : List (Nat × Value)} {st : List Value} (hE : E.1 = V.1) (h : ws = az_wl V M) (kk : AW (az_Yc Y k n) V Q nL M pc lv st) : KA Y E Q nL k n ws pc lv st := by
  subst h
  exact fun H locs ls hH hl => kk H locs ls ⟨hE ▸ hH.1, hH.2.1, hH.2.2⟩ hl
theorem az_of_kz {Y : az_Y} {V : az_V} {E : kz_D} {Q : State → Prop} {nL pc : Nat} {M : az_M} {lv : List (Nat × Value)} {st : List Value} (hE : E.1 = V.1) (kk : KA Y E Q nL Y.2.2.2.2.2.2.2.2.2.2.2.1 Y.2.2.2.2.2.2.2.2.2.2.2.2 (az_wl V M) pc lv st) : AW Y V Q nL M pc lv st :=
  fun H locs ls hH hl => kk H locs ls ⟨hE ▸ hH.1, hH.2.1, hH.2.2⟩ hl
theorem az_C.kz {Y : az_Y} {V : az_V} {cc : ByteArray} {nL : Nat} {own : String} {ret : Option FieldType} {d : Nat} (C : az_C Y V cc nL own ret d) : kz_C Y (V.1, V.2.1) cc nL own ret d :=
  ⟨C.1, C.hr, C.hlk, C.hK, C.hE.2.2.2.2, C.hA, C.hR.1, C.hR.2.1⟩
theorem az_C.ext {Y : az_Y} {V V' : az_V} {cc : ByteArray} {nL k n : Nat} {own : String} {ret : Option FieldType} {d : Nat} (C : az_C Y V cc nL own ret d) (h1 : V'.1 = V.1) (h2 : V'.2.1 = V.2.1) (h3 : V'.2.2.2.2.2 = V.2.2.2.2.2) (hL : az_L V') (hk : k ≤ Y.2.2.2.1.cells) (hn : n ≤ Y.2.2.2.1.slots) : az_C (az_Yc Y k n) V' cc nL own ret d := by
  refine ⟨C.1, C.hr, C.hlk, ?_, ?_, C.hA, ⟨C.hR.1, C.hR.2.1, hk, hn⟩, hL⟩
  · have hK := C.hK
    unfold az_tys at hK ⊢
    rw [h1, h2]
    exact hK
  · rw [h3]
    exact C.hE
theorem az_x_L {V : az_V} {q kd len : Nat} (h : az_L V) : az_L (az_x V q kd len) := by
  refine ⟨Nat.le_succ_of_le h.1, fun k hk => ?_⟩
  have hne : k ≠ az_n V := by have := h.1; omega
  have h1 : (az_sh (az_x V q kd len)).1 k = (az_sh V).1 k := if_neg hne
  have h2 : (az_sh (az_x V q kd len)).2 k = (az_sh V).2 k := if_neg hne
  rw [h1, h2]
  exact h.2 k hk
