/-! helpers of the printed proofs -/
theorem az_t {c : Prop} [Decidable c] {α : Type} {a b x : α} (hc : c) (h : (if c then a else b) = x) : a = x := by rw [if_pos hc] at h; exact h
theorem az_f {c : Prop} [Decidable c] {α : Type} {a b x : α} (hc : ¬ c) (h : (if c then a else b) = x) : b = x := by rw [if_neg hc] at h; exact h
theorem az_g {c : Prop} [Decidable c] {α : Type} {k : Option α} {r : α} (h : (if c then none else k) = some r) : ¬ c ∧ k = some r := by
  by_cases hc : c
  · rw [if_pos hc] at h; cases h
  · rw [if_neg hc] at h; exact ⟨hc, h⟩
theorem az_g2 {c : Prop} [Decidable c] {α : Type} {k : Option α} {r : α} (h : (if c then k else none) = some r) : c ∧ k = some r := by
  by_cases hc : c
  · rw [if_pos hc] at h; exact ⟨hc, h⟩
  · rw [if_neg hc] at h; cases h
theorem az_b {α β : Type} {o : Option α} {k : α → Option β} {r : β} (h : o.bind k = some r) : ∃ q, o = some q ∧ k q = some r := Option.bind_eq_some_iff.mp h
theorem az_nz {v : Int32} (h : v = 0 ∨ v = 1) : narrow .boolean (.int v) = .int v := by rcases h with rfl | rfl <;> rfl
theorem az_fz {v : Int32} (h : v = 0 ∨ v = 1) : fits .boolean (.int v) = true := by rcases h with rfl | rfl <;> rfl
theorem az_vz {v : Int32} (h : v = 0 ∨ v = 1) : vp_nar .boolean v = v := by rcases h with rfl | rfl <;> rfl
def az_rem (x y : Int32) : Int32 := x - x / y * y
def az_reml (x y : Int64) : Int64 := x - x / y * y
theorem az_c_lt {x y : Int64} : lg_cmp x y < 0 ↔ x < y := lg_cmp_lt x y
theorem az_c_le {x y : Int64} : lg_cmp x y ≤ 0 ↔ x ≤ y := lg_cmp_le x y
theorem az_c_gt {x y : Int64} : 0 < lg_cmp x y ↔ y < x := lg_cmp_gt x y
theorem az_c_ge {x y : Int64} : 0 ≤ lg_cmp x y ↔ y ≤ x := lg_cmp_ge x y
theorem az_c_eq {x y : Int64} : lg_cmp x y = 0 ↔ x = y := lg_cmp_eq x y
section AZH
variable {Y : az_Y} {V : az_V} {cc : ByteArray} {nL : Nat} {own : String} {ret : Option FieldType} {d : Nat} {Q : State → Prop} {M : az_M} {pc : Nat} {lv lv' : List (Nat × Value)} {rest : List Value}
theorem az_irem2 (C : az_C Y V cc nL own ret d) {x y : Int32} (hdg : decode cc pc = .ok (.irem, 1)) (hne : ¬ y = 0) (k : AW Y V Q nL M (pc + 1) lv (.int (az_rem x y) :: rest)) : AW Y V Q nL M pc lv (.int y :: .int x :: rest) := az_irem C hdg hne k
theorem az_lrem2 (C : az_C Y V cc nL own ret d) {x y : Int64} (hdg : decode cc pc = .ok (.lrem, 1)) (hne : ¬ y = 0) (k : AW Y V Q nL M (pc + 1) lv (.long (az_reml x y) :: rest)) : AW Y V Q nL M pc lv (.long y :: .long x :: rest) := az_lrem C hdg hne k
theorem az_ild (C : az_C Y V cc nL own ret d) {a len k : Nat} (ha : az_ar V a 0 len) {i : Int32} (hin : vp_in i len) (hk : i.toNatClampNeg = k) (hdg : decode cc pc = .ok (.iaload, 1)) (kk : AW Y V Q nL M (pc + 1) lv (.int (M.1 a k) :: rest)) : AW Y V Q nL M pc lv (.int i :: .ref (az_ad V a) :: rest) := by
  subst hk; exact az_iald C ha hin hdg kk
theorem az_zld (C : az_C Y V cc nL own ret d) {a len k : Nat} (ha : az_ar V a 2 len) {i : Int32} (hin : vp_in i len) (hk : i.toNatClampNeg = k) (hdg : decode cc pc = .ok (.baload, 1)) (kk : AW Y V Q nL M (pc + 1) lv (.int (M.1 a k) :: rest)) : AW Y V Q nL M pc lv (.int i :: .ref (az_ad V a) :: rest) := by
  subst hk; exact az_zald C ha hin hdg kk
theorem az_lld (C : az_C Y V cc nL own ret d) {a len k : Nat} (ha : az_ar V a 1 len) {i : Int32} (hin : vp_in i len) (hk : i.toNatClampNeg = k) (hdg : decode cc pc = .ok (.laload, 1)) (kk : AW Y V Q nL M (pc + 1) lv (.long (M.2.1 a k) :: rest)) : AW Y V Q nL M pc lv (.int i :: .ref (az_ad V a) :: rest) := by
  subst hk; exact az_lald C ha hin hdg kk
theorem az_ist (C : az_C Y V cc nL own ret d) {a len k : Nat} (ha : az_ar V a 0 len) {i x : Int32} (hin : vp_in i len) (hk : i.toNatClampNeg = k) (hdg : decode cc pc = .ok (.iastore, 1)) (kk : AW Y V Q nL (az_i M a k x) (pc + 1) lv rest) : AW Y V Q nL M pc lv (.int x :: .int i :: .ref (az_ad V a) :: rest) := by
  subst hk; exact az_iast C ha hin hdg kk
theorem az_zst (C : az_C Y V cc nL own ret d) {a len k : Nat} (ha : az_ar V a 2 len) {i x : Int32} (hin : vp_in i len) (hk : i.toNatClampNeg = k) (hx : vp_nar .boolean x = x) (hdg : decode cc pc = .ok (.bastore, 1)) (kk : AW Y V Q nL (az_i M a k x) (pc + 1) lv rest) : AW Y V Q nL M pc lv (.int x :: .int i :: .ref (az_ad V a) :: rest) := by
  subst hk; exact az_zast C ha hin hx hdg kk
theorem az_lst (C : az_C Y V cc nL own ret d) {a len k : Nat} (ha : az_ar V a 1 len) {i : Int32} {x : Int64} (hin : vp_in i len) (hk : i.toNatClampNeg = k) (hdg : decode cc pc = .ok (.lastore, 1)) (kk : AW Y V Q nL (az_l M a k x) (pc + 1) lv rest) : AW Y V Q nL M pc lv (.long x :: .int i :: .ref (az_ad V a) :: rest) := by
  subst hk; exact az_last C ha hin hdg kk
end AZH
theorem az_vin {i : Int32} {n : Nat} (h : ¬ (i < 0 ∨ n ≤ i.toNatClampNeg)) : vp_in i n := h
section AZK
variable {Y : az_Y} {V : az_V} {cc : ByteArray} {nL : Nat} {own : String} {ret : Option FieldType} {d : Nat} {Q : State → Prop} {M : az_M} {pc : Nat} {lv lv' : List (Nat × Value)} {rest : List Value}
theorem az_cV (C : az_C Y V cc nL own ret d) {idx b ci n d' mL : Nat} {y : MethodName} {bt : ByteArray} {rt : Option FieldType} {v0 : Option Value} {M2 : az_M} {st st2 : List Value} (As : List Value) (hM : az_Ct Y.2.1 V y bt mL rt d' (.ref (az_ad V b) :: As) M (fun v M' => v = v0 ∧ M' = M2)) (hd : d' + 1 ≤ d) (lk : az_lV own idx (az_R ci) y bt mL rt n) (hb : az_at V b ci) (hc : ci < 13) (hst : st = As.reverse ++ .ref (az_ad V b) :: rest) (hn : As.length = n) (hr : (rest.map fun v => v.category).sum ≤ 8) (hdg : decode cc pc = .ok (.invokevirtual idx, 3)) (h2 : v0.toList ++ rest = st2) (k : AW Y V Q nL M2 (pc + 3) lv st2) : AW Y V Q nL M pc lv st :=
  az_callV C As hM hd lk hb hc hst hn hr hdg (fun v M' hv => by rw [hv.1, hv.2, h2]; exact k)
theorem az_cS (C : az_C Y V cc nL own ret d) {idx n d' mL : Nat} {y : MethodName} {bt : ByteArray} {rt : Option FieldType} {v0 : Option Value} {M2 : az_M} {st st2 : List Value} (As : List Value) (hM : az_Ct Y.2.1 V y bt mL rt d' As M (fun v M' => v = v0 ∧ M' = M2)) (hd : d' + 1 ≤ d) (lk : az_lS own idx y bt mL rt n) (hst : st = As.reverse ++ rest) (hn : As.length = n) (hr : (rest.map fun v => v.category).sum ≤ 8) (hdg : decode cc pc = .ok (.invokestatic idx, 3)) (h2 : v0.toList ++ rest = st2) (k : AW Y V Q nL M2 (pc + 3) lv st2) : AW Y V Q nL M pc lv st :=
  az_callS C As hM hd lk hst hn hr hdg (fun v M' hv => by rw [hv.1, hv.2, h2]; exact k)
end AZK
