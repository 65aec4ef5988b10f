/-! THE LOGIC: AW, a frame of a method over a memory; az_C, what stays the same in a method; az_Ct, a contract -/
/-- the String constants: entries, texts, bytes, lengths -/
def az_zi : List Nat := [62, 79, 81, 83, 88, 93, 101, 113, 119, 133, 135]
def az_zt : List String := ["aims wears flattens prices bars", "fire duel rest", "at", "by", "times", "if", "or", "and", "not", "now weight flat rust done ended hurt dents", "person aim place kind hard dents weight flat rust day mood"]
def az_zb : List (List Int32) := [[97, 105, 109, 115, 32, 119, 101, 97, 114, 115, 32, 102, 108, 97, 116, 116, 101, 110, 115, 32, 112, 114, 105, 99, 101, 115, 32, 98, 97, 114, 115], [102, 105, 114, 101, 32, 100, 117, 101, 108, 32, 114, 101, 115, 116], [97, 116], [98, 121], [116, 105, 109, 101, 115], [105, 102], [111, 114], [97, 110, 100], [110, 111, 116], [110, 111, 119, 32, 119, 101, 105, 103, 104, 116, 32, 102, 108, 97, 116, 32, 114, 117, 115, 116, 32, 100, 111, 110, 101, 32, 101, 110, 100, 101, 100, 32, 104, 117, 114, 116, 32, 100, 101, 110, 116, 115], [112, 101, 114, 115, 111, 110, 32, 97, 105, 109, 32, 112, 108, 97, 99, 101, 32, 107, 105, 110, 100, 32, 104, 97, 114, 100, 32, 100, 101, 110, 116, 115, 32, 119, 101, 105, 103, 104, 116, 32, 102, 108, 97, 116, 32, 114, 117, 115, 116, 32, 100, 97, 121, 32, 109, 111, 111, 100]]
def az_zl : List Nat := [31, 14, 2, 2, 5, 2, 2, 3, 3, 42, 58]
/-- the links between nest mates -/
def az_nw : List (String × Nat × MethodName) := [("OneBullet", 13, ⟨"OneBullet$Province", "<init>", "()V"⟩), ("OneBullet", 20, ⟨"OneBullet$Book", "<init>", "()V"⟩), ("OneBullet", 27, ⟨"OneBullet$Tape", "<init>", "()V"⟩), ("OneBullet", 34, ⟨"OneBullet$Past", "<init>", "()V"⟩), ("OneBullet", 66, ⟨"OneBullet$Reckoner", "<init>", "()V"⟩), ("OneBullet$Deeds", 11, ⟨"OneBullet$Province", "<init>", "()V"⟩), ("OneBullet$Deeds", 20, ⟨"OneBullet$Past", "<init>", "()V"⟩), ("OneBullet$Paper", 21, ⟨"OneBullet$Province", "<init>", "()V"⟩), ("OneBullet$Rows", 11, ⟨"OneBullet$Province", "<init>", "()V"⟩)]
def az_Nw (U : State) : Prop := va_Nw (.fieldLinkNest "OneBullet$Rules" 54 "OneBullet" "TOLD_MOST" "[I" "OneBullet") U ∧ (∀ q ∈ az_nw, va_Nw (.methodLinkNest q.1 q.2.1 q.2.2 "OneBullet") U) ∧ va_AO "OneBullet$Text" U ∧ va_AO "OneBullet$Province" U ∧ va_AO "OneBullet$Book" U
theorem az_Nw.same {u U : State} (hv : U.vm = u.vm) (h : az_Nw u) : az_Nw U := ⟨h.1.same rfl hv.symm, fun q hq => (h.2.1 q hq).same rfl hv.symm, h.2.2.1.moved (hv ▸ Vm.Alike.refl U.vm), h.2.2.2.1.moved (hv ▸ Vm.Alike.refl U.vm), h.2.2.2.2.moved (hv ▸ Vm.Alike.refl U.vm)⟩
theorem az_Nw.warm {s U : State} (hW : s.WarmedH U.vm) (h : az_Nw s) : az_Nw U := ⟨h.1.warmF hW, fun q hq => (h.2.1 q hq).warmM hW, h.2.2.1.moved hW.alike, h.2.2.2.1.moved hW.alike, h.2.2.2.2.moved hW.alike⟩
def az_E (g : Nat → Nat) (A : Nat → Prop) (U : State) (H : Heap) : Prop := (∀ i, i < 4 → va_Z "OneBullet" (az_st i) "[I" (.ref (g i)) A U H ∧ va_T .int (g i) (az_sl i).length (fun j => .int ((az_sl i).getD j 0)) A U H) ∧ (vk_S 11 az_zl az_zb (fun i => g (10 + i)) (fun i => g (30 + i)) A U H ∧ ∀ i, i < 11 → vk_R "OneBullet$Reader" (az_zi.getD i 0) (az_zt.getD i "") (g (10 + i)) U) ∧ va_Z "java/lang/String" "COMPACT_STRINGS" "Z" (.int 1) A U H ∧ va_Zq "jdk/internal/util/Preconditions" "SIOOBE_FORMATTER" "Ljava/util/function/BiFunction;" A U H ∧ az_Nw U
theorem az_E.same {g : Nat → Nat} {A : Nat → Prop} {u U : State} {H : Heap} (hv : U.vm = u.vm) (h : az_E g A u H) : az_E g A U H := by
  have hvm : u.vm.Alike U.vm := hv ▸ Vm.Alike.refl U.vm
  exact ⟨fun i hi => ⟨(h.1 i hi).1.moved hvm, (h.1 i hi).2.moved hvm⟩, ⟨h.2.1.1.moved hvm, fun i hi => (h.2.1.2 i hi).same hv⟩, h.2.2.1.moved hvm, h.2.2.2.1.moved hvm, h.2.2.2.2.same hv⟩
theorem az_E.warm {g : Nat → Nat} {A : Nat → Prop} {s U : State} {H : Heap} (hW : s.WarmedH U.vm) (h : az_E g A s H) : az_E g A U H :=
  ⟨fun i hi => ⟨(h.1 i hi).1.moved hW.alike, (h.1 i hi).2.moved hW.alike⟩, ⟨h.2.1.1.moved hW.alike, fun i hi => (h.2.1.2 i hi).warm hW⟩, h.2.2.1.moved hW.alike, h.2.2.2.1.moved hW.alike, h.2.2.2.2.warm hW⟩
theorem az_E.kept {g : Nat → Nat} {A : Nat → Prop} {U : State} {H H1 : Heap} (h : az_E g A U H) (hq : ∀ a : Nat, a < H.size → ¬ A a → H1[a]? = H[a]?) : az_E g A U H1 := ⟨fun i hi => ⟨(h.1 i hi).1.kept hq, (h.1 i hi).2.kept hq⟩, ⟨h.2.1.1.kept hq, h.2.1.2⟩, h.2.2.1.kept hq, h.2.2.2.1.kept hq, h.2.2.2.2⟩
theorem az_E.narrow {g : Nat → Nat} {A B : Nat → Prop} {U : State} {H : Heap} (h : az_E g A U H) (hAB : ∀ q, B q → A q) : az_E g B U H := ⟨fun i hi => ⟨(h.1 i hi).1.narrow hAB, (h.1 i hi).2.narrow hAB⟩, ⟨h.2.1.1.narrow hAB, h.2.1.2⟩, h.2.2.1.narrow hAB, h.2.2.2.1.narrow hAB, h.2.2.2.2⟩
/-- the machine's side: program, launch, environment, room, state at entry, method, arguments, frames below, method, code, what may change, cells and slots made -/
abbrev az_Y : Type := Program × Launch × Env × Room × State × MethodId × Array Value × List Frame × Method × Code × (Nat → Prop) × Nat × Nat
abbrev az_s (Y : az_Y) : State := Y.2.2.2.2.1
abbrev az_m (Y : az_Y) : MethodId := Y.2.2.2.2.2.1
abbrev az_args (Y : az_Y) : Array Value := Y.2.2.2.2.2.2.1
abbrev az_below (Y : az_Y) : List Frame := Y.2.2.2.2.2.2.2.1
abbrev az_meth (Y : az_Y) : Method := Y.2.2.2.2.2.2.2.2.1
abbrev az_c (Y : az_Y) : Code := Y.2.2.2.2.2.2.2.2.2.1
abbrev az_A (Y : az_Y) : Nat → Prop := Y.2.2.2.2.2.2.2.2.2.2.1
abbrev az_W (Y : az_Y) (H : Heap) (locs : List Loc) (Q : State → Prop) (g : JFrame) : Prop :=
  W Y.1 Y.2.1 Y.2.2.1 Y.2.2.2.1 (az_s Y) (az_m Y) (az_args Y) (az_below Y) (az_meth Y) (az_c Y) H locs Y.2.2.2.2.2.2.2.2.2.2.2.1 Y.2.2.2.2.2.2.2.2.2.2.2.2 Q g
/-- the world stands in a heap -/
def az_H (Y : az_Y) (V : az_V) (M : az_M) (H : Heap) (locs : List Loc) : Prop := va_P V.1 az_cl (az_wl V M) H ∧ va_D (az_A Y) (az_wl V M) ∧ va_S (az_A Y) (az_s Y).heap H locs
def AW (Y : az_Y) (V : az_V) (Q : State → Prop) (nL : Nat) (M : az_M) (pc : Nat) (lv : List (Nat × Value)) (st : List Value) : Prop :=
  ∀ (H : Heap) (locs : List Loc) (ls : Array Slot), az_H Y V M H locs → lv_has ls nL lv → az_W Y H locs Q (F0 (az_m Y) pc ls st)
/-- the cells that stand from the constructors on -/
def az_L (V : az_V) : Prop := 71 ≤ az_n V ∧ ∀ k, k < 71 → (az_sh V).1 k = az_kd.getD k 0 ∧ (az_sh V).2 k = az_ln.getD k 0
theorem az_L.at {V : az_V} (h : az_L V) (k : Nat) {ci : Nat} (hk : decide (k < 71) && decide (az_kd.getD k 0 = ci) = true) : az_at V k ci := by
  simp only [Bool.and_eq_true, decide_eq_true_eq] at hk
  exact ⟨Nat.lt_of_lt_of_le hk.1 h.1, (h.2 k hk.1).1.trans hk.2⟩
theorem az_L.ar {V : az_V} (h : az_L V) (k : Nat) {t len : Nat} (hk : decide (k < 71) && decide (az_kd.getD k 0 = 13 + t) && decide (az_ln.getD k 0 = len) = true) : az_ar V k t len := by
  simp only [Bool.and_eq_true, decide_eq_true_eq] at hk
  exact ⟨Nat.lt_of_lt_of_le hk.1.1 h.1, (h.2 k hk.1.1).1.trans hk.1.2, (h.2 k hk.1.1).2.trans hk.2⟩
def az_C (Y : az_Y) (V : az_V) (cc : ByteArray) (nL : Nat) (own : String) (ret : Option FieldType) (d : Nat) : Prop :=
  CallFix Y.1 (az_m Y) (az_c Y) cc nL (az_s Y) (az_args Y) az_B own ∧ (az_meth Y).sig.returnType = ret ∧ (az_meth Y).locks = false ∧ va_K V.1 az_cl (az_tys V) (az_s Y) ∧ az_E V.2.2.2.2.2 (az_A Y) (az_s Y) (az_s Y).heap ∧ (∀ q, (az_s Y).heap.size ≤ q → az_A Y q) ∧ (d ≤ Y.2.2.2.1.frames ∧ 100 * d ≤ Y.2.2.2.1.locals ∧ Y.2.2.2.2.2.2.2.2.2.2.2.1 ≤ Y.2.2.2.1.cells ∧ Y.2.2.2.2.2.2.2.2.2.2.2.2 ≤ Y.2.2.2.1.slots) ∧ az_L V
section AZC
variable {Y : az_Y} {V : az_V} {cc : ByteArray} {nL : Nat} {own : String} {ret : Option FieldType} {d : Nat}
theorem az_C.hx (C : az_C Y V cc nL own ret d) : Y.1.tables.exec = Jvm.exec := C.1.1
theorem az_C.hb (C : az_C Y V cc nL own ret d) : (az_c Y).code = cc := C.1.2.1
theorem az_C.hml (C : az_C Y V cc nL own ret d) : (az_c Y).maxLocals = nL := C.1.2.2.1
theorem az_C.hown (C : az_C Y V cc nL own ret d) : (az_s Y).vm.findClass own = some (az_m Y).cls := C.1.2.2.2.1
theorem az_C.hts (C : az_C Y V cc nL own ret d) : ∀ w ∈ az_B, w.before (az_args Y) (az_s Y) = true := C.1.2.2.2.2
theorem az_C.hr (C : az_C Y V cc nL own ret d) : (az_meth Y).sig.returnType = ret := C.2.1
theorem az_C.hlk (C : az_C Y V cc nL own ret d) : (az_meth Y).locks = false := C.2.2.1
theorem az_C.hK (C : az_C Y V cc nL own ret d) : va_K V.1 az_cl (az_tys V) (az_s Y) := C.2.2.2.1
theorem az_C.hE (C : az_C Y V cc nL own ret d) : az_E V.2.2.2.2.2 (az_A Y) (az_s Y) (az_s Y).heap := C.2.2.2.2.1
theorem az_C.hA (C : az_C Y V cc nL own ret d) : ∀ q, (az_s Y).heap.size ≤ q → az_A Y q := C.2.2.2.2.2.1
theorem az_C.hR (C : az_C Y V cc nL own ret d) : d ≤ Y.2.2.2.1.frames ∧ 100 * d ≤ Y.2.2.2.1.locals ∧ Y.2.2.2.2.2.2.2.2.2.2.2.1 ≤ Y.2.2.2.1.cells ∧ Y.2.2.2.2.2.2.2.2.2.2.2.2 ≤ Y.2.2.2.1.slots := C.2.2.2.2.2.2.1
theorem az_C.hL (C : az_C Y V cc nL own ret d) : az_L V := C.2.2.2.2.2.2.2
end AZC
/-- what a contract's free cells are -/
def az_F (V : az_V) (sz : Nat) : Nat → Prop := fun q => (∃ k, k < az_n V ∧ q = az_ad V k) ∨ sz ≤ q
def az_pre (V : az_V) (M : az_M) (sz : Nat) (U : State) : Prop := U.heap.size = sz ∧ va_P V.1 az_cl (az_wl V M) U.heap ∧ va_K V.1 az_cl (az_tys V) U ∧ va_D (fun _ => True) (az_wl V M) ∧ az_E V.2.2.2.2.2 (az_F V sz) U U.heap ∧ az_L V
def az_Q (V : az_V) (post : Option Value → az_M → Prop) (A : Nat → Prop) : Array Value → State → Outcome → State → Prop := fun _ st oc t => (∃ (v : Option Value) (M : az_M), oc = .returned v ∧ post v M ∧ va_P V.1 az_cl (az_wl V M) t.heap ∧ va_D A (az_wl V M)) ∧ va_F A st t
def az_rm (d : Nat) : Room := { frames := d, cells := 0, slots := 0, locals := 100 * d }
def az_Ct (l : Launch) (V : az_V) (y : MethodName) (bt : ByteArray) (mL : Nat) (ret : Option FieldType) (d : Nat) (av : List Value) (M : az_M) (post : Option Value → az_M → Prop) : Prop :=
  ∀ sz, Met l y (.code y bt mL ret :: az_B) (az_rm d) (va_Pc av (az_pre V M sz)) (az_Q V post (az_F V sz)) 0 0 (az_F V sz)
def az_end (Y : az_Y) (V : az_V) (post : Option Value → az_M → Prop) : State → Prop := MQ (az_below Y) (az_Q V post (az_A Y)) (az_args Y) (az_s Y) Y.2.2.2.2.2.2.2.2.2.2.2.1 Y.2.2.2.2.2.2.2.2.2.2.2.2 (az_A Y)
theorem az_D_F {V : az_V} {M : az_M} {A : Nat → Prop} (sz : Nat) (h : va_D A (az_wl V M)) : va_D (az_F V sz) (az_wl V M) := by
  refine ⟨h.1, fun k q hk => ?_⟩
  have hl : k < (az_wl V M).length := (List.getElem?_eq_some_iff.mp hk).1
  have hn : k < az_n V := by simpa [az_wl] using hl
  rw [az_wl_get hn] at hk
  cases hk
  exact Or.inl ⟨k, hn, rfl⟩
/-- a contract out of a walk -/
theorem az_Ct.of {l : Launch} {V : az_V} {y : MethodName} {bt : ByteArray} {mL : Nat} {ret : Option FieldType} {d : Nat} {av : List Value} {M : az_M} {post : Option Value → az_M → Prop} (hy : plainName y.cls = true) (hav : (lg_sl av).length ≤ mL)
    (body : ∀ Y : az_Y, Y.2.1 = l → az_L V → az_C Y V bt mL y.cls ret d → AW Y V (az_end Y V post) mL M 0 (lv_args 0 av) []) : az_Ct l V y bt mL ret d av M post := by
  intro sz
  refine Met.ofW (cc := bt) (maxL := mL) (ret := ret) hy rfl ?_
  intro p e s m args below meth c s₁ B hml hv
  obtain ⟨rfl, hsz, hP, hK, hD0, hE, hL⟩ := hv
  have hts := atoms_spec (ws := Cond.code y bt mL ret :: az_B) B.pre
  have hown : s.vm.findClass y.cls = some m.cls := findClass_of_methodNamed B.named
  subst hsz
  have hl := lv_entry av (n := mL) hav
  rw [lg_entry_eq]
  exact body (p, l, e, (headSpec (Cond.code y bt mL ret :: az_B) (az_rm d)).room, s, m, av.toArray, below, meth, c, az_F V s.heap.size, 0, 0) rfl hL
    ⟨⟨B.exec, B.bytes, hml, hown, fun w hw => hts w (List.mem_cons_of_mem _ hw)⟩, B.returns, B.notSynchronized, hK, hE, fun q h => Or.inr h, ⟨Nat.le_refl _, Nat.le_refl _, Nat.le_refl _, Nat.le_refl _⟩, hL⟩
    s.heap [] _ ⟨hP, az_D_F _ hD0, va_S.rf⟩ hl
section AZR
variable {Y : az_Y} {V : az_V} {cc : ByteArray} {nL : Nat} {own : String} {d : Nat} {M : az_M} {pc : Nat} {lv : List (Nat × Value)} {post : Option Value → az_M → Prop}
theorem az_iret (C : az_C Y V cc nL own (some .int) d) {v : Int32} (hdg : decode cc pc = .ok (.ireturn, 1)) (hp : post (some (.int v)) M) : AW Y V (az_end Y V post) nL M pc lv [.int v] :=
  fun H locs ls hH hl => W.iret (v := v) C.hx C.hb C.hr (fun t ht hW => ⟨⟨_, M, rfl, hp, by rw [ht]; exact hH.1, hH.2.1⟩, hH.2.2.F ht⟩) hH.2.2.2.2 hdg (hlocks := C.hlk)
theorem az_zret (C : az_C Y V cc nL own (some .boolean) d) {v : Int32} (hdg : decode cc pc = .ok (.ireturn, 1)) (hn : narrow .boolean (.int v) = .int v) (hp : post (some (.int v)) M) : AW Y V (az_end Y V post) nL M pc lv [.int v] :=
  fun H locs ls hH hl => W.zret (v := v) C.hx C.hb C.hr hn (fun t ht hW => ⟨⟨_, M, rfl, hp, by rw [ht]; exact hH.1, hH.2.1⟩, hH.2.2.F ht⟩) hH.2.2.2.2 hdg (hlocks := C.hlk)
theorem az_lret (C : az_C Y V cc nL own (some .long) d) {v : Int64} (hdg : decode cc pc = .ok (.lreturn, 1)) (hp : post (some (.long v)) M) : AW Y V (az_end Y V post) nL M pc lv [.long v] :=
  fun H locs ls hH hl => W.lret (v := v) C.hx C.hb C.hr (fun t ht hW => ⟨⟨_, M, rfl, hp, by rw [ht]; exact hH.1, hH.2.1⟩, hH.2.2.F ht⟩) hH.2.2.2.2 hdg (hlocks := C.hlk)
theorem az_vret (C : az_C Y V cc nL own none d) {st : List Value} (hst : st = []) (hdg : decode cc pc = .ok (.return_, 1)) (hp : post none M) : AW Y V (az_end Y V post) nL M pc lv st := by
  subst hst
  exact fun H locs ls hH hl => W.vret C.hx C.hb C.hr (fun t ht hW => ⟨⟨_, M, rfl, hp, by rw [ht]; exact hH.1, hH.2.1⟩, hH.2.2.F ht⟩) hH.2.2.2.2 hdg (hlocks := C.hlk)
end AZR
