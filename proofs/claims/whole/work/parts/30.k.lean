/-! CONSTRUCTORS: a logic over explicit lists of cells (KA), for the few methods that make cells -/
abbrev kz_tys (cs : Nat → ClassId) : List (ClassId × FieldType) := [(cs 0, .int), (cs 1, .long), (cs 2, .boolean), (cs 3, .object "OneBullet$Text"), (cs 4, .object "OneBullet$Province"), (cs 5, .object "OneBullet$Book")]
abbrev kz_D : Type := va_G × (Nat → ClassId)
def kz_C (Y : az_Y) (E : kz_D) (cc : ByteArray) (nL : Nat) (own : String) (rt : Option FieldType) (d : Nat) : Prop :=
  CallFix Y.1 (az_m Y) (az_c Y) cc nL (az_s Y) (az_args Y) az_B own ∧ (az_meth Y).sig.returnType = rt ∧ (az_meth Y).locks = false ∧ va_K E.1 az_cl (kz_tys E.2) (az_s Y) ∧ az_Nw (az_s Y) ∧ (∀ q, (az_s Y).heap.size ≤ q → az_A Y q) ∧ (d ≤ Y.2.2.2.1.frames ∧ 100 * d ≤ Y.2.2.2.1.locals)
def kz_H (Y : az_Y) (E : kz_D) (ws : va_W) (H : Heap) (locs : List Loc) : Prop := va_P E.1 az_cl ws H ∧ va_D (az_A Y) ws ∧ va_S (az_A Y) (az_s Y).heap H locs
abbrev kz_W (Y : az_Y) (k n : Nat) (H : Heap) (locs : List Loc) (Q : State → Prop) (g : JFrame) : Prop :=
  W Y.1 Y.2.1 Y.2.2.1 Y.2.2.2.1 (az_s Y) (az_m Y) (az_args Y) (az_below Y) (az_meth Y) (az_c Y) H locs k n Q g
def KA (Y : az_Y) (E : kz_D) (Q : State → Prop) (nL k n : Nat) (ws : va_W) (pc : Nat) (lv : List (Nat × Value)) (st : List Value) : Prop :=
  ∀ (H : Heap) (locs : List Loc) (ls : Array Slot), kz_H Y E ws H locs → lv_has ls nL lv → kz_W Y k n H locs Q (F0 (az_m Y) pc ls st)
section KZC
variable {Y : az_Y} {E : kz_D} {cc : ByteArray} {nL : Nat} {own : String} {rt : Option FieldType} {d : Nat}
theorem kz_C.hx (C : kz_C Y E cc nL own rt d) : Y.1.tables.exec = Jvm.exec := C.1.1
theorem kz_C.hb (C : kz_C Y E cc nL own rt d) : (az_c Y).code = cc := C.1.2.1
theorem kz_C.hml (C : kz_C Y E cc nL own rt d) : (az_c Y).maxLocals = nL := C.1.2.2.1
theorem kz_C.hown (C : kz_C Y E cc nL own rt d) : (az_s Y).vm.findClass own = some (az_m Y).cls := C.1.2.2.2.1
theorem kz_C.hts (C : kz_C Y E cc nL own rt d) : ∀ w ∈ az_B, w.before (az_args Y) (az_s Y) = true := C.1.2.2.2.2
theorem kz_C.hr (C : kz_C Y E cc nL own rt d) : (az_meth Y).sig.returnType = rt := C.2.1
theorem kz_C.hlk (C : kz_C Y E cc nL own rt d) : (az_meth Y).locks = false := C.2.2.1
theorem kz_C.hK (C : kz_C Y E cc nL own rt d) : va_K E.1 az_cl (kz_tys E.2) (az_s Y) := C.2.2.2.1
theorem kz_C.hN (C : kz_C Y E cc nL own rt d) : az_Nw (az_s Y) := C.2.2.2.2.1
theorem kz_C.hA (C : kz_C Y E cc nL own rt d) : ∀ q, (az_s Y).heap.size ≤ q → az_A Y q := C.2.2.2.2.2.1
theorem kz_C.hR (C : kz_C Y E cc nL own rt d) : d ≤ Y.2.2.2.1.frames ∧ 100 * d ≤ Y.2.2.2.1.locals := C.2.2.2.2.2.2
end KZC
def kz_rm (d mc ms : Nat) : Room := { frames := d, cells := mc, slots := ms, locals := 100 * d }
def kz_pre (E : kz_D) (ws : va_W) (sz : Nat) (U : State) : Prop := U.heap.size = sz ∧ va_P E.1 az_cl ws U.heap ∧ va_K E.1 az_cl (kz_tys E.2) U ∧ va_D (fun _ => True) ws ∧ az_Nw U
def kz_Q (E : kz_D) (post : va_W → Prop) (A : Nat → Prop) : Array Value → State → Outcome → State → Prop := fun _ st oc t => (∃ ws : va_W, oc = .returned none ∧ post ws ∧ va_P E.1 az_cl ws t.heap ∧ va_D A ws) ∧ va_F A st t
def kz_Ct (l : Launch) (E : kz_D) (y : MethodName) (bt : ByteArray) (mL d mc ms : Nat) (av : List Value) (ws : va_W) (post : va_W → Prop) : Prop :=
  ∀ sz, Met l y (.code y bt mL none :: az_B) (kz_rm d mc ms) (va_Pc av (kz_pre E ws sz)) (kz_Q E post (va_A ws sz)) mc ms (va_A ws sz)
def kz_end (Y : az_Y) (E : kz_D) (k n : Nat) (post : va_W → Prop) : State → Prop := MQ (az_below Y) (kz_Q E post (az_A Y)) (az_args Y) (az_s Y) k n (az_A Y)
theorem kz_Ct.of {l : Launch} {E : kz_D} {y : MethodName} {bt : ByteArray} {mL d mc ms : Nat} {av : List Value} {ws : va_W} {post : va_W → Prop} (hy : plainName y.cls = true) (hav : (lg_sl av).length ≤ mL)
    (body : ∀ Y : az_Y, Y.2.1 = l → Y.2.2.2.1.cells = mc → Y.2.2.2.1.slots = ms → (az_meth Y).name = y.name → kz_C Y E bt mL y.cls none d → KA Y E (kz_end Y E mc ms post) mL 0 0 ws 0 (lv_args 0 av) []) : kz_Ct l E y bt mL d mc ms av ws post := by
  intro sz
  refine Met.ofW (cc := bt) (maxL := mL) (ret := none) hy rfl ?_
  intro p e s m args below meth c s₁ B hml hv
  obtain ⟨rfl, hsz, hP, hK, hD0, hN⟩ := hv
  have hts := atoms_spec (ws := Cond.code y bt mL none :: az_B) B.pre
  have hown : s.vm.findClass y.cls = some m.cls := findClass_of_methodNamed B.named
  have hin : meth.name = y.name := (name_of_methodNamed B.named B.method).1
  subst hsz
  have hl := lv_entry av (n := mL) hav
  rw [lg_entry_eq]
  exact body (p, l, e, (headSpec (Cond.code y bt mL none :: az_B) (kz_rm d mc ms)).room, s, m, av.toArray, below, meth, c, va_A ws s.heap.size, 0, 0) rfl rfl rfl hin
    ⟨⟨B.exec, B.bytes, hml, hown, fun w hw => hts w (List.mem_cons_of_mem _ hw)⟩, B.returns, B.notSynchronized, hK, hN, fun q h => Or.inr h, ⟨Nat.le_refl _, Nat.le_refl _⟩⟩
    s.heap [] _ ⟨hP, hD0.self, va_S.rf⟩ hl
section KZI
variable {Y : az_Y} {E : kz_D} {cc : ByteArray} {nL k n : Nat} {own : String} {rt : Option FieldType} {d : Nat} {Q : State → Prop} {ws ws2 : va_W} {pc : Nat} {lv lv' : List (Nat × Value)} {rest : List Value}
theorem kz_eq (h : ws = ws2) (kk : KA Y E Q nL k n ws2 pc lv rest) : KA Y E Q nL k n ws pc lv rest := h ▸ kk
theorem kz_vret {mc ms : Nat} {post : va_W → Prop} (C : kz_C Y E cc nL own none d) (h1 : k ≤ mc) (h2 : n ≤ ms) (hdg : decode cc pc = .ok (.return_, 1)) (hp : post ws) : KA Y E (kz_end Y E mc ms post) nL k n ws pc lv [] :=
  fun H locs ls hH hl => W.widen h1 h2 (W.vret C.hx C.hb C.hr (fun t ht hW => ⟨⟨ws, rfl, hp, by rw [ht]; exact hH.1, hH.2.1⟩, hH.2.2.F ht⟩) hH.2.2.2.2 hdg (hlocks := C.hlk))
theorem kz_aload_n (C : kz_C Y E cc nL own rt d) {k0 : Fin 4} {x : Nat} (j : Nat) (hdg : decode cc pc = .ok (.aload_n k0, 1)) (hj : lv[j]? = some ((k0 : Nat), .ref x)) (kk : KA Y E Q nL k n ws (pc + 1) lv (.ref x :: rest)) : KA Y E Q nL k n ws pc lv rest := fun H locs ls hH hl => lv_aload_n C.hx C.hb hdg rfl (lv_at hl j hj) (kk H locs ls hH hl)
theorem kz_aload (C : kz_C Y E cc nL own rt d) {i x : Nat} (j : Nat) (hdg : decode cc pc = .ok (.aload i, 2)) (hj : lv[j]? = some (i, .ref x)) (kk : KA Y E Q nL k n ws (pc + 2) lv (.ref x :: rest)) : KA Y E Q nL k n ws pc lv rest := fun H locs ls hH hl => lv_aload C.hx C.hb hdg (lv_at hl j hj) (kk H locs ls hH hl)
theorem kz_astore_n (C : kz_C Y E cc nL own rt d) {k0 : Fin 4} {i x : Nat} (hdg : decode cc pc = .ok (.astore_n k0, 1)) (hi : (k0 : Nat) = i) (hn : i < nL) (hv : (i, Value.ref x) :: lv.filter (fun q => !(q.1 == i) && !(q.1 + 1 == i && q.2.category == 2)) = lv') (kk : KA Y E Q nL k n ws (pc + 1) lv' rest) : KA Y E Q nL k n ws pc lv (.ref x :: rest) := fun H locs ls hH hl => lv_astore_n C.hx C.hb hdg hi hl hn hv (fun ls' hl' => kk H locs ls' hH hl')
theorem kz_iconst (C : kz_C Y E cc nL own rt d) {n0 : Int} {v : Int32} (hdg : decode cc pc = .ok (.iconst n0, 1)) (hv : Int32.ofInt n0 = v) (kk : KA Y E Q nL k n ws (pc + 1) lv (.int v :: rest)) : KA Y E Q nL k n ws pc lv rest := fun H locs ls hH hl => lv_iconst C.hx C.hb hdg hv (kk H locs ls hH hl)
theorem kz_bipush (C : kz_C Y E cc nL own rt d) {n0 : Int} {v : Int32} (hdg : decode cc pc = .ok (.bipush n0, 2)) (hv : (Int8.ofInt n0).toInt32 = v) (kk : KA Y E Q nL k n ws (pc + 2) lv (.int v :: rest)) : KA Y E Q nL k n ws pc lv rest := fun H locs ls hH hl => lv_bipush C.hx C.hb hdg hv (kk H locs ls hH hl)
theorem kz_sipush (C : kz_C Y E cc nL own rt d) {n0 : Int} {v : Int32} (hdg : decode cc pc = .ok (.sipush n0, 3)) (hv : (Int16.ofInt n0).toInt32 = v) (kk : KA Y E Q nL k n ws (pc + 3) lv (.int v :: rest)) : KA Y E Q nL k n ws pc lv rest := fun H locs ls hH hl => lv_sipush C.hx C.hb hdg hv (kk H locs ls hH hl)
theorem kz_ldc2 (C : kz_C Y E cc nL own rt d) {idx : Nat} {v : Int64} (hw : Cond.constantLong own idx v ∈ az_B) (hdg : decode cc pc = .ok (.ldc2_w idx, 3)) (kk : KA Y E Q nL k n ws (pc + 3) lv (.long v :: rest)) : KA Y E Q nL k n ws pc lv rest := fun H locs ls hH hl => lv_ldc2 C.hx C.hb C.hown (C.hts _ hw) hdg (kk H locs ls hH hl)
theorem kz_dup (C : kz_C Y E cc nL own rt d) {a : Value} (hdg : decode cc pc = .ok (.dup, 1)) (hc : a.category = 1) (kk : KA Y E Q nL k n ws (pc + 1) lv (a :: a :: rest)) : KA Y E Q nL k n ws pc lv (a :: rest) := fun H locs ls hH hl => lv_dup C.hx C.hb hdg hc (kk H locs ls hH hl)
theorem kz_imul (C : kz_C Y E cc nL own rt d) {x y : Int32} (hdg : decode cc pc = .ok (.imul, 1)) (kk : KA Y E Q nL k n ws (pc + 1) lv (.int (x * y) :: rest)) : KA Y E Q nL k n ws pc lv (.int y :: .int x :: rest) := fun H locs ls hH hl => lv_imul C.hx C.hb hdg (kk H locs ls hH hl)
theorem kz_perm (is : List Nat) (hn : va_nd is = true) (h : is.map (fun i => ws[i]?) = ws2.map some) (kk : KA Y E Q nL k n ws2 pc lv rest) : KA Y E Q nL k n ws pc lv rest := by
  intro H locs ls hH hl
  have hf : ∀ (is : List Nat) (w : va_W), is.map (fun i => ws[i]?) = w.map some → is.filterMap (fun i => ws[i]?) = w := by
    intro is
    induction is with
    | nil => intro w h; cases w with | nil => rfl | cons a b => simp at h
    | cons a is ih =>
      intro w h
      cases w with
      | nil => simp at h
      | cons x w =>
        rw [List.map_cons, List.map_cons, List.cons.injEq] at h
        rw [List.filterMap_cons, h.1, ih w h.2]
  exact kk H locs ls ⟨hH.1.sub is (hf is ws2 h), hH.2.1.sub is hn h, hH.2.2⟩ hl
/-- Object's own constructor -/
def kz_lo (own : String) (idx : Nat) : Prop := Cond.methodLink own idx Lib.objectInit ∈ az_B ∧ Cond.instanceMethod Lib.objectInit ∈ az_B ∧ Cond.code Lib.objectInit ⟨#[0xb1]⟩ 1 none ∈ az_B
theorem kz_obj (C : kz_C Y E cc nL own rt d) {idx a : Nat} (lk : kz_lo own idx) (hd : 1 ≤ d) (hdg : decode cc pc = .ok (.invokespecial idx, 3)) (kk : KA Y E Q nL k n ws (pc + 3) lv []) : KA Y E Q nL k n ws pc lv [.ref a] := by
  have hR := C.hR
  exact fun H locs ls hH hl => W.objInit C.hx C.hb C.hown (C.hts _ lk.1) (C.hts _ lk.2.1) (C.hts _ lk.2.2) rfl (by rw [C.hml]; exact hl.1) rfl hdg (Nat.le_trans hd hR.1) (by show 2 * 0 + 0 + 12 ≤ _; omega) (kk H locs ls hH hl)
theorem kz_get (C : kz_C Y E cc nL own rt d) {idx a ci j : Nat} {v : Value} (q0 : Nat) {fs : List Value} (he : ws[q0]? = some (a, .inr (ci, fs))) (hf : az_fl own idx ci j) (hv : fs[j]? = some v) (hdg : decode cc pc = .ok (.getfield idx, 3)) (kk : KA Y E Q nL k n ws (pc + 3) lv (v :: rest)) : KA Y E Q nL k n ws pc lv (.ref a :: rest) :=
  fun H locs ls hH hl => va_get (D := E.1) (ci := ci) (v := v) (C := az_R ci) (T := az_T ci) (N := az_N ci) C.hx C.hb C.hts (az_ws ci hf.1) C.hown C.hK hH.1 q0 he (az_cl_at ci hf.1) j hf.2.1 (C.hts _ hf.2.2) (fun _ h9 => h9) hv hdg (kk H locs ls hH hl)
theorem kz_put (C : kz_C Y E cc nL own rt d) {idx a ci j : Nat} {v : Value} (q0 : Nat) {fs : List Value} (he : ws[q0]? = some (a, .inr (ci, fs))) (hf : az_fl own idx ci j) (hfin : (az_T ci j).2.2.2 = false) (hn : narrow (az_y ci j) v = v) (hfit : fits (az_y ci j) v = true) (hl0 : j < fs.length) (hdg : decode cc pc = .ok (.putfield idx, 3)) (h2 : ws.set q0 (a, .inr (ci, fs.set j v)) = ws2) (kk : KA Y E Q nL k n ws2 (pc + 3) lv rest) : KA Y E Q nL k n ws pc lv (v :: .ref a :: rest) := by
  subst h2
  exact fun H locs ls hH hl => va_put (D := E.1) (ci := ci) (v := v) (ty := az_y ci j) (C := az_R ci) (T := az_T ci) (N := az_N ci) C.hx C.hb C.hts (az_ws ci hf.1) (az_y ci) (az_y_ok ci hf.1) (az_nm ci hf.1) C.hown C.hK hH.1 hH.2.1 hH.2.2 q0 he (az_cl_at ci hf.1) j hf.2.1 (C.hts _ hf.2.2) (fun _ h9 => h9) hfin (az_y_ok ci hf.1 j hf.2.1) hn hfit hl0 hdg (fun H1 locs1 hP hD hS => kk H1 locs1 ls ⟨hP, hD, hS⟩ hl)
theorem kz_putF (C : kz_C Y E cc nL own rt d) (hi : (az_meth Y).name = "<init>") {idx a ci j : Nat} {v : Value} (q0 : Nat) {fs : List Value} (he : ws[q0]? = some (a, .inr (ci, fs))) (hf : az_fl own idx ci j) (hfin : (az_T ci j).2.2.2 = true) (hdecl : (az_T ci j).1 = own) (hn : narrow (az_y ci j) v = v) (hfit : fits (az_y ci j) v = true) (hl0 : j < fs.length) (hdg : decode cc pc = .ok (.putfield idx, 3)) (h2 : ws.set q0 (a, .inr (ci, fs.set j v)) = ws2) (kk : KA Y E Q nL k n ws2 (pc + 3) lv rest) : KA Y E Q nL k n ws pc lv (v :: .ref a :: rest) := by
  subst h2
  exact fun H locs ls hH hl => va_putF (D := E.1) (ci := ci) (v := v) (ty := az_y ci j) (C := az_R ci) (T := az_T ci) (N := az_N ci) C.hx C.hb C.hts (az_ws ci hf.1) (az_y ci) (az_y_ok ci hf.1) (az_nm ci hf.1) C.hown C.hK hH.1 hH.2.1 hH.2.2 q0 he (az_cl_at ci hf.1) j hf.2.1 (C.hts _ hf.2.2) (fun _ h9 => h9) hfin hi hdecl (az_y_ok ci hf.1 j hf.2.1) hn hfit hl0 hdg (fun H1 locs1 hP hD hS => kk H1 locs1 ls ⟨hP, hD, hS⟩ hl)
theorem kz_ist (C : kz_C Y E cc nL own rt d) {a len : Nat} (q0 : Nat) {f : Nat → Int32} (he : ws[q0]? = some (a, .inl (E.2 0, len, .inl f))) {i x : Int32} {j : Nat} (hin : vp_in i len) (hj : i.toNatClampNeg = j) (hdg : decode cc pc = .ok (.iastore, 1)) (h2 : ws.set q0 (a, .inl (E.2 0, len, .inl (upd f j x))) = ws2) (kk : KA Y E Q nL k n ws2 (pc + 1) lv rest) : KA Y E Q nL k n ws pc lv (.int x :: .int i :: .ref a :: rest) := by
  subst h2; subst hj
  exact fun H locs ls hH hl => va_iast C.hx C.hb C.hK hH.1 hH.2.1 hH.2.2 q0 0 he rfl hin hdg (fun H1 locs1 hP hD hS => kk H1 locs1 ls ⟨hP, hD, hS⟩ hl)
theorem kz_lst (C : kz_C Y E cc nL own rt d) {a len : Nat} (q0 : Nat) {f : Nat → Int64} (he : ws[q0]? = some (a, .inl (E.2 1, len, .inr (.inl f)))) {i : Int32} {x : Int64} {j : Nat} (hin : vp_in i len) (hj : i.toNatClampNeg = j) (hdg : decode cc pc = .ok (.lastore, 1)) (h2 : ws.set q0 (a, .inl (E.2 1, len, .inr (.inl (vp_updL f j x)))) = ws2) (kk : KA Y E Q nL k n ws2 (pc + 1) lv rest) : KA Y E Q nL k n ws pc lv (.long x :: .int i :: .ref a :: rest) := by
  subst h2; subst hj
  exact fun H locs ls hH hl => va_last C.hx C.hb C.hK hH.1 hH.2.1 hH.2.2 q0 1 he rfl hin hdg (fun H1 locs1 hP hD hS => kk H1 locs1 ls ⟨hP, hD, hS⟩ hl)
/-- an array class's number is the one that is known -/
theorem kz_newI (C : kz_C Y E cc nL own rt d) (hw : Cond.arrayClass .int ∈ az_B) {m : Int32} {N : Nat} (hn : ¬ m < 0) (hN : m.toNatClampNeg = N) (hb : N ≤ 20000) (hc : k + 1 ≤ Y.2.2.2.1.cells) (hs : n + N ≤ Y.2.2.2.1.slots) (hdg : decode cc pc = .ok (.newarray .int, 2)) (kk : ∀ q : Nat, KA Y E Q nL (k + 1) (n + N) (ws ++ [(q, .inl (E.2 0, N, .inl (fun _ => 0)))]) (pc + 2) lv (.ref q :: rest)) : KA Y E Q nL k n ws pc lv (.int m :: rest) := by
  intro H locs ls hH hl
  refine va_newa (atype := .int) (a0 := (N, .inl (fun _ => 0))) (ty := .int) C.hx C.hb (C.hts _ hw) rfl C.hK hH.1 hH.2.1 hH.2.2 C.hA (fun _ => rfl) hn hN (by show N * 4 ≤ _; omega) hc hs hdg (fun q cA H1 hK1 hP1 hD1 hS1 => ?_)
  have e : cA = E.2 0 := Option.some.inj (((hK1.2 6 _ rfl).2 : (az_s Y).vm.findClass _ = some cA).symm.trans ((C.hK.2 0 _ rfl).2 : (az_s Y).vm.findClass _ = some (E.2 0)))
  subst e
  exact kk q H1 locs ls ⟨hP1, hD1, hS1⟩ hl
theorem kz_newJ (C : kz_C Y E cc nL own rt d) (hw : Cond.arrayClass .long ∈ az_B) {m : Int32} {N : Nat} (hn : ¬ m < 0) (hN : m.toNatClampNeg = N) (hb : N ≤ 20000) (hc : k + 1 ≤ Y.2.2.2.1.cells) (hs : n + N ≤ Y.2.2.2.1.slots) (hdg : decode cc pc = .ok (.newarray .long, 2)) (kk : ∀ q : Nat, KA Y E Q nL (k + 1) (n + N) (ws ++ [(q, .inl (E.2 1, N, .inr (.inl (fun _ => 0))))]) (pc + 2) lv (.ref q :: rest)) : KA Y E Q nL k n ws pc lv (.int m :: rest) := by
  intro H locs ls hH hl
  refine va_newa (atype := .long) (a0 := (N, .inr (.inl (fun _ => 0)))) (ty := .long) C.hx C.hb (C.hts _ hw) rfl C.hK hH.1 hH.2.1 hH.2.2 C.hA (fun _ => rfl) hn hN (by show N * 8 ≤ _; omega) hc hs hdg (fun q cA H1 hK1 hP1 hD1 hS1 => ?_)
  have e : cA = E.2 1 := Option.some.inj (((hK1.2 6 _ rfl).2 : (az_s Y).vm.findClass _ = some cA).symm.trans ((C.hK.2 1 _ rfl).2 : (az_s Y).vm.findClass _ = some (E.2 1)))
  subst e
  exact kk q H1 locs ls ⟨hP1, hD1, hS1⟩ hl
theorem kz_newZ (C : kz_C Y E cc nL own rt d) (hw : Cond.arrayClass .boolean ∈ az_B) {m : Int32} {N : Nat} (hn : ¬ m < 0) (hN : m.toNatClampNeg = N) (hb : N ≤ 20000) (hc : k + 1 ≤ Y.2.2.2.1.cells) (hs : n + N ≤ Y.2.2.2.1.slots) (hdg : decode cc pc = .ok (.newarray .boolean, 2)) (kk : ∀ q : Nat, KA Y E Q nL (k + 1) (n + N) (ws ++ [(q, .inl (E.2 2, N, .inl (fun _ => 0)))]) (pc + 2) lv (.ref q :: rest)) : KA Y E Q nL k n ws pc lv (.int m :: rest) := by
  intro H locs ls hH hl
  refine va_newa (atype := .boolean) (a0 := (N, .inl (fun _ => 0))) (ty := .boolean) C.hx C.hb (C.hts _ hw) rfl C.hK hH.1 hH.2.1 hH.2.2 C.hA (fun _ => rfl) hn hN (by show N * 1 ≤ _; omega) hc hs hdg (fun q cA H1 hK1 hP1 hD1 hS1 => ?_)
  have e : cA = E.2 2 := Option.some.inj (((hK1.2 6 _ rfl).2 : (az_s Y).vm.findClass _ = some cA).symm.trans ((C.hK.2 2 _ rfl).2 : (az_s Y).vm.findClass _ = some (E.2 2)))
  subst e
  exact kk q H1 locs ls ⟨hP1, hD1, hS1⟩ hl
theorem kz_newQ (C : kz_C Y E cc nL own rt d) {t idx : Nat} {Cn : String} (ht : (kz_tys E.2)[t]? = some (E.2 t, .object Cn)) (hcl : Cond.classLink own idx Cn ∈ az_B) (ho : va_AO Cn (az_s Y)) {m : Int32} {N : Nat} (hn : ¬ m < 0) (hN : m.toNatClampNeg = N) (hb : N ≤ 20000) (hc : k + 1 ≤ Y.2.2.2.1.cells) (hs : n + N ≤ Y.2.2.2.1.slots) (hdg : decode cc pc = .ok (.anewarray idx, 3)) (kk : ∀ q : Nat, KA Y E Q nL (k + 1) (n + N) (ws ++ [(q, .inl (E.2 t, N, .inr (.inr (.inr (.inr (fun _ => none))))))]) (pc + 3) lv (.ref q :: rest)) : KA Y E Q nL k n ws pc lv (.int m :: rest) := by
  intro H locs ls hH hl
  refine va_newq C.hx C.hb C.hown (C.hts _ hcl) ho C.hK hH.1 hH.2.1 hH.2.2 C.hA hn hN (by omega) hc hs hdg (fun q cA H1 hK1 hP1 hD1 hS1 => ?_)
  obtain ⟨-, -, -, -, -, h1⟩ := (hK1.2 6 _ rfl).2
  obtain ⟨-, -, -, -, -, h2⟩ := (C.hK.2 t _ ht).2
  have e : cA = E.2 t := Option.some.inj (h1.symm.trans h2)
  subst e
  exact kk q H1 locs ls ⟨hP1, hD1, hS1⟩ hl
/-- a new object, its fields at their first values -/
def kz_ln (own : String) (idx ci : Nat) : Prop := ci < 13 ∧ Cond.classLink own idx (az_R ci) ∈ az_B ∧ Cond.instantiable (az_R ci) (az_N ci) ∈ az_B ∧ Cond.initialized (az_R ci) ∈ az_B
theorem kz_new (C : kz_C Y E cc nL own rt d) {idx ci : Nat} (lk : kz_ln own idx ci) {fs : List Value} (hfs : ∀ j, j < az_N ci → defaultValue (az_y ci j) = vp_V fs j) (hc : k + 1 ≤ Y.2.2.2.1.cells) (hs : n + az_N ci ≤ Y.2.2.2.1.slots) (hdg : decode cc pc = .ok (.new idx, 3)) (kk : ∀ q : Nat, KA Y E Q nL (k + 1) (n + az_N ci) (ws ++ [(q, .inr (ci, fs))]) (pc + 3) lv (.ref q :: rest)) : KA Y E Q nL k n ws pc lv rest :=
  fun H locs ls hH hl => va_new (ci := ci) (fs := fs) (C := az_R ci) (T := az_T ci) (N := az_N ci) C.hx C.hb C.hts (az_ws ci lk.1) (az_y ci) (az_y_ok ci lk.1) C.hown (C.hts _ lk.2.1) (C.hts _ lk.2.2.1) (C.hts _ lk.2.2.2) C.hK hH.1 hH.2.1 hH.2.2 C.hA (az_cl_at ci lk.1) hfs hc hs hdg (fun q H1 hP1 hD1 hS1 => kk q H1 locs ls ⟨hP1, hD1, hS1⟩ hl)
/-- links of a call to a constructor -/
def kz_lI (own : String) (idx : Nat) (y : MethodName) (bt : ByteArray) (mL n : Nat) : Prop := (Cond.methodLink own idx y ∈ az_B ∧ Cond.instanceMethod y ∈ az_B ∧ Cond.initialized y.cls ∈ az_B ∧ Cond.code y bt mL none ∈ az_B) ∧ (y.name = "<init>" ∧ y.cls ≠ "java/lang/invoke/MethodHandle" ∧ y.cls ≠ "java/lang/invoke/VarHandle" ∧ (parseMethodDescriptor y.desc).map (fun d => d.parameters.length) = some n) ∧ mL ≤ 81
def kz_lN (own : String) (idx : Nat) (y : MethodName) (bt : ByteArray) (mL n : Nat) : Prop := ((own, idx, y) ∈ az_nw ∧ Cond.instanceMethod y ∈ az_B ∧ Cond.initialized y.cls ∈ az_B ∧ Cond.code y bt mL none ∈ az_B) ∧ (y.name = "<init>" ∧ y.cls ≠ "java/lang/invoke/MethodHandle" ∧ y.cls ≠ "java/lang/invoke/VarHandle" ∧ (parseMethodDescriptor y.desc).map (fun d => d.parameters.length) = some n) ∧ mL ≤ 81
theorem kz_preU (C : kz_C Y E cc nL own rt d) {av : List Value} {wc : va_W} {H : Heap} {locs : List Loc} (hH : kz_H Y E ws H locs) (isC : List Nat) (hnd : va_nd isC = true) (hC : isC.map (fun i => ws[i]?) = wc.map some) : FrameBlind (va_Pc av (kz_pre E wc H.size)) ∧ ∀ U : State, U.heap = H → (az_s Y).WarmedH U.vm → va_Pc av (kz_pre E wc H.size) av.toArray U := by
  have hPc : va_P E.1 az_cl wc H := by
    refine hH.1.sub isC ?_
    have h : ∀ (is : List Nat) (w : va_W), is.map (fun i => ws[i]?) = w.map some → is.filterMap (fun i => ws[i]?) = w := by
      intro is
      induction is with
      | nil => intro w h; cases w with | nil => rfl | cons a b => simp at h
      | cons a is ih =>
        intro w h
        cases w with
        | nil => simp at h
        | cons x w =>
          rw [List.map_cons, List.map_cons, List.cons.injEq] at h
          rw [List.filterMap_cons, h.1, ih w h.2]
    exact h isC wc hC
  refine ⟨fun a U g mk q => ?_, fun U hU hW => ⟨rfl, by rw [hU], by rw [hU]; exact hPc, va_K.moved hW.alike C.hK, (hH.2.1.sub isC hnd hC).weaken (fun _ _ _ _ => trivial), C.hN.warm hW⟩⟩
  obtain ⟨q0, q1, qP, qK, qD, qN⟩ := q
  exact ⟨q0, q1, qP, va_K.moved (u := U) (U := U.calling g mk a) (Vm.Alike.refl U.vm) qK, qD, az_Nw.same (u := U) (U := U.calling g mk a) rfl qN⟩
theorem kz_back (C : kz_C Y E cc nL own rt d) {mc ms : Nat} {st : List Value} {post : va_W → Prop} {a : Array Value} {wc wr : va_W} {H : Heap} {locs : List Loc} {ls : Array Slot} (hH : kz_H Y E ws H locs) (hl : lv_has ls nL lv) (isC isR : List Nat) (hC : isC.map (fun i => ws[i]?) = wc.map some) (hR : isR.map (fun i => ws[i]?) = wr.map some) (hn : va_nd isR = true) (hdis : ∀ i ∈ isR, i ∉ isC)
    (hrun : va_Run Y.1 Y.2.1 Y.2.2.1 Y.2.2.2.1 (az_s Y) (az_m Y) (az_args Y) (az_below Y) (az_meth Y) (az_c Y) H locs k n mc ms (F0 (az_m Y) pc ls st) rest (kz_Q E post (va_A wc H.size) a) (va_A wc H.size)) (kk : ∀ w1 : va_W, post w1 → KA Y E Q nL (k + mc) (n + ms) (wr ++ w1) (pc + 3) lv rest) : kz_W Y k n H locs Q (F0 (az_m Y) pc ls st) := by
  intro T hT X
  have hF : ∀ q, va_A wc H.size q → az_A Y q := va_free hH.2.1 hH.2.2 C.hA isC hC
  obtain ⟨v, st₀, t, T', L, h0, X', hL, e1, e2, ⟨⟨w1, hv, hp, hP, hD⟩, hz, hk⟩, go⟩ := hrun T hT X
  cases hv
  rw [h0] at hz hk
  obtain ⟨hP2, hD2⟩ := va_join (w1 := w1) hH.1 hH.2.1 isC isR hC hR hn hdis hk hF hP hD
  have hH' : kz_H Y E (wr ++ w1) T'.heap (locs ++ L) := by
    refine ⟨by rw [e1]; exact hP2, hD2, ?_⟩
    refine ⟨Nat.le_trans hH.2.2.1 (by rw [e1]; exact hz), fun q h1 h2 => ?_, fun q hq => ?_⟩
    · rw [e1, hk q (Nat.lt_of_lt_of_le h1 hH.2.2.1) (fun z => h2 (hF q z))]
      exact hH.2.2.2.1 q h1 h2
    · rcases List.mem_append.mp hq with h | h
      · exact hH.2.2.2.2 q h
      · exact hF _ (hL q h)
  obtain ⟨t2, a1, b1⟩ := kk w1 hp T'.heap (locs ++ L) ls hH' hl T' rfl X'
  exact ⟨t2, go t2 a1, b1⟩
theorem kz_init (C : kz_C Y E cc nL own rt d) {idx b n0 d' mL mc ms : Nat} {y : MethodName} {bt : ByteArray} {post : va_W → Prop} {st : List Value} {wc wr : va_W} (As : List Value) (hM : kz_Ct Y.2.1 E y bt mL d' mc ms (.ref b :: As) wc post) (hd : d' + 1 ≤ d) (lk : kz_lI own idx y bt mL n0) (isC isR : List Nat) (hnd : va_nd isC = true) (hC : isC.map (fun i => ws[i]?) = wc.map some) (hR : isR.map (fun i => ws[i]?) = wr.map some) (hn : va_nd isR = true) (hdis : ∀ i ∈ isR, i ∉ isC) (hst : st = As.reverse ++ .ref b :: rest) (hlen : As.length = n0) (hr : (rest.map fun v => v.category).sum ≤ 8) (hdg : decode cc pc = .ok (.invokespecial idx, 3)) (hc : k + mc ≤ Y.2.2.2.1.cells) (hs : n + ms ≤ Y.2.2.2.1.slots) (kk : ∀ w1 : va_W, post w1 → KA Y E Q nL (k + mc) (n + ms) (wr ++ w1) (pc + 3) lv rest) : KA Y E Q nL k n ws pc lv st := by
  subst hst
  intro H locs ls hH hl
  have hRm := C.hR
  have hrm : (kz_rm d' mc ms).frames + 1 ≤ Y.2.2.2.1.frames ∧ 8 + (mL + 11) + (kz_rm d' mc ms).locals ≤ Y.2.2.2.1.locals := by
    have h81 := lk.2.2
    refine ⟨Nat.le_trans hd hRm.1, ?_⟩
    show 8 + (mL + 11) + 100 * d' ≤ _
    omega
  have hG : GoodIn az_B (Cond.code y bt mL none :: az_B) := by
    refine az_goodB fun w hw => ?_
    rcases List.mem_cons.mp hw with rfl | h
    · exact lk.1.2.2.2
    · exact h
  exact kz_back C hH hl isC isR hC hR hn hdis (va_runI (As := As) (rest := rest) C.1 (hM H.size) (cwI n0 C.hts hG rfl rfl rfl (C.hts _ lk.1.2.2.1) (C.hts _ lk.1.1) (C.hts _ lk.1.2.1) lk.2.1.1 lk.2.1.2 hrm) (kz_preU C hH isC hnd hC) rfl hlen hl.1 rfl (lv_room hr) hdg ⟨hc, hs⟩) kk
theorem kz_initN (C : kz_C Y E cc nL own rt d) {idx b n0 d' mL mc ms : Nat} {y : MethodName} {bt : ByteArray} {post : va_W → Prop} {st : List Value} {wc wr : va_W} (As : List Value) (hM : kz_Ct Y.2.1 E y bt mL d' mc ms (.ref b :: As) wc post) (hd : d' + 1 ≤ d) (lk : kz_lN own idx y bt mL n0) (isC isR : List Nat) (hnd : va_nd isC = true) (hC : isC.map (fun i => ws[i]?) = wc.map some) (hR : isR.map (fun i => ws[i]?) = wr.map some) (hn : va_nd isR = true) (hdis : ∀ i ∈ isR, i ∉ isC) (hst : st = As.reverse ++ .ref b :: rest) (hlen : As.length = n0) (hr : (rest.map fun v => v.category).sum ≤ 8) (hdg : decode cc pc = .ok (.invokespecial idx, 3)) (hc : k + mc ≤ Y.2.2.2.1.cells) (hs : n + ms ≤ Y.2.2.2.1.slots) (kk : ∀ w1 : va_W, post w1 → KA Y E Q nL (k + mc) (n + ms) (wr ++ w1) (pc + 3) lv rest) : KA Y E Q nL k n ws pc lv st := by
  subst hst
  intro H locs ls hH hl
  have hRm := C.hR
  have hrm : (kz_rm d' mc ms).frames + 1 ≤ Y.2.2.2.1.frames ∧ 8 + (mL + 11) + (kz_rm d' mc ms).locals ≤ Y.2.2.2.1.locals := by
    have h81 := lk.2.2
    refine ⟨Nat.le_trans hd hRm.1, ?_⟩
    show 8 + (mL + 11) + 100 * d' ≤ _
    omega
  have hG : GoodIn az_B (Cond.code y bt mL none :: az_B) := by
    refine az_goodB fun w hw => ?_
    rcases List.mem_cons.mp hw with rfl | h
    · exact lk.1.2.2.2
    · exact h
  exact kz_back C hH hl isC isR hC hR hn hdis (va_runIN (As := As) (rest := rest) C.1 (hM H.size) ⟨va_cnB n0 C.hts hG rfl rfl rfl (C.hN.2.1 _ lk.1.1) (C.hts _ lk.1.2.2.1) lk.2.1.2 hrm, lk.2.1.1, C.hts _ lk.1.2.1⟩ (kz_preU C hH isC hnd hC) rfl hlen hl.1 rfl (lv_room hr) hdg ⟨hc, hs⟩) kk
theorem kz_virt (C : kz_C Y E cc nL own rt d) {idx b ci n0 d' mL : Nat} {y : MethodName} {bt : ByteArray} {post : va_W → Prop} {st : List Value} {wc wr : va_W} (As : List Value) (hM : kz_Ct Y.2.1 E y bt mL d' 0 0 (.ref b :: As) wc post) (hd : d' + 1 ≤ d) (lk : az_lV own idx (az_R ci) y bt mL none n0) (q0 : Nat) {fs : List Value} (he : ws[q0]? = some (b, .inr (ci, fs))) (hci : ci < 13) (isC isR : List Nat) (hnd : va_nd isC = true) (hC : isC.map (fun i => ws[i]?) = wc.map some) (hR : isR.map (fun i => ws[i]?) = wr.map some) (hn : va_nd isR = true) (hdis : ∀ i ∈ isR, i ∉ isC) (hst : st = As.reverse ++ .ref b :: rest) (hlen : As.length = n0) (hr : (rest.map fun v => v.category).sum ≤ 8) (hdg : decode cc pc = .ok (.invokevirtual idx, 3)) (hc : k + 0 ≤ Y.2.2.2.1.cells) (hs : n + 0 ≤ Y.2.2.2.1.slots) (kk : ∀ w1 : va_W, post w1 → KA Y E Q nL (k + 0) (n + 0) (wr ++ w1) (pc + 3) lv rest) : KA Y E Q nL k n ws pc lv st := by
  subst hst
  intro H locs ls hH hl
  have hRm := C.hR
  have hrm : (kz_rm d' 0 0).frames + 1 ≤ Y.2.2.2.1.frames ∧ 8 + (mL + 11) + (kz_rm d' 0 0).locals ≤ Y.2.2.2.1.locals := by
    have h81 := lk.2.2
    refine ⟨Nat.le_trans hd hRm.1, ?_⟩
    show 8 + (mL + 11) + 100 * d' ≤ _
    omega
  have hG : GoodIn az_B (wsV own idx (az_R ci) y (Cond.code y bt mL none :: az_B)) := by
    refine az_goodB fun w hw => ?_
    rcases List.mem_append.mp hw with h | h
    · rcases List.mem_cons.mp h with rfl | h
      · exact lk.1.1
      rcases List.mem_cons.mp h with rfl | h
      · exact lk.1.2.1
      rcases List.mem_cons.mp h with rfl | h
      · exact lk.1.2.2.1
      rcases List.mem_cons.mp h with rfl | h
      · exact lk.1.2.2.2.1
      · cases h
    · rcases List.mem_cons.mp h with rfl | h
      · exact lk.1.2.2.2.2
      · exact h
  have hpre := kz_preU (av := .ref b :: As) C hH isC hnd hC
  exact kz_back C hH hl isC isR hC hR hn hdis (va_runV (As := As) (rest := rest) C.1 (hM H.size) (cwV n0 C.hts hG rfl rfl rfl lk.2.1 hrm) ⟨hpre.1, va_recv C.hK hH.1 (ci := ci) (q0 := q0) (az_cl_at ci hci) he, hpre.2⟩ rfl hlen hl.1 rfl (lv_room hr) hdg ⟨hc, hs⟩) kk
end KZI
/-- a new province's row -/
def az_found : Nat → Int32 := upd (upd (upd (upd (fun _ => 0) 0 100) 17 2) 18 20) 19 1
