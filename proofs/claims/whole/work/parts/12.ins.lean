/-! THE INSTRUCTIONS, a row each, over AW -/
section AZI
variable {Y : az_Y} {V : az_V} {cc : ByteArray} {nL : Nat} {own : String} {ret : Option FieldType} {d : Nat} {Q : State → Prop} {M : az_M} {pc : Nat} {lv lv' : List (Nat × Value)} {rest : List Value}
theorem az_sub (ks : List Nat) (h : lv_pick lv ks = lv') (k : AW Y V Q nL M pc lv' rest) : AW Y V Q nL M pc lv rest := fun H locs ls hH hl => k H locs ls hH (lv_sub hl ks h)
theorem az_eqst {st st' : List Value} (h : st = st') (k : AW Y V Q nL M pc lv st') : AW Y V Q nL M pc lv st := h ▸ k
theorem az_iconst (C : az_C Y V cc nL own ret d) {n : Int} {v : Int32} (hdg : decode cc pc = .ok (.iconst n, 1)) (hv : Int32.ofInt n = v) (k : AW Y V Q nL M (pc + 1) lv (.int v :: rest)) : AW Y V Q nL M pc lv rest := fun H locs ls hH hl => lv_iconst C.hx C.hb hdg hv (k H locs ls hH hl)
theorem az_bipush (C : az_C Y V cc nL own ret d) {n : Int} {v : Int32} (hdg : decode cc pc = .ok (.bipush n, 2)) (hv : (Int8.ofInt n).toInt32 = v) (k : AW Y V Q nL M (pc + 2) lv (.int v :: rest)) : AW Y V Q nL M pc lv rest := fun H locs ls hH hl => lv_bipush C.hx C.hb hdg hv (k H locs ls hH hl)
theorem az_sipush (C : az_C Y V cc nL own ret d) {n : Int} {v : Int32} (hdg : decode cc pc = .ok (.sipush n, 3)) (hv : (Int16.ofInt n).toInt32 = v) (k : AW Y V Q nL M (pc + 3) lv (.int v :: rest)) : AW Y V Q nL M pc lv rest := fun H locs ls hH hl => lv_sipush C.hx C.hb hdg hv (k H locs ls hH hl)
theorem az_lconst (C : az_C Y V cc nL own ret d) {n : Fin 2} {v : Int64} (hdg : decode cc pc = .ok (.lconst n, 1)) (hv : Int64.ofNat (n : Nat) = v) (k : AW Y V Q nL M (pc + 1) lv (.long v :: rest)) : AW Y V Q nL M pc lv rest := fun H locs ls hH hl => lv_lconst C.hx C.hb hdg hv (k H locs ls hH hl)
theorem az_ldc (C : az_C Y V cc nL own ret d) {idx : Nat} {v : Int32} (hw : Cond.constant own idx v ∈ az_B) (hdg : decode cc pc = .ok (.ldc idx, 2)) (k : AW Y V Q nL M (pc + 2) lv (.int v :: rest)) : AW Y V Q nL M pc lv rest := fun H locs ls hH hl => lv_ldc C.hx C.hb C.hown (C.hts _ hw) hdg (k H locs ls hH hl)
theorem az_ldcw (C : az_C Y V cc nL own ret d) {idx : Nat} {v : Int32} (hw : Cond.constant own idx v ∈ az_B) (hdg : decode cc pc = .ok (.ldc_w idx, 3)) (k : AW Y V Q nL M (pc + 3) lv (.int v :: rest)) : AW Y V Q nL M pc lv rest := fun H locs ls hH hl => lv_ldcw C.hx C.hb C.hown (C.hts _ hw) hdg (k H locs ls hH hl)
theorem az_ldc2 (C : az_C Y V cc nL own ret d) {idx : Nat} {v : Int64} (hw : Cond.constantLong own idx v ∈ az_B) (hdg : decode cc pc = .ok (.ldc2_w idx, 3)) (k : AW Y V Q nL M (pc + 3) lv (.long v :: rest)) : AW Y V Q nL M pc lv rest := fun H locs ls hH hl => lv_ldc2 C.hx C.hb C.hown (C.hts _ hw) hdg (k H locs ls hH hl)
theorem az_iload_n (C : az_C Y V cc nL own ret d) {k0 : Fin 4} {x : Int32} (j : Nat) (hdg : decode cc pc = .ok (.iload_n k0, 1)) (hj : lv[j]? = some ((k0 : Nat), .int x)) (k : AW Y V Q nL M (pc + 1) lv (.int x :: rest)) : AW Y V Q nL M pc lv rest := fun H locs ls hH hl => lv_iload_n C.hx C.hb hdg rfl (lv_at hl j hj) (k H locs ls hH hl)
theorem az_iload (C : az_C Y V cc nL own ret d) {i : Nat} {x : Int32} (j : Nat) (hdg : decode cc pc = .ok (.iload i, 2)) (hj : lv[j]? = some (i, .int x)) (k : AW Y V Q nL M (pc + 2) lv (.int x :: rest)) : AW Y V Q nL M pc lv rest := fun H locs ls hH hl => lv_iload C.hx C.hb hdg (lv_at hl j hj) (k H locs ls hH hl)
theorem az_lload_n (C : az_C Y V cc nL own ret d) {k0 : Fin 4} {x : Int64} (j : Nat) (hdg : decode cc pc = .ok (.lload_n k0, 1)) (hj : lv[j]? = some ((k0 : Nat), .long x)) (k : AW Y V Q nL M (pc + 1) lv (.long x :: rest)) : AW Y V Q nL M pc lv rest := fun H locs ls hH hl => lv_lload_n C.hx C.hb hdg rfl (lv_at hl j hj) (k H locs ls hH hl)
theorem az_lload (C : az_C Y V cc nL own ret d) {i : Nat} {x : Int64} (j : Nat) (hdg : decode cc pc = .ok (.lload i, 2)) (hj : lv[j]? = some (i, .long x)) (k : AW Y V Q nL M (pc + 2) lv (.long x :: rest)) : AW Y V Q nL M pc lv rest := fun H locs ls hH hl => lv_lload C.hx C.hb hdg (lv_at hl j hj) (k H locs ls hH hl)
theorem az_aload_n (C : az_C Y V cc nL own ret d) {k0 : Fin 4} {x : Nat} (j : Nat) (hdg : decode cc pc = .ok (.aload_n k0, 1)) (hj : lv[j]? = some ((k0 : Nat), .ref x)) (k : AW Y V Q nL M (pc + 1) lv (.ref x :: rest)) : AW Y V Q nL M pc lv rest := fun H locs ls hH hl => lv_aload_n C.hx C.hb hdg rfl (lv_at hl j hj) (k H locs ls hH hl)
theorem az_aload (C : az_C Y V cc nL own ret d) {i : Nat} {x : Nat} (j : Nat) (hdg : decode cc pc = .ok (.aload i, 2)) (hj : lv[j]? = some (i, .ref x)) (k : AW Y V Q nL M (pc + 2) lv (.ref x :: rest)) : AW Y V Q nL M pc lv rest := fun H locs ls hH hl => lv_aload C.hx C.hb hdg (lv_at hl j hj) (k H locs ls hH hl)
theorem az_istore_n (C : az_C Y V cc nL own ret d) {k0 : Fin 4} {i : Nat} {x : Int32} (hdg : decode cc pc = .ok (.istore_n k0, 1)) (hi : (k0 : Nat) = i) (hn : i < nL) (hv : (i, Value.int x) :: lv.filter (fun q => !(q.1 == i) && !(q.1 + 1 == i && q.2.category == 2)) = lv') (k : AW Y V Q nL M (pc + 1) lv' rest) : AW Y V Q nL M pc lv (.int x :: rest) := fun H locs ls hH hl => lv_istore_n C.hx C.hb hdg hi hl hn hv (fun ls' hl' => k H locs ls' hH hl')
theorem az_istore (C : az_C Y V cc nL own ret d) {i : Nat} {x : Int32} (hdg : decode cc pc = .ok (.istore i, 2)) (hn : i < nL) (hv : (i, Value.int x) :: lv.filter (fun q => !(q.1 == i) && !(q.1 + 1 == i && q.2.category == 2)) = lv') (k : AW Y V Q nL M (pc + 2) lv' rest) : AW Y V Q nL M pc lv (.int x :: rest) := fun H locs ls hH hl => lv_istore C.hx C.hb hdg hl hn hv (fun ls' hl' => k H locs ls' hH hl')
theorem az_lstore_n (C : az_C Y V cc nL own ret d) {k0 : Fin 4} {i : Nat} {x : Int64} (hdg : decode cc pc = .ok (.lstore_n k0, 1)) (hi : (k0 : Nat) = i) (hn : i + 1 < nL) (hv : (i, Value.long x) :: lv.filter (fun q => !(q.1 == i) && (!(q.1 == i + 1) && !(q.1 + 1 == i && q.2.category == 2))) = lv') (k : AW Y V Q nL M (pc + 1) lv' rest) : AW Y V Q nL M pc lv (.long x :: rest) := fun H locs ls hH hl => lv_lstore_n C.hx C.hb hdg hi hl hn hv (fun ls' hl' => k H locs ls' hH hl')
theorem az_lstore (C : az_C Y V cc nL own ret d) {i : Nat} {x : Int64} (hdg : decode cc pc = .ok (.lstore i, 2)) (hn : i + 1 < nL) (hv : (i, Value.long x) :: lv.filter (fun q => !(q.1 == i) && (!(q.1 == i + 1) && !(q.1 + 1 == i && q.2.category == 2))) = lv') (k : AW Y V Q nL M (pc + 2) lv' rest) : AW Y V Q nL M pc lv (.long x :: rest) := fun H locs ls hH hl => lv_lstore C.hx C.hb hdg hl hn hv (fun ls' hl' => k H locs ls' hH hl')
theorem az_astore_n (C : az_C Y V cc nL own ret d) {k0 : Fin 4} {i : Nat} {x : Nat} (hdg : decode cc pc = .ok (.astore_n k0, 1)) (hi : (k0 : Nat) = i) (hn : i < nL) (hv : (i, Value.ref x) :: lv.filter (fun q => !(q.1 == i) && !(q.1 + 1 == i && q.2.category == 2)) = lv') (k : AW Y V Q nL M (pc + 1) lv' rest) : AW Y V Q nL M pc lv (.ref x :: rest) := fun H locs ls hH hl => lv_astore_n C.hx C.hb hdg hi hl hn hv (fun ls' hl' => k H locs ls' hH hl')
theorem az_astore (C : az_C Y V cc nL own ret d) {i : Nat} {x : Nat} (hdg : decode cc pc = .ok (.astore i, 2)) (hn : i < nL) (hv : (i, Value.ref x) :: lv.filter (fun q => !(q.1 == i) && !(q.1 + 1 == i && q.2.category == 2)) = lv') (k : AW Y V Q nL M (pc + 2) lv' rest) : AW Y V Q nL M pc lv (.ref x :: rest) := fun H locs ls hH hl => lv_astore C.hx C.hb hdg hl hn hv (fun ls' hl' => k H locs ls' hH hl')
theorem az_iinc (C : az_C Y V cc nL own ret d) {i : Nat} {n : Int} {x v : Int32} (j : Nat) (hdg : decode cc pc = .ok (.iinc i n, 3)) (hj : lv[j]? = some (i, .int x)) (hv : x + Int32.ofInt n = v) (hn : i < nL) (hv' : (i, Value.int v) :: lv.filter (fun q => !(q.1 == i) && !(q.1 + 1 == i && q.2.category == 2)) = lv') (k : AW Y V Q nL M (pc + 3) lv' rest) : AW Y V Q nL M pc lv rest := fun H locs ls hH hl => lv_iinc C.hx C.hb hdg hl hj hv hn hv' (fun ls' hl' => k H locs ls' hH hl')
theorem az_iadd (C : az_C Y V cc nL own ret d) {x y : Int32} (hdg : decode cc pc = .ok (.iadd, 1))  (k : AW Y V Q nL M (pc + 1) lv (.int (x + y) :: rest)) : AW Y V Q nL M pc lv (.int y :: .int x :: rest) := fun H locs ls hH hl => lv_iadd C.hx C.hb hdg  (k H locs ls hH hl)
theorem az_isub (C : az_C Y V cc nL own ret d) {x y : Int32} (hdg : decode cc pc = .ok (.isub, 1))  (k : AW Y V Q nL M (pc + 1) lv (.int (x - y) :: rest)) : AW Y V Q nL M pc lv (.int y :: .int x :: rest) := fun H locs ls hH hl => lv_isub C.hx C.hb hdg  (k H locs ls hH hl)
theorem az_imul (C : az_C Y V cc nL own ret d) {x y : Int32} (hdg : decode cc pc = .ok (.imul, 1))  (k : AW Y V Q nL M (pc + 1) lv (.int (x * y) :: rest)) : AW Y V Q nL M pc lv (.int y :: .int x :: rest) := fun H locs ls hH hl => lv_imul C.hx C.hb hdg  (k H locs ls hH hl)
theorem az_iand (C : az_C Y V cc nL own ret d) {x y : Int32} (hdg : decode cc pc = .ok (.iand, 1))  (k : AW Y V Q nL M (pc + 1) lv (.int (x &&& y) :: rest)) : AW Y V Q nL M pc lv (.int y :: .int x :: rest) := fun H locs ls hH hl => lv_iand C.hx C.hb hdg  (k H locs ls hH hl)
theorem az_ior (C : az_C Y V cc nL own ret d) {x y : Int32} (hdg : decode cc pc = .ok (.ior, 1))  (k : AW Y V Q nL M (pc + 1) lv (.int (x ||| y) :: rest)) : AW Y V Q nL M pc lv (.int y :: .int x :: rest) := fun H locs ls hH hl => lv_ior C.hx C.hb hdg  (k H locs ls hH hl)
theorem az_ishl (C : az_C Y V cc nL own ret d) {x y : Int32} (hdg : decode cc pc = .ok (.ishl, 1))  (k : AW Y V Q nL M (pc + 1) lv (.int (x <<< (y &&& 31)) :: rest)) : AW Y V Q nL M pc lv (.int y :: .int x :: rest) := fun H locs ls hH hl => lv_ishl C.hx C.hb hdg  (k H locs ls hH hl)
theorem az_ishr (C : az_C Y V cc nL own ret d) {x y : Int32} (hdg : decode cc pc = .ok (.ishr, 1))  (k : AW Y V Q nL M (pc + 1) lv (.int (x >>> (y &&& 31)) :: rest)) : AW Y V Q nL M pc lv (.int y :: .int x :: rest) := fun H locs ls hH hl => lv_ishr C.hx C.hb hdg  (k H locs ls hH hl)
theorem az_ladd (C : az_C Y V cc nL own ret d) {x y : Int64} (hdg : decode cc pc = .ok (.ladd, 1))  (k : AW Y V Q nL M (pc + 1) lv (.long (x + y) :: rest)) : AW Y V Q nL M pc lv (.long y :: .long x :: rest) := fun H locs ls hH hl => lv_ladd C.hx C.hb hdg  (k H locs ls hH hl)
theorem az_lsub (C : az_C Y V cc nL own ret d) {x y : Int64} (hdg : decode cc pc = .ok (.lsub, 1))  (k : AW Y V Q nL M (pc + 1) lv (.long (x - y) :: rest)) : AW Y V Q nL M pc lv (.long y :: .long x :: rest) := fun H locs ls hH hl => lv_lsub C.hx C.hb hdg  (k H locs ls hH hl)
theorem az_lmul (C : az_C Y V cc nL own ret d) {x y : Int64} (hdg : decode cc pc = .ok (.lmul, 1))  (k : AW Y V Q nL M (pc + 1) lv (.long (x * y) :: rest)) : AW Y V Q nL M pc lv (.long y :: .long x :: rest) := fun H locs ls hH hl => lv_lmul C.hx C.hb hdg  (k H locs ls hH hl)
theorem az_idiv (C : az_C Y V cc nL own ret d) {x y : Int32} (hdg : decode cc pc = .ok (.idiv, 1)) (hne : ¬ y = 0) (k : AW Y V Q nL M (pc + 1) lv (.int (x / y) :: rest)) : AW Y V Q nL M pc lv (.int y :: .int x :: rest) := fun H locs ls hH hl => lv_idiv C.hx C.hb hdg hne (k H locs ls hH hl)
theorem az_irem (C : az_C Y V cc nL own ret d) {x y : Int32} (hdg : decode cc pc = .ok (.irem, 1)) (hne : ¬ y = 0) (k : AW Y V Q nL M (pc + 1) lv (.int (x - x / y * y) :: rest)) : AW Y V Q nL M pc lv (.int y :: .int x :: rest) := fun H locs ls hH hl => lv_irem C.hx C.hb hdg hne (k H locs ls hH hl)
theorem az_ldiv (C : az_C Y V cc nL own ret d) {x y : Int64} (hdg : decode cc pc = .ok (.ldiv, 1)) (hne : ¬ y = 0) (k : AW Y V Q nL M (pc + 1) lv (.long (x / y) :: rest)) : AW Y V Q nL M pc lv (.long y :: .long x :: rest) := fun H locs ls hH hl => lv_ldiv C.hx C.hb hdg hne (k H locs ls hH hl)
theorem az_lrem (C : az_C Y V cc nL own ret d) {x y : Int64} (hdg : decode cc pc = .ok (.lrem, 1)) (hne : ¬ y = 0) (k : AW Y V Q nL M (pc + 1) lv (.long (x - x / y * y) :: rest)) : AW Y V Q nL M pc lv (.long y :: .long x :: rest) := fun H locs ls hH hl => lv_lrem C.hx C.hb hdg hne (k H locs ls hH hl)
theorem az_ineg (C : az_C Y V cc nL own ret d) {x : Int32} (hdg : decode cc pc = .ok (.ineg, 1))  (k : AW Y V Q nL M (pc + 1) lv (.int (-x) :: rest)) : AW Y V Q nL M pc lv (.int x :: rest) := fun H locs ls hH hl => lv_ineg C.hx C.hb hdg  (k H locs ls hH hl)
theorem az_i2l (C : az_C Y V cc nL own ret d) {x : Int32} (hdg : decode cc pc = .ok (.i2l, 1))  (k : AW Y V Q nL M (pc + 1) lv (.long x.toInt64 :: rest)) : AW Y V Q nL M pc lv (.int x :: rest) := fun H locs ls hH hl => lv_i2l C.hx C.hb hdg rfl (k H locs ls hH hl)
theorem az_l2i (C : az_C Y V cc nL own ret d) {x : Int64} (hdg : decode cc pc = .ok (.l2i, 1))  (k : AW Y V Q nL M (pc + 1) lv (.int x.toInt32 :: rest)) : AW Y V Q nL M pc lv (.long x :: rest) := fun H locs ls hH hl => lv_l2i C.hx C.hb hdg rfl (k H locs ls hH hl)
theorem az_i2c (C : az_C Y V cc nL own ret d) {x : Int32} (hdg : decode cc pc = .ok (.i2c, 1))  (k : AW Y V Q nL M (pc + 1) lv (.int (x.toUInt32 % 65536).toInt32 :: rest)) : AW Y V Q nL M pc lv (.int x :: rest) := fun H locs ls hH hl => lv_i2c C.hx C.hb hdg rfl (k H locs ls hH hl)
theorem az_iushr (C : az_C Y V cc nL own ret d) {x y : Int32} (hdg : decode cc pc = .ok (.iushr, 1))  (k : AW Y V Q nL M (pc + 1) lv (.int (x.toUInt32 >>> (y.toUInt32 &&& Int32.toUInt32 31)).toInt32 :: rest)) : AW Y V Q nL M pc lv (.int y :: .int x :: rest) := fun H locs ls hH hl => lv_iushr C.hx C.hb hdg rfl (k H locs ls hH hl)
theorem az_lcmp (C : az_C Y V cc nL own ret d) {x y : Int64} (hdg : decode cc pc = .ok (.lcmp, 1))  (k : AW Y V Q nL M (pc + 1) lv (.int (lg_cmp x y) :: rest)) : AW Y V Q nL M pc lv (.long y :: .long x :: rest) := fun H locs ls hH hl => W.lcmp C.hx C.hb hdg  (k H locs ls hH hl)
theorem az_dup (C : az_C Y V cc nL own ret d) {a : Value} (hdg : decode cc pc = .ok (.dup, 1)) (hc : a.category = 1) (k : AW Y V Q nL M (pc + 1) lv (a :: a :: rest)) : AW Y V Q nL M pc lv (a :: rest) := fun H locs ls hH hl => lv_dup C.hx C.hb hdg hc (k H locs ls hH hl)
theorem az_pop (C : az_C Y V cc nL own ret d) {a : Value} (hdg : decode cc pc = .ok (.pop, 1)) (hc : a.category = 1) (k : AW Y V Q nL M (pc + 1) lv rest) : AW Y V Q nL M pc lv (a :: rest) := fun H locs ls hH hl => lv_pop C.hx C.hb hdg hc (k H locs ls hH hl)
theorem az_dup2 (C : az_C Y V cc nL own ret d) {a b : Value} (hdg : decode cc pc = .ok (.dup2, 1)) (ha : a.category = 1) (hb : b.category = 1) (k : AW Y V Q nL M (pc + 1) lv (a :: b :: a :: b :: rest)) : AW Y V Q nL M pc lv (a :: b :: rest) := fun H locs ls hH hl => lv_dup2_11 C.hx C.hb hdg ha hb (k H locs ls hH hl)
theorem az_if_eq (C : az_C Y V cc nL own ret d) {x : Int32} {off : Int} (tgt : Nat) (hdg : decode cc pc = .ok (.ifCond .eq off, 3)) (ht : (pc : Int) + off = (tgt : Int)) (kt : x = 0 → AW Y V Q nL M tgt lv rest) (kf : ¬ (x = 0) → AW Y V Q nL M (pc + 3) lv rest) : AW Y V Q nL M pc lv (.int x :: rest) := fun H locs ls hH hl => lv_if_eq C.hx C.hb hdg ht (fun h => kt h H locs ls hH hl) (fun h => kf h H locs ls hH hl)
theorem az_if_ne (C : az_C Y V cc nL own ret d) {x : Int32} {off : Int} (tgt : Nat) (hdg : decode cc pc = .ok (.ifCond .ne off, 3)) (ht : (pc : Int) + off = (tgt : Int)) (kt : ¬ x = 0 → AW Y V Q nL M tgt lv rest) (kf : x = 0 → AW Y V Q nL M (pc + 3) lv rest) : AW Y V Q nL M pc lv (.int x :: rest) := fun H locs ls hH hl => lv_if_ne C.hx C.hb hdg ht (fun h => kt h H locs ls hH hl) (fun h => kf h H locs ls hH hl)
theorem az_if_lt (C : az_C Y V cc nL own ret d) {x : Int32} {off : Int} (tgt : Nat) (hdg : decode cc pc = .ok (.ifCond .lt off, 3)) (ht : (pc : Int) + off = (tgt : Int)) (kt : x < 0 → AW Y V Q nL M tgt lv rest) (kf : ¬ (x < 0) → AW Y V Q nL M (pc + 3) lv rest) : AW Y V Q nL M pc lv (.int x :: rest) := fun H locs ls hH hl => lv_if_lt C.hx C.hb hdg ht (fun h => kt h H locs ls hH hl) (fun h => kf h H locs ls hH hl)
theorem az_if_ge (C : az_C Y V cc nL own ret d) {x : Int32} {off : Int} (tgt : Nat) (hdg : decode cc pc = .ok (.ifCond .ge off, 3)) (ht : (pc : Int) + off = (tgt : Int)) (kt : 0 ≤ x → AW Y V Q nL M tgt lv rest) (kf : ¬ (0 ≤ x) → AW Y V Q nL M (pc + 3) lv rest) : AW Y V Q nL M pc lv (.int x :: rest) := fun H locs ls hH hl => lv_if_ge C.hx C.hb hdg ht (fun h => kt h H locs ls hH hl) (fun h => kf h H locs ls hH hl)
theorem az_if_gt (C : az_C Y V cc nL own ret d) {x : Int32} {off : Int} (tgt : Nat) (hdg : decode cc pc = .ok (.ifCond .gt off, 3)) (ht : (pc : Int) + off = (tgt : Int)) (kt : 0 < x → AW Y V Q nL M tgt lv rest) (kf : ¬ (0 < x) → AW Y V Q nL M (pc + 3) lv rest) : AW Y V Q nL M pc lv (.int x :: rest) := fun H locs ls hH hl => lv_if_gt C.hx C.hb hdg ht (fun h => kt h H locs ls hH hl) (fun h => kf h H locs ls hH hl)
theorem az_if_le (C : az_C Y V cc nL own ret d) {x : Int32} {off : Int} (tgt : Nat) (hdg : decode cc pc = .ok (.ifCond .le off, 3)) (ht : (pc : Int) + off = (tgt : Int)) (kt : x ≤ 0 → AW Y V Q nL M tgt lv rest) (kf : ¬ (x ≤ 0) → AW Y V Q nL M (pc + 3) lv rest) : AW Y V Q nL M pc lv (.int x :: rest) := fun H locs ls hH hl => lv_if_le C.hx C.hb hdg ht (fun h => kt h H locs ls hH hl) (fun h => kf h H locs ls hH hl)
theorem az_icmp_eq (C : az_C Y V cc nL own ret d) {x y : Int32} {off : Int} (tgt : Nat) (hdg : decode cc pc = .ok (.if_icmp .eq off, 3)) (ht : (pc : Int) + off = (tgt : Int)) (kt : x = y → AW Y V Q nL M tgt lv rest) (kf : ¬ (x = y) → AW Y V Q nL M (pc + 3) lv rest) : AW Y V Q nL M pc lv (.int y :: .int x :: rest) := fun H locs ls hH hl => lv_icmp_eq C.hx C.hb hdg ht (fun h => kt h H locs ls hH hl) (fun h => kf h H locs ls hH hl)
theorem az_icmp_ne (C : az_C Y V cc nL own ret d) {x y : Int32} {off : Int} (tgt : Nat) (hdg : decode cc pc = .ok (.if_icmp .ne off, 3)) (ht : (pc : Int) + off = (tgt : Int)) (kt : ¬ x = y → AW Y V Q nL M tgt lv rest) (kf : x = y → AW Y V Q nL M (pc + 3) lv rest) : AW Y V Q nL M pc lv (.int y :: .int x :: rest) := fun H locs ls hH hl => lv_icmp_ne C.hx C.hb hdg ht (fun h => kt h H locs ls hH hl) (fun h => kf h H locs ls hH hl)
theorem az_icmp_lt (C : az_C Y V cc nL own ret d) {x y : Int32} {off : Int} (tgt : Nat) (hdg : decode cc pc = .ok (.if_icmp .lt off, 3)) (ht : (pc : Int) + off = (tgt : Int)) (kt : x < y → AW Y V Q nL M tgt lv rest) (kf : ¬ (x < y) → AW Y V Q nL M (pc + 3) lv rest) : AW Y V Q nL M pc lv (.int y :: .int x :: rest) := fun H locs ls hH hl => lv_icmp_lt C.hx C.hb hdg ht (fun h => kt h H locs ls hH hl) (fun h => kf h H locs ls hH hl)
theorem az_icmp_ge (C : az_C Y V cc nL own ret d) {x y : Int32} {off : Int} (tgt : Nat) (hdg : decode cc pc = .ok (.if_icmp .ge off, 3)) (ht : (pc : Int) + off = (tgt : Int)) (kt : y ≤ x → AW Y V Q nL M tgt lv rest) (kf : ¬ (y ≤ x) → AW Y V Q nL M (pc + 3) lv rest) : AW Y V Q nL M pc lv (.int y :: .int x :: rest) := fun H locs ls hH hl => lv_icmp_ge C.hx C.hb hdg ht (fun h => kt h H locs ls hH hl) (fun h => kf h H locs ls hH hl)
theorem az_icmp_gt (C : az_C Y V cc nL own ret d) {x y : Int32} {off : Int} (tgt : Nat) (hdg : decode cc pc = .ok (.if_icmp .gt off, 3)) (ht : (pc : Int) + off = (tgt : Int)) (kt : y < x → AW Y V Q nL M tgt lv rest) (kf : ¬ (y < x) → AW Y V Q nL M (pc + 3) lv rest) : AW Y V Q nL M pc lv (.int y :: .int x :: rest) := fun H locs ls hH hl => lv_icmp_gt C.hx C.hb hdg ht (fun h => kt h H locs ls hH hl) (fun h => kf h H locs ls hH hl)
theorem az_icmp_le (C : az_C Y V cc nL own ret d) {x y : Int32} {off : Int} (tgt : Nat) (hdg : decode cc pc = .ok (.if_icmp .le off, 3)) (ht : (pc : Int) + off = (tgt : Int)) (kt : x ≤ y → AW Y V Q nL M tgt lv rest) (kf : ¬ (x ≤ y) → AW Y V Q nL M (pc + 3) lv rest) : AW Y V Q nL M pc lv (.int y :: .int x :: rest) := fun H locs ls hH hl => lv_icmp_le C.hx C.hb hdg ht (fun h => kt h H locs ls hH hl) (fun h => kf h H locs ls hH hl)
theorem az_goto (C : az_C Y V cc nL own ret d) {off : Int} (tgt : Nat) (hdg : decode cc pc = .ok (.goto off, 3)) (ht : (pc : Int) + off = (tgt : Int)) (k : AW Y V Q nL M tgt lv rest) : AW Y V Q nL M pc lv rest := fun H locs ls hH hl => lv_goto C.hx C.hb hdg ht (k H locs ls hH hl)
theorem az_tabOut (C : az_C Y V cc nL own ret d) {dflt lo hi : Int} {offs : Array Int} {len : Nat} {x : Int32} (tgt : Nat) (hdg : decode cc pc = .ok (.tableswitch dflt lo hi offs, len)) (h : x.toInt < lo ∨ hi < x.toInt) (ht : (pc : Int) + dflt = (tgt : Int)) (k : AW Y V Q nL M tgt lv rest) : AW Y V Q nL M pc lv (.int x :: rest) := fun H locs ls hH hl => lv_tableOut C.hx C.hb hdg h ht (k H locs ls hH hl)
theorem az_tabIn (C : az_C Y V cc nL own ret d) {dflt lo hi : Int} {offs : Array Int} {len : Nat} {x : Int32} {off : Int} (tgt : Nat) (hdg : decode cc pc = .ok (.tableswitch dflt lo hi offs, len)) (h1 : ¬ x.toInt < lo) (h2 : ¬ hi < x.toInt) (ho : offs[(x.toInt - lo).toNat]? = some off) (ht : (pc : Int) + off = (tgt : Int)) (k : AW Y V Q nL M tgt lv rest) : AW Y V Q nL M pc lv (.int x :: rest) := fun H locs ls hH hl => lv_tableIn C.hx C.hb hdg h1 h2 ho ht (k H locs ls hH hl)
theorem az_get_v {V : az_V} {M : az_M} {k j N : Nat} (h : j < N) : ((List.range N).map (az_v V M k))[j]? = some (az_v V M k j) := by
  rw [List.getElem?_map, List.getElem?_range h, Option.map_some]
theorem az_getf (C : az_C Y V cc nL own ret d) {idx b ci j : Nat} {v : Value} (hb : az_at V b ci) (hf : az_fl own idx ci j) (hv : az_v V M b j = v) (hdg : decode cc pc = .ok (.getfield idx, 3)) (k : AW Y V Q nL M (pc + 3) lv (v :: rest)) : AW Y V Q nL M pc lv (.ref (az_ad V b) :: rest) :=
  fun H locs ls hH hl => va_get (D := V.1) (ci := ci) (v := v) (C := az_R ci) (T := az_T ci) (N := az_N ci) C.hx C.hb C.hts (az_ws ci hf.1) C.hown C.hK hH.1 b ((az_wl_get hb.1).trans (congrArg (fun e => some (az_ad V b, e)) (az_cell_obj hb hf.1))) (az_cl_at ci hf.1) j hf.2.1 (C.hts _ hf.2.2) (fun _ h9 => h9) (by rw [az_get_v hf.2.1, hv]) hdg (k H locs ls hH hl)
theorem az_vi {V : az_V} {M : az_M} {b ci j : Nat} (hb : az_at V b ci) (h : az_fk (az_y ci j) = 0) : az_v V M b j = .int (M.1 b j) := by
  obtain ⟨-, rfl⟩ := hb
  simp only [az_v, h]
theorem az_vl {V : az_V} {M : az_M} {b ci j : Nat} (hb : az_at V b ci) (h : az_fk (az_y ci j) = 1) : az_v V M b j = .long (M.2.1 b j) := by
  obtain ⟨-, rfl⟩ := hb
  simp only [az_v, h]
theorem az_vr {V : az_V} {M : az_M} {b ci j : Nat} (hb : az_at V b ci) (h : az_fk (az_y ci j) = 2) : az_v V M b j = .ref (az_ad V (az_rt ci b j)) := by
  obtain ⟨-, rfl⟩ := hb
  simp only [az_v, h]
theorem az_geti (C : az_C Y V cc nL own ret d) {idx b ci j : Nat} (hb : az_at V b ci) (hf : az_fl own idx ci j) (h : az_fk (az_y ci j) = 0) (hdg : decode cc pc = .ok (.getfield idx, 3)) (k : AW Y V Q nL M (pc + 3) lv (.int (M.1 b j) :: rest)) : AW Y V Q nL M pc lv (.ref (az_ad V b) :: rest) := az_getf C hb hf (az_vi hb h) hdg k
theorem az_getl (C : az_C Y V cc nL own ret d) {idx b ci j : Nat} (hb : az_at V b ci) (hf : az_fl own idx ci j) (h : az_fk (az_y ci j) = 1) (hdg : decode cc pc = .ok (.getfield idx, 3)) (k : AW Y V Q nL M (pc + 3) lv (.long (M.2.1 b j) :: rest)) : AW Y V Q nL M pc lv (.ref (az_ad V b) :: rest) := az_getf C hb hf (az_vl hb h) hdg k
theorem az_getr (C : az_C Y V cc nL own ret d) {idx b ci j r : Nat} (hb : az_at V b ci) (hf : az_fl own idx ci j) (h : az_fk (az_y ci j) = 2) (hr : az_rt ci b j = r) (hdg : decode cc pc = .ok (.getfield idx, 3)) (k : AW Y V Q nL M (pc + 3) lv (.ref (az_ad V r) :: rest)) : AW Y V Q nL M pc lv (.ref (az_ad V b) :: rest) := az_getf C hb hf ((az_vr hb h).trans (by rw [hr])) hdg k
theorem az_puti (C : az_C Y V cc nL own ret d) {idx b ci j : Nat} {v : Int32} (hb : az_at V b ci) (hf : az_fl own idx ci j) (hfin : (az_T ci j).2.2.2 = false) (h : az_fk (az_y ci j) = 0) (hn : narrow (az_y ci j) (.int v) = .int v) (hfit : fits (az_y ci j) (.int v) = true) (hdg : decode cc pc = .ok (.putfield idx, 3)) (k : AW Y V Q nL (az_i M b j v) (pc + 3) lv rest) : AW Y V Q nL M pc lv (.int v :: .ref (az_ad V b) :: rest) :=
  fun H locs ls hH hl => va_put (D := V.1) (ci := ci) (v := .int v) (ty := az_y ci j) (C := az_R ci) (T := az_T ci) (N := az_N ci) C.hx C.hb C.hts (az_ws ci hf.1) (az_y ci) (az_y_ok ci hf.1) (az_nm ci hf.1) C.hown C.hK hH.1 hH.2.1 hH.2.2 b ((az_wl_get hb.1).trans (congrArg (fun e => some (az_ad V b, e)) (az_cell_obj hb hf.1))) (az_cl_at ci hf.1) j hf.2.1 (C.hts _ hf.2.2) (fun _ h9 => h9) hfin (az_y_ok ci hf.1 j hf.2.1) hn hfit (by simpa using hf.2.1) hdg (fun H1 locs1 hP hD hS => by
    have e : (az_wl V M).set b (az_ad V b, .inr (ci, ((List.range (az_N ci)).map (az_v V M b)).set j (.int v))) = az_wl V (az_i M b j v) := az_set_i hb.1 (by rw [az_cell_obj hb hf.1, az_fs_i hf.2.1 (by rw [hb.2]; exact h)])
    rw [e] at hP hD
    exact k H1 locs1 ls ⟨hP, hD, hS⟩ hl)
theorem az_putl (C : az_C Y V cc nL own ret d) {idx b ci j : Nat} {v : Int64} (hb : az_at V b ci) (hf : az_fl own idx ci j) (hfin : (az_T ci j).2.2.2 = false) (h : az_fk (az_y ci j) = 1) (hn : narrow (az_y ci j) (.long v) = .long v) (hfit : fits (az_y ci j) (.long v) = true) (hdg : decode cc pc = .ok (.putfield idx, 3)) (k : AW Y V Q nL (az_l M b j v) (pc + 3) lv rest) : AW Y V Q nL M pc lv (.long v :: .ref (az_ad V b) :: rest) :=
  fun H locs ls hH hl => va_put (D := V.1) (ci := ci) (v := .long v) (ty := az_y ci j) (C := az_R ci) (T := az_T ci) (N := az_N ci) C.hx C.hb C.hts (az_ws ci hf.1) (az_y ci) (az_y_ok ci hf.1) (az_nm ci hf.1) C.hown C.hK hH.1 hH.2.1 hH.2.2 b ((az_wl_get hb.1).trans (congrArg (fun e => some (az_ad V b, e)) (az_cell_obj hb hf.1))) (az_cl_at ci hf.1) j hf.2.1 (C.hts _ hf.2.2) (fun _ h9 => h9) hfin (az_y_ok ci hf.1 j hf.2.1) hn hfit (by simpa using hf.2.1) hdg (fun H1 locs1 hP hD hS => by
    have e : (az_wl V M).set b (az_ad V b, .inr (ci, ((List.range (az_N ci)).map (az_v V M b)).set j (.long v))) = az_wl V (az_l M b j v) := az_set_l hb.1 (by rw [az_cell_obj hb hf.1, az_fs_l hf.2.1 (by rw [hb.2]; exact h)])
    rw [e] at hP hD
    exact k H1 locs1 ls ⟨hP, hD, hS⟩ hl)
theorem az_iald (C : az_C Y V cc nL own ret d) {a len : Nat} (ha : az_ar V a 0 len) {i : Int32} (hin : vp_in i len) (hdg : decode cc pc = .ok (.iaload, 1)) (k : AW Y V Q nL M (pc + 1) lv (.int (M.1 a i.toNatClampNeg) :: rest)) : AW Y V Q nL M pc lv (.int i :: .ref (az_ad V a) :: rest) :=
  fun H locs ls hH hl => va_iald C.hx C.hb C.hK hH.1 a 0 ((az_wl_get ha.1).trans (congrArg (fun e => some (az_ad V a, e)) (az_cell_int ha (Or.inl rfl)))) rfl hin hdg (k H locs ls hH hl)
theorem az_zald (C : az_C Y V cc nL own ret d) {a len : Nat} (ha : az_ar V a 2 len) {i : Int32} (hin : vp_in i len) (hdg : decode cc pc = .ok (.baload, 1)) (k : AW Y V Q nL M (pc + 1) lv (.int (M.1 a i.toNatClampNeg) :: rest)) : AW Y V Q nL M pc lv (.int i :: .ref (az_ad V a) :: rest) :=
  fun H locs ls hH hl => va_zald C.hx C.hb C.hK hH.1 a 2 ((az_wl_get ha.1).trans (congrArg (fun e => some (az_ad V a, e)) (az_cell_int ha (Or.inr rfl)))) rfl hin hdg (k H locs ls hH hl)
theorem az_lald (C : az_C Y V cc nL own ret d) {a len : Nat} (ha : az_ar V a 1 len) {i : Int32} (hin : vp_in i len) (hdg : decode cc pc = .ok (.laload, 1)) (k : AW Y V Q nL M (pc + 1) lv (.long (M.2.1 a i.toNatClampNeg) :: rest)) : AW Y V Q nL M pc lv (.int i :: .ref (az_ad V a) :: rest) :=
  fun H locs ls hH hl => va_lald C.hx C.hb C.hK hH.1 a 1 ((az_wl_get ha.1).trans (congrArg (fun e => some (az_ad V a, e)) (az_cell_long ha))) rfl hin hdg (k H locs ls hH hl)
theorem az_iast (C : az_C Y V cc nL own ret d) {a len : Nat} (ha : az_ar V a 0 len) {i x : Int32} (hin : vp_in i len) (hdg : decode cc pc = .ok (.iastore, 1)) (k : AW Y V Q nL (az_i M a i.toNatClampNeg x) (pc + 1) lv rest) : AW Y V Q nL M pc lv (.int x :: .int i :: .ref (az_ad V a) :: rest) :=
  fun H locs ls hH hl => va_iast C.hx C.hb C.hK hH.1 hH.2.1 hH.2.2 a 0 ((az_wl_get ha.1).trans (congrArg (fun e => some (az_ad V a, e)) (az_cell_int ha (Or.inl rfl)))) rfl hin hdg (fun H1 locs1 hP hD hS => by
    rw [az_set_i (v := x) (j := i.toNatClampNeg) ha.1 (by rw [az_cell_int ha (Or.inl rfl), az_i_eq])] at hP hD
    exact k H1 locs1 ls ⟨hP, hD, hS⟩ hl)
theorem az_zast (C : az_C Y V cc nL own ret d) {a len : Nat} (ha : az_ar V a 2 len) {i x : Int32} (hin : vp_in i len) (hx : vp_nar .boolean x = x) (hdg : decode cc pc = .ok (.bastore, 1)) (k : AW Y V Q nL (az_i M a i.toNatClampNeg x) (pc + 1) lv rest) : AW Y V Q nL M pc lv (.int x :: .int i :: .ref (az_ad V a) :: rest) :=
  fun H locs ls hH hl => va_zast C.hx C.hb C.hK hH.1 hH.2.1 hH.2.2 a 2 ((az_wl_get ha.1).trans (congrArg (fun e => some (az_ad V a, e)) (az_cell_int ha (Or.inr rfl)))) rfl hin hdg (fun H1 locs1 hP hD hS => by
    rw [hx, az_set_i (v := x) (j := i.toNatClampNeg) ha.1 (by rw [az_cell_int ha (Or.inr rfl), az_i_eq])] at hP hD
    exact k H1 locs1 ls ⟨hP, hD, hS⟩ hl)
theorem az_last (C : az_C Y V cc nL own ret d) {a len : Nat} (ha : az_ar V a 1 len) {i : Int32} {x : Int64} (hin : vp_in i len) (hdg : decode cc pc = .ok (.lastore, 1)) (k : AW Y V Q nL (az_l M a i.toNatClampNeg x) (pc + 1) lv rest) : AW Y V Q nL M pc lv (.long x :: .int i :: .ref (az_ad V a) :: rest) :=
  fun H locs ls hH hl => va_last C.hx C.hb C.hK hH.1 hH.2.1 hH.2.2 a 1 ((az_wl_get ha.1).trans (congrArg (fun e => some (az_ad V a, e)) (az_cell_long ha))) rfl hin hdg (fun H1 locs1 hP hD hS => by
    rw [az_set_l (v := x) (j := i.toNatClampNeg) ha.1 (by rw [az_cell_long ha, az_l_eq])] at hP hD
    exact k H1 locs1 ls ⟨hP, hD, hS⟩ hl)
theorem az_alen (C : az_C Y V cc nL own ret d) {a t len : Nat} (ha : az_ar V a t len) (ht : t = 0) {v : Int32} (hv : Int32.ofNat len = v) (hdg : decode cc pc = .ok (.arraylength, 1)) (k : AW Y V Q nL M (pc + 1) lv (.int v :: rest)) : AW Y V Q nL M pc lv (.ref (az_ad V a) :: rest) := by
  subst ht
  exact fun H locs ls hH hl => va_alen C.hx C.hb C.hK hH.1 a 0 (x := (len, .inl (M.1 a))) ((az_wl_get ha.1).trans (congrArg (fun e => some (az_ad V a, e)) (az_cell_int ha (Or.inl rfl)))) rfl hv hdg (k H locs ls hH hl)
theorem az_goodB {ws : List Cond} (h : ∀ w ∈ ws, w ∈ az_B) : GoodIn az_B ws := fun w hw => ⟨h w hw, good_of_word (az_good w (h w hw))⟩
/-- what a call's return gives back -/
theorem az_back (C : az_C Y V cc nL own ret d) {st : List Value} {post : Option Value → az_M → Prop} {a : Array Value} {H : Heap} {locs : List Loc} {ls : Array Slot} (hH : az_H Y V M H locs) (hl : lv_has ls nL lv) (hrun : va_Run Y.1 Y.2.1 Y.2.2.1 Y.2.2.2.1 (az_s Y) (az_m Y) (az_args Y) (az_below Y) (az_meth Y) (az_c Y) H locs Y.2.2.2.2.2.2.2.2.2.2.2.1 Y.2.2.2.2.2.2.2.2.2.2.2.2 0 0 (F0 (az_m Y) pc ls st) rest (az_Q V post (az_F V H.size) a) (az_F V H.size)) (k : ∀ (v : Option Value) (M' : az_M), post v M' → AW Y V Q nL M' (pc + 3) lv (v.toList ++ rest)) : az_W Y H locs Q (F0 (az_m Y) pc ls st) := by
  intro T hT X
  have hF : ∀ q, az_F V H.size q → az_A Y q := fun q h => by
    rcases h with ⟨k, hk, rfl⟩ | h
    · exact hH.2.1.2 k _ (az_wl_get hk)
    · exact C.hA q (Nat.le_trans hH.2.2.1 h)
  obtain ⟨v, st₀, t, T', L, h0, X', hL, e1, e2, ⟨⟨v', M', hv, hp, hP, hD⟩, hz, hk⟩, go⟩ := hrun T hT X
  cases hv
  rw [h0] at hz hk
  have hH' : az_H Y V M' T'.heap (locs ++ L) := by
    refine ⟨by rw [e1]; exact hP, hD.weaken (fun _ _ _ h => hF _ h), ?_⟩
    refine ⟨Nat.le_trans hH.2.2.1 (by rw [e1]; exact hz), fun q h1 h2 => ?_, fun q hq => ?_⟩
    · rw [e1, hk q (Nat.lt_of_lt_of_le h1 hH.2.2.1) (fun z => h2 (hF q z))]
      exact hH.2.2.2.1 q h1 h2
    · rcases List.mem_append.mp hq with h | h
      · exact hH.2.2.2.2 q h
      · exact hF _ (hL q h)
  obtain ⟨t2, a1, b1⟩ := k v M' hp T'.heap (locs ++ L) ls hH' hl T' rfl X'
  exact ⟨t2, go t2 a1, b1⟩
theorem az_preU (C : az_C Y V cc nL own ret d) {av : List Value} {H : Heap} {locs : List Loc} (hH : az_H Y V M H locs) : FrameBlind (va_Pc av (az_pre V M H.size)) ∧ ∀ U : State, U.heap = H → (az_s Y).WarmedH U.vm → va_Pc av (az_pre V M H.size) av.toArray U := by
  have hF : ∀ q, az_F V H.size q → az_A Y q := fun q h => by
    rcases h with ⟨k, hk, rfl⟩ | h
    · exact hH.2.1.2 k _ (az_wl_get hk)
    · exact C.hA q (Nat.le_trans hH.2.2.1 h)
  refine ⟨fun a U g mk q => ?_, fun U hU hW => ⟨rfl, by rw [hU], by rw [hU]; exact hH.1, va_K.moved hW.alike C.hK, hH.2.1.weaken (fun _ _ _ _ => trivial), ?_, C.hL⟩⟩
  · obtain ⟨q0, q1, qP, qK, qD, qE, qL⟩ := q
    exact ⟨q0, q1, qP, va_K.moved (u := U) (U := U.calling g mk a) (Vm.Alike.refl U.vm) qK, qD, az_E.same (u := U) (U := U.calling g mk a) rfl qE, qL⟩
  · rw [hU]
    exact ((C.hE.kept (fun a ha hn => hH.2.2.2.1 a ha hn)).narrow hF).warm hW
theorem az_callV (C : az_C Y V cc nL own ret d) {idx b ci n d' mL : Nat} {y : MethodName} {bt : ByteArray} {rt : Option FieldType} {post : Option Value → az_M → Prop} {st : List Value} (As : List Value) (hM : az_Ct Y.2.1 V y bt mL rt d' (.ref (az_ad V b) :: As) M post) (hd : d' + 1 ≤ d) (lk : az_lV own idx (az_R ci) y bt mL rt n) (hb : az_at V b ci) (hc : ci < 13) (hst : st = As.reverse ++ .ref (az_ad V b) :: rest) (hn : As.length = n) (hr : (rest.map fun v => v.category).sum ≤ 8) (hdg : decode cc pc = .ok (.invokevirtual idx, 3)) (k : ∀ (v : Option Value) (M' : az_M), post v M' → AW Y V Q nL M' (pc + 3) lv (v.toList ++ rest)) : AW Y V Q nL M pc lv st := by
  subst hst
  intro H locs ls hH hl
  have hR := C.hR
  have hrm : (az_rm d').frames + 1 ≤ Y.2.2.2.1.frames ∧ 8 + (mL + 11) + (az_rm d').locals ≤ Y.2.2.2.1.locals := by
    have h81 := lk.2.2
    refine ⟨Nat.le_trans hd hR.1, ?_⟩
    show 8 + (mL + 11) + 100 * d' ≤ _
    omega
  have hG : GoodIn az_B (wsV own idx (az_R ci) y (Cond.code y bt mL rt :: az_B)) := by
    refine az_goodB fun w hw => ?_
    rcases List.mem_append.mp hw with h | h
    · rcases List.mem_cons.mp h with rfl | h
      · exact lk.1.1
      rcases List.mem_cons.mp h with rfl | h
      · exact lk.1.2.1
      rcases List.mem_cons.mp h with rfl | h
      · exact lk.1.2.2.1
      rcases List.mem_cons.mp h with rfl | h
      · exact lk.1.2.2.2.1
      · cases h
    · rcases List.mem_cons.mp h with rfl | h
      · exact lk.1.2.2.2.2
      · exact h
  exact az_back C hH hl (va_runV (As := As) (rest := rest) C.1 (hM H.size) (cwV n C.hts hG rfl rfl rfl lk.2.1 hrm) ⟨(az_preU C hH).1, va_recv C.hK hH.1 (ci := ci) (q0 := b) (az_cl_at ci hc) ((az_wl_get hb.1).trans (congrArg (fun e => some (az_ad V b, e)) (az_cell_obj hb hc))), (az_preU C hH).2⟩ rfl hn hl.1 rfl (lv_room hr) hdg ⟨hR.2.2.1, hR.2.2.2⟩) k
theorem az_callS (C : az_C Y V cc nL own ret d) {idx n d' mL : Nat} {y : MethodName} {bt : ByteArray} {rt : Option FieldType} {post : Option Value → az_M → Prop} {st : List Value} (As : List Value) (hM : az_Ct Y.2.1 V y bt mL rt d' As M post) (hd : d' + 1 ≤ d) (lk : az_lS own idx y bt mL rt n) (hst : st = As.reverse ++ rest) (hn : As.length = n) (hr : (rest.map fun v => v.category).sum ≤ 8) (hdg : decode cc pc = .ok (.invokestatic idx, 3)) (k : ∀ (v : Option Value) (M' : az_M), post v M' → AW Y V Q nL M' (pc + 3) lv (v.toList ++ rest)) : AW Y V Q nL M pc lv st := by
  subst hst
  intro H locs ls hH hl
  have hR := C.hR
  have hrm : (az_rm d').frames + 1 ≤ Y.2.2.2.1.frames ∧ 8 + (mL + 11) + (az_rm d').locals ≤ Y.2.2.2.1.locals := by
    have h81 := lk.2.2
    refine ⟨Nat.le_trans hd hR.1, ?_⟩
    show 8 + (mL + 11) + 100 * d' ≤ _
    omega
  have hG : GoodIn az_B (Cond.code y bt mL rt :: az_B) := by
    refine az_goodB fun w hw => ?_
    rcases List.mem_cons.mp hw with rfl | h
    · exact lk.1.2.2.2
    · exact h
  exact az_back C hH hl (va_runS (As := As) (rest := rest) C.1 (hM H.size) ⟨callB_of n C.hts hG rfl rfl rfl (C.hts _ lk.1.2.2.1) (C.hts _ lk.1.1) lk.2.1 hrm, C.hts _ lk.1.2.1⟩ (az_preU C hH) rfl hn hl.1 rfl (lv_room hr) hdg ⟨hR.2.2.1, hR.2.2.2⟩) k
end AZI
