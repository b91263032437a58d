/-! ===== the walk's judgement with any room and any end: the law's wrappers, the law's loop ===== -/
/-- what is fixed while a method of the law runs -/
def Fy (G : GM) (p : Program) (l : Launch) (s : State) (m : MethodId) (args : Array Value) (meth : Method) (c : Code) (cc : ByteArray) (own : String) (nL : Nat) (ret : Option FieldType) : Prop :=
  p.tables.exec = Jvm.exec ∧ c.code = cc ∧ meth.sig.returnType = ret ∧ c.maxLocals = nL ∧ s.vm.findClass own = some m.cls ∧ (∀ w ∈ wsA, w.before args s = true) ∧ meth.locks = false ∧ KS G s s.heap ∧ g0 G ≤ s.heap.size ∧ GG G ∧ l.stackTraces = false
section RW
variable {G : GM} {p : Program} {l : Launch} {e : Env} {R : Room} {s : State} {m : MethodId} {args : Array Value} {below : List Frame} {meth : Method} {c : Code} {cc : ByteArray} {own : String} {nL : Nat} {ret : Option FieldType} {u9 w9 : Nat} {Q : State → Prop}
theorem Fy.x (F : Fy G p l s m args meth c cc own nL ret) : p.tables.exec = Jvm.exec := F.1
theorem Fy.b (F : Fy G p l s m args meth c cc own nL ret) : c.code = cc := F.2.1
theorem Fy.r (F : Fy G p l s m args meth c cc own nL ret) : meth.sig.returnType = ret := F.2.2.1
theorem Fy.ml (F : Fy G p l s m args meth c cc own nL ret) : c.maxLocals = nL := F.2.2.2.1
theorem Fy.ow (F : Fy G p l s m args meth c cc own nL ret) : s.vm.findClass own = some m.cls := F.2.2.2.2.1
theorem Fy.ws (F : Fy G p l s m args meth c cc own nL ret) : ∀ w ∈ wsA, w.before args s = true := F.2.2.2.2.2.1
theorem Fy.lk (F : Fy G p l s m args meth c cc own nL ret) : meth.locks = false := F.2.2.2.2.2.2.1
theorem Fy.ks (F : Fy G p l s m args meth c cc own nL ret) : KS G s s.heap := F.2.2.2.2.2.2.2.1
theorem Fy.g0 (F : Fy G p l s m args meth c cc own nL ret) : g0 G ≤ s.heap.size := F.2.2.2.2.2.2.2.2.1
theorem Fy.gg (F : Fy G p l s m args meth c cc own nL ret) : GG G := F.2.2.2.2.2.2.2.2.2.1
theorem Fy.st (F : Fy G p l s m args meth c cc own nL ret) : l.stackTraces = false := F.2.2.2.2.2.2.2.2.2.2
theorem Fy.K (F : Fy G p l s m args meth c cc own nL ret) : va_K (gD G) vwCl (tysG G) s := F.ks.1
/-- from here the machine comes to Q -/
def Rw (G : GM) (p : Program) (l : Launch) (e : Env) (R : Room) (s : State) (m : MethodId) (args : Array Value) (below : List Frame) (meth : Method) (c : Code) (nL u9 w9 : Nat) (Q : State → Prop) (pc : Nat) (ls : List (Nat × Value)) (st : List Value) (M : Mem) : Prop :=
  ∀ (H : Heap) (locs : List Loc) (la : Array Slot), va_P (gD G) vwCl (wd G M) H → va_S (A0 G) s.heap H locs → lv_has la nL ls →
    W p l e R s m args below meth c H locs u9 w9 Q (F0 m pc la st)
variable {pc : Nat} {ls : List (Nat × Value)} {st : List Value} {M : Mem}
theorem w_sub (ks : List Nat) {ls' : List (Nat × Value)} (h : lv_pick ls ks = ls') (K : Rw G p l e R s m args below meth c nL u9 w9 Q pc ls' st M) : Rw G p l e R s m args below meth c nL u9 w9 Q pc ls st M :=
  fun H locs la hP hS hl => K H locs la hP hS (lv_sub hl ks h)
theorem w_wide {u2 w2 : Nat} (h1 : u9 ≤ u2) (h2 : w9 ≤ w2) (K : Rw G p l e R s m args below meth c nL u2 w2 Q pc ls st M) : Rw G p l e R s m args below meth c nL u9 w9 Q pc ls st M :=
  fun H locs la hP hS hl => W.widen h1 h2 (K H locs la hP hS hl)
theorem w_iconst (F : Fy G p l s m args meth c cc own nL ret) {n : Int} {v : Int32} (hd : decode cc pc = .ok (.iconst n, 1)) (hv : Int32.ofInt n = v) (K : Rw G p l e R s m args below meth c nL u9 w9 Q (pc + 1) ls (.int v :: st) M) : Rw G p l e R s m args below meth c nL u9 w9 Q pc ls (st) M :=
  fun H locs la hP hS hl => lv_iconst F.x F.b hd hv (K H locs la hP hS hl)
theorem w_bipush (F : Fy G p l s m args meth c cc own nL ret) {n : Int} {v : Int32} (hd : decode cc pc = .ok (.bipush n, 2)) (hv : (Int8.ofInt n).toInt32 = v) (K : Rw G p l e R s m args below meth c nL u9 w9 Q (pc + 2) ls (.int v :: st) M) : Rw G p l e R s m args below meth c nL u9 w9 Q pc ls (st) M :=
  fun H locs la hP hS hl => lv_bipush F.x F.b hd hv (K H locs la hP hS hl)
theorem w_sipush (F : Fy G p l s m args meth c cc own nL ret) {n : Int} {v : Int32} (hd : decode cc pc = .ok (.sipush n, 3)) (hv : (Int16.ofInt n).toInt32 = v) (K : Rw G p l e R s m args below meth c nL u9 w9 Q (pc + 3) ls (.int v :: st) M) : Rw G p l e R s m args below meth c nL u9 w9 Q pc ls (st) M :=
  fun H locs la hP hS hl => lv_sipush F.x F.b hd hv (K H locs la hP hS hl)
theorem w_lconst (F : Fy G p l s m args meth c cc own nL ret) {n : Fin 2} {v : Int64} (hd : decode cc pc = .ok (.lconst n, 1)) (hv : Int64.ofNat (n : Nat) = v) (K : Rw G p l e R s m args below meth c nL u9 w9 Q (pc + 1) ls (.long v :: st) M) : Rw G p l e R s m args below meth c nL u9 w9 Q pc ls (st) M :=
  fun H locs la hP hS hl => lv_lconst F.x F.b hd hv (K H locs la hP hS hl)
theorem w_iload_n (F : Fy G p l s m args meth c cc own nL ret) {k : Fin 4} {i : Nat} {x : Int32} (j : Nat) (hd : decode cc pc = .ok (.iload_n k, 1)) (hi : (k : Nat) = i) (hj : ls[j]? = some (i, .int x)) (K : Rw G p l e R s m args below meth c nL u9 w9 Q (pc + 1) ls (.int x :: st) M) : Rw G p l e R s m args below meth c nL u9 w9 Q pc ls (st) M :=
  fun H locs la hP hS hl => lv_iload_n F.x F.b hd hi (lv_at hl j hj) (K H locs la hP hS hl)
theorem w_iload (F : Fy G p l s m args meth c cc own nL ret) {i : Nat} {x : Int32} (j : Nat) (hd : decode cc pc = .ok (.iload i, 2)) (hj : ls[j]? = some (i, .int x)) (K : Rw G p l e R s m args below meth c nL u9 w9 Q (pc + 2) ls (.int x :: st) M) : Rw G p l e R s m args below meth c nL u9 w9 Q pc ls (st) M :=
  fun H locs la hP hS hl => lv_iload F.x F.b hd (lv_at hl j hj) (K H locs la hP hS hl)
theorem w_lload (F : Fy G p l s m args meth c cc own nL ret) {i : Nat} {x : Int64} (j : Nat) (hd : decode cc pc = .ok (.lload i, 2)) (hj : ls[j]? = some (i, .long x)) (K : Rw G p l e R s m args below meth c nL u9 w9 Q (pc + 2) ls (.long x :: st) M) : Rw G p l e R s m args below meth c nL u9 w9 Q pc ls (st) M :=
  fun H locs la hP hS hl => lv_lload F.x F.b hd (lv_at hl j hj) (K H locs la hP hS hl)
theorem w_lload_n (F : Fy G p l s m args meth c cc own nL ret) {k : Fin 4} {i : Nat} {x : Int64} (j : Nat) (hd : decode cc pc = .ok (.lload_n k, 1)) (hi : (k : Nat) = i) (hj : ls[j]? = some (i, .long x)) (K : Rw G p l e R s m args below meth c nL u9 w9 Q (pc + 1) ls (.long x :: st) M) : Rw G p l e R s m args below meth c nL u9 w9 Q pc ls (st) M :=
  fun H locs la hP hS hl => lv_lload_n F.x F.b hd hi (lv_at hl j hj) (K H locs la hP hS hl)
theorem w_aload_n (F : Fy G p l s m args meth c cc own nL ret) {k : Fin 4} {i a : Nat} (j : Nat) (hd : decode cc pc = .ok (.aload_n k, 1)) (hi : (k : Nat) = i) (hj : ls[j]? = some (i, .ref a)) (K : Rw G p l e R s m args below meth c nL u9 w9 Q (pc + 1) ls (.ref a :: st) M) : Rw G p l e R s m args below meth c nL u9 w9 Q pc ls (st) M :=
  fun H locs la hP hS hl => lv_aload_n F.x F.b hd hi (lv_at hl j hj) (K H locs la hP hS hl)
theorem w_aload (F : Fy G p l s m args meth c cc own nL ret) {i a : Nat} (j : Nat) (hd : decode cc pc = .ok (.aload i, 2)) (hj : ls[j]? = some (i, .ref a)) (K : Rw G p l e R s m args below meth c nL u9 w9 Q (pc + 2) ls (.ref a :: st) M) : Rw G p l e R s m args below meth c nL u9 w9 Q pc ls (st) M :=
  fun H locs la hP hS hl => lv_aload F.x F.b hd (lv_at hl j hj) (K H locs la hP hS hl)
theorem w_astore (F : Fy G p l s m args meth c cc own nL ret) {i a : Nat} {ls' : List (Nat × Value)} (hd : decode cc pc = .ok (.astore i, 2)) (hn : i < nL) (hl' : (i, Value.ref a) :: ls.filter (fun q => !(q.1 == i) && !(q.1 + 1 == i && q.2.category == 2)) = ls') (K : Rw G p l e R s m args below meth c nL u9 w9 Q (pc + 2) ls' st M) : Rw G p l e R s m args below meth c nL u9 w9 Q pc ls (.ref a :: st) M :=
  fun H locs la hP hS hl => lv_astore F.x F.b hd hl hn hl' (fun la hl => K H locs la hP hS hl)
theorem w_astore_n (F : Fy G p l s m args meth c cc own nL ret) {k : Fin 4} {i a : Nat} {ls' : List (Nat × Value)} (hd : decode cc pc = .ok (.astore_n k, 1)) (hi : (k : Nat) = i) (hn : i < nL) (hl' : (i, Value.ref a) :: ls.filter (fun q => !(q.1 == i) && !(q.1 + 1 == i && q.2.category == 2)) = ls') (K : Rw G p l e R s m args below meth c nL u9 w9 Q (pc + 1) ls' st M) : Rw G p l e R s m args below meth c nL u9 w9 Q pc ls (.ref a :: st) M :=
  fun H locs la hP hS hl => lv_astore_n F.x F.b hd hi hl hn hl' (fun la hl => K H locs la hP hS hl)
theorem w_istore (F : Fy G p l s m args meth c cc own nL ret) {i : Nat} {x : Int32} {ls' : List (Nat × Value)} (hd : decode cc pc = .ok (.istore i, 2)) (hn : i < nL) (hl' : (i, Value.int x) :: ls.filter (fun q => !(q.1 == i) && !(q.1 + 1 == i && q.2.category == 2)) = ls') (K : Rw G p l e R s m args below meth c nL u9 w9 Q (pc + 2) ls' st M) : Rw G p l e R s m args below meth c nL u9 w9 Q pc ls (.int x :: st) M :=
  fun H locs la hP hS hl => lv_istore F.x F.b hd hl hn hl' (fun la hl => K H locs la hP hS hl)
theorem w_istore_n (F : Fy G p l s m args meth c cc own nL ret) {k : Fin 4} {i : Nat} {x : Int32} {ls' : List (Nat × Value)} (hd : decode cc pc = .ok (.istore_n k, 1)) (hi : (k : Nat) = i) (hn : i < nL) (hl' : (i, Value.int x) :: ls.filter (fun q => !(q.1 == i) && !(q.1 + 1 == i && q.2.category == 2)) = ls') (K : Rw G p l e R s m args below meth c nL u9 w9 Q (pc + 1) ls' st M) : Rw G p l e R s m args below meth c nL u9 w9 Q pc ls (.int x :: st) M :=
  fun H locs la hP hS hl => lv_istore_n F.x F.b hd hi hl hn hl' (fun la hl => K H locs la hP hS hl)
theorem w_lstore (F : Fy G p l s m args meth c cc own nL ret) {i : Nat} {x : Int64} {ls' : List (Nat × Value)} (hd : decode cc pc = .ok (.lstore i, 2)) (hn : i + 1 < nL) (hl' : (i, Value.long x) :: ls.filter (fun q => !(q.1 == i) && (!(q.1 == i + 1) && !(q.1 + 1 == i && q.2.category == 2))) = ls') (K : Rw G p l e R s m args below meth c nL u9 w9 Q (pc + 2) ls' st M) : Rw G p l e R s m args below meth c nL u9 w9 Q pc ls (.long x :: st) M :=
  fun H locs la hP hS hl => lv_lstore F.x F.b hd hl hn hl' (fun la hl => K H locs la hP hS hl)
theorem w_lstore_n (F : Fy G p l s m args meth c cc own nL ret) {k : Fin 4} {i : Nat} {x : Int64} {ls' : List (Nat × Value)} (hd : decode cc pc = .ok (.lstore_n k, 1)) (hi : (k : Nat) = i) (hn : i + 1 < nL) (hl' : (i, Value.long x) :: ls.filter (fun q => !(q.1 == i) && (!(q.1 == i + 1) && !(q.1 + 1 == i && q.2.category == 2))) = ls') (K : Rw G p l e R s m args below meth c nL u9 w9 Q (pc + 1) ls' st M) : Rw G p l e R s m args below meth c nL u9 w9 Q pc ls (.long x :: st) M :=
  fun H locs la hP hS hl => lv_lstore_n F.x F.b hd hi hl hn hl' (fun la hl => K H locs la hP hS hl)
theorem w_iadd (F : Fy G p l s m args meth c cc own nL ret) {x y : Int32} (hd : decode cc pc = .ok (.iadd, 1)) (K : Rw G p l e R s m args below meth c nL u9 w9 Q (pc + 1) ls (.int (x + y) :: st) M) : Rw G p l e R s m args below meth c nL u9 w9 Q pc ls (.int y :: .int x :: st) M :=
  fun H locs la hP hS hl => lv_iadd F.x F.b hd (K H locs la hP hS hl)
theorem w_isub (F : Fy G p l s m args meth c cc own nL ret) {x y : Int32} (hd : decode cc pc = .ok (.isub, 1)) (K : Rw G p l e R s m args below meth c nL u9 w9 Q (pc + 1) ls (.int (x - y) :: st) M) : Rw G p l e R s m args below meth c nL u9 w9 Q pc ls (.int y :: .int x :: st) M :=
  fun H locs la hP hS hl => lv_isub F.x F.b hd (K H locs la hP hS hl)
theorem w_imul (F : Fy G p l s m args meth c cc own nL ret) {x y : Int32} (hd : decode cc pc = .ok (.imul, 1)) (K : Rw G p l e R s m args below meth c nL u9 w9 Q (pc + 1) ls (.int (x * y) :: st) M) : Rw G p l e R s m args below meth c nL u9 w9 Q pc ls (.int y :: .int x :: st) M :=
  fun H locs la hP hS hl => lv_imul F.x F.b hd (K H locs la hP hS hl)
theorem w_iand (F : Fy G p l s m args meth c cc own nL ret) {x y : Int32} (hd : decode cc pc = .ok (.iand, 1)) (K : Rw G p l e R s m args below meth c nL u9 w9 Q (pc + 1) ls (.int (x &&& y) :: st) M) : Rw G p l e R s m args below meth c nL u9 w9 Q pc ls (.int y :: .int x :: st) M :=
  fun H locs la hP hS hl => lv_iand F.x F.b hd (K H locs la hP hS hl)
theorem w_ishr (F : Fy G p l s m args meth c cc own nL ret) {x y : Int32} (hd : decode cc pc = .ok (.ishr, 1)) (K : Rw G p l e R s m args below meth c nL u9 w9 Q (pc + 1) ls (.int (x >>> (y &&& 31)) :: st) M) : Rw G p l e R s m args below meth c nL u9 w9 Q pc ls (.int y :: .int x :: st) M :=
  fun H locs la hP hS hl => lv_ishr F.x F.b hd (K H locs la hP hS hl)
theorem w_irem (F : Fy G p l s m args meth c cc own nL ret) {x y : Int32} (hd : decode cc pc = .ok (.irem, 1)) (hne : ¬ y = 0) (K : Rw G p l e R s m args below meth c nL u9 w9 Q (pc + 1) ls (.int (x - x / y * y) :: st) M) : Rw G p l e R s m args below meth c nL u9 w9 Q pc ls (.int y :: .int x :: st) M :=
  fun H locs la hP hS hl => lv_irem F.x F.b hd hne (K H locs la hP hS hl)
theorem w_i2l (F : Fy G p l s m args meth c cc own nL ret) {x : Int32} (hd : decode cc pc = .ok (.i2l, 1)) (K : Rw G p l e R s m args below meth c nL u9 w9 Q (pc + 1) ls (.long x.toInt64 :: st) M) : Rw G p l e R s m args below meth c nL u9 w9 Q pc ls (.int x :: st) M :=
  fun H locs la hP hS hl => lv_i2l F.x F.b hd rfl (K H locs la hP hS hl)
theorem w_lcmp (F : Fy G p l s m args meth c cc own nL ret) {x y : Int64} (hd : decode cc pc = .ok (.lcmp, 1)) (K : Rw G p l e R s m args below meth c nL u9 w9 Q (pc + 1) ls (.int (lg_cmp x y) :: st) M) : Rw G p l e R s m args below meth c nL u9 w9 Q pc ls (.long y :: .long x :: st) M :=
  fun H locs la hP hS hl => W.lcmp F.x F.b hd (K H locs la hP hS hl)
theorem w_dup (F : Fy G p l s m args meth c cc own nL ret) {va : Value} (hd : decode cc pc = .ok (.dup, 1)) (hva : va.category = 1) (K : Rw G p l e R s m args below meth c nL u9 w9 Q (pc + 1) ls (va :: va :: st) M) : Rw G p l e R s m args below meth c nL u9 w9 Q pc ls (va :: st) M :=
  fun H locs la hP hS hl => lv_dup F.x F.b hd hva (K H locs la hP hS hl)
theorem w_pop (F : Fy G p l s m args meth c cc own nL ret) {va : Value} (hd : decode cc pc = .ok (.pop, 1)) (hva : va.category = 1) (K : Rw G p l e R s m args below meth c nL u9 w9 Q (pc + 1) ls (st) M) : Rw G p l e R s m args below meth c nL u9 w9 Q pc ls (va :: st) M :=
  fun H locs la hP hS hl => lv_pop F.x F.b hd hva (K H locs la hP hS hl)
theorem w_goto (F : Fy G p l s m args meth c cc own nL ret) {off : Int} {tgt : Nat} (hd : decode cc pc = .ok (.goto off, 3)) (ht : (pc : Int) + off = (tgt : Int)) (K : Rw G p l e R s m args below meth c nL u9 w9 Q tgt ls st M) : Rw G p l e R s m args below meth c nL u9 w9 Q pc ls st M :=
  fun H locs la hP hS hl => lv_goto F.x F.b hd ht (K H locs la hP hS hl)
theorem w_ldc (F : Fy G p l s m args meth c cc own nL ret) {v : Int32} {ix : Nat} (hd : decode cc pc = .ok (.ldc ix, 2)) (hw : Cond.constant own ix v ∈ wsA) (K : Rw G p l e R s m args below meth c nL u9 w9 Q (pc + 2) ls (.int v :: st) M) : Rw G p l e R s m args below meth c nL u9 w9 Q pc ls (st) M :=
  fun H locs la hP hS hl => lv_ldc F.x F.b F.ow (F.ws _ hw) hd (K H locs la hP hS hl)
theorem w_iinc (F : Fy G p l s m args meth c cc own nL ret) {i k : Nat} {n : Int} {x v : Int32} {ls' : List (Nat × Value)} (hd : decode cc pc = .ok (.iinc i n, 3)) (hk : ls[k]? = some (i, .int x)) (hv : x + Int32.ofInt n = v) (hn : i < nL) (hl' : (i, Value.int v) :: ls.filter (fun q => !(q.1 == i) && !(q.1 + 1 == i && q.2.category == 2)) = ls') (K : Rw G p l e R s m args below meth c nL u9 w9 Q (pc + 3) ls' st M) : Rw G p l e R s m args below meth c nL u9 w9 Q pc ls st M :=
  fun H locs la hP hS hl => lv_iinc F.x F.b hd hl hk hv hn hl' (fun la hl => K H locs la hP hS hl)
theorem w_icmp_eq (F : Fy G p l s m args meth c cc own nL ret) {x y : Int32} {off : Int} {tgt : Nat} (hd : decode cc pc = .ok (.if_icmp .eq off, 3)) (ht : (pc : Int) + off = (tgt : Int)) (h : x = y) (K1 : Rw G p l e R s m args below meth c nL u9 w9 Q tgt ls st M) : Rw G p l e R s m args below meth c nL u9 w9 Q pc ls (.int y :: .int x :: st) M :=
  fun H locs la hP hS hl => lv_icmp_eq F.x F.b hd ht (fun _ => K1 H locs la hP hS hl) (fun q => absurd h q)
theorem w_icmp_gt (F : Fy G p l s m args meth c cc own nL ret) {x y : Int32} {off : Int} {tgt : Nat} (hd : decode cc pc = .ok (.if_icmp .gt off, 3)) (ht : (pc : Int) + off = (tgt : Int)) (K1 : y < x → Rw G p l e R s m args below meth c nL u9 w9 Q tgt ls st M) (K2 : ¬ y < x → Rw G p l e R s m args below meth c nL u9 w9 Q (pc + 3) ls st M) : Rw G p l e R s m args below meth c nL u9 w9 Q pc ls (.int y :: .int x :: st) M :=
  fun H locs la hP hS hl => lv_icmp_gt F.x F.b hd ht (fun q => K1 q H locs la hP hS hl) (fun q => K2 q H locs la hP hS hl)
theorem w_if_eq (F : Fy G p l s m args meth c cc own nL ret) {x : Int32} {off : Int} {tgt : Nat} (hd : decode cc pc = .ok (.ifCond .eq off, 3)) (ht : (pc : Int) + off = (tgt : Int)) (h : x = 0) (K1 : Rw G p l e R s m args below meth c nL u9 w9 Q tgt ls st M) : Rw G p l e R s m args below meth c nL u9 w9 Q pc ls (.int x :: st) M :=
  fun H locs la hP hS hl => lv_if_eq F.x F.b hd ht (fun _ => K1 H locs la hP hS hl) (fun q => absurd h q)
theorem w_if_ne (F : Fy G p l s m args meth c cc own nL ret) {x : Int32} {off : Int} {tgt : Nat} (hd : decode cc pc = .ok (.ifCond .ne off, 3)) (ht : (pc : Int) + off = (tgt : Int)) (K1 : x = 0 → Rw G p l e R s m args below meth c nL u9 w9 Q (pc + 3) ls st M) (K2 : ¬ x = 0 → Rw G p l e R s m args below meth c nL u9 w9 Q tgt ls st M) : Rw G p l e R s m args below meth c nL u9 w9 Q pc ls (.int x :: st) M :=
  fun H locs la hP hS hl => lv_if_ne F.x F.b hd ht (fun q => K2 q H locs la hP hS hl) (fun q => K1 q H locs la hP hS hl)
theorem w_tabIn (F : Fy G p l s m args meth c cc own nL ret) {dflt lo hi : Int} {offs : Array Int} {len : Nat} {x v : Int32} {off : Int} {tgt : Nat} (hd : decode cc pc = .ok (.tableswitch dflt lo hi offs, len)) (hx : x = v) (h1 : ¬ v.toInt < lo) (h2 : ¬ hi < v.toInt) (ho : offs[(v.toInt - lo).toNat]? = some off) (ht : (pc : Int) + off = (tgt : Int)) (K : Rw G p l e R s m args below meth c nL u9 w9 Q tgt ls st M) : Rw G p l e R s m args below meth c nL u9 w9 Q pc ls (.int x :: st) M := by
  subst hx
  exact fun H locs la hP hS hl => lv_tableIn F.x F.b hd h1 h2 ho ht (K H locs la hP hS hl)
theorem w_tabOut (F : Fy G p l s m args meth c cc own nL ret) {dflt lo hi : Int} {offs : Array Int} {len : Nat} {x : Int32} {tgt : Nat} (hd : decode cc pc = .ok (.tableswitch dflt lo hi offs, len)) (h : x.toInt < lo ∨ hi < x.toInt) (ht : (pc : Int) + dflt = (tgt : Int)) (K : Rw G p l e R s m args below meth c nL u9 w9 Q tgt ls st M) : Rw G p l e R s m args below meth c nL u9 w9 Q pc ls (.int x :: st) M :=
  fun H locs la hP hS hl => lv_tableOut F.x F.b hd h ht (K H locs la hP hS hl)
theorem w_iret (F : Fy G p l s m args meth c cc own nL ret) {v : Int32} (hd : decode cc pc = .ok (.ireturn, 1)) (hr : ret = some .int) : Rw G p l e R s m args below meth c nL u9 w9 (MQ below (QcR G (some (.int v)) M) args s u9 w9 (A0 G)) pc ls [.int v] M :=
  fun _ _ _ hP hS _ => W.iret F.x F.b (F.r.trans hr) (fun t ht _ => ⟨⟨rfl, by rw [ht]; exact hP⟩, hS.F ht⟩) hS.2.2 hd F.lk
/-- the law's script: its ints, and that i and the four places behind it are inside -/
def Sx (G : GM) (b L : Nat) (xs : Nat → Int32) (s : State) : Prop := va_X b L xs s s.heap ∧ b < s.heap.size ∧ ¬ A0 G b
theorem w_sld (F : Fy G p l s m args meth c cc own nL ret) {b L : Nat} {xs : Nat → Int32} {i : Int32} (S : Sx G b L xs s) (hi : vp_in i L) (hd : decode cc pc = .ok (.iaload, 1)) (K : Rw G p l e R s m args below meth c nL u9 w9 Q (pc + 1) ls (.int (xs i.toNatClampNeg) :: st) M) : Rw G p l e R s m args below meth c nL u9 w9 Q pc ls (.int i :: .ref b :: st) M :=
  fun H locs la hP hS hl => va_sld F.x F.b S.1 S.2.1 S.2.2 hS hi hd (K H locs la hP hS hl)
theorem w_slen (F : Fy G p l s m args meth c cc own nL ret) {b L : Nat} {xs : Nat → Int32} (S : Sx G b L xs s) (hd : decode cc pc = .ok (.arraylength, 1)) (K : Rw G p l e R s m args below meth c nL u9 w9 Q (pc + 1) ls (.int (Int32.ofNat L) :: st) M) : Rw G p l e R s m args below meth c nL u9 w9 Q pc ls (.ref b :: st) M :=
  fun H locs la hP hS hl => va_slen F.x F.b S.1 S.2.1 S.2.2 hS hd (K H locs la hP hS hl)
-- ===== calls =====
theorem pre_okY {H : Heap} {locs : List Loc} {av : List Value} (F : Fy G p l s m args meth c cc own nL ret) (hP : va_P (gD G) vwCl (wd G M) H) (hS : va_S (A0 G) s.heap H locs) : ∀ U : State, U.heap = H → s.WarmedH U.vm → PcG G av M av.toArray U := by
  intro U hU hW
  refine ⟨rfl, ?_, ?_, ?_⟩
  · rw [hU]; exact Nat.le_trans F.g0 hS.1
  · rw [hU]; exact hP
  · rw [hU]; exact F.ks.warm hW hS
variable {y : MethodName} {bytes : ByteArray} {maxL d' n ix : Nat} {ret' : Option FieldType} {As rest : List Value} {k cK N : Nat} {T : u_T} {o : OC}
theorem hRy {o' : OC} (hd : d' + 1 ≤ R.frames ∧ 64 * (d' + 1) ≤ R.locals) (hm : maxL ≤ 45) : (rmO d' o').frames + 1 ≤ R.frames ∧ 8 + (maxL + 11) + (rmO d' o').locals ≤ R.locals := by
  rw [rmO_f, rmO_l]; omega
abbrev cfy (F : Fy G p l s m args meth c cc own nL ret) : CallFix p m c cc nL s args wsA own := ⟨F.x, F.b, F.ml, F.ow, F.ws⟩
/-- a call that returns v -/
theorem w_cV {v : Option Value} {M' : Mem} (F : Fy G p l s m args meth c cc own nL ret) (hC : Ctr l G y (.code y bytes maxL ret' :: wsA) d' (.ref (gA G k) :: As) M (.inl v, M')) (hd : decode cc pc = .ok (.invokevirtual ix, 3)) (hl : Cond.methodLink own ix y ∈ wsA) (hy : yV y bytes maxL ret' n) (hk : kd k = cK) (hcK : cK < 8) (hc : vwCl[obc cK]? = some (y.cls, T, N)) (hn : As.length = n) (hR : d' + 1 ≤ R.frames ∧ 64 * (d' + 1) ≤ R.locals) (hu : u9 ≤ R.cells ∧ w9 ≤ R.slots) (hst : st = As.reverse ++ .ref (gA G k) :: rest) (hW : (rest.map fun v => v.category).sum ≤ 8)
    (K : Rw G p l e R s m args below meth c nL u9 w9 Q (pc + 3) ls (v.toList ++ rest) M') : Rw G p l e R s m args below meth c nL u9 w9 Q pc ls st M := by
  intro H locs la hP hS hla
  refine go_run (va_runV (b := gA G k) (C := y.cls) (As := As) (rest := rest) (cfy F) hC (cwV n F.ws (gcV hl hy) rfl rfl rfl ⟨rfl, hy.2.2.2.2.1⟩ (hRy hR hy.2.2.2.2.2)) ⟨PcG_blind, va_recv F.K hP hc (wd_o hk hcK), pre_okY F hP hS⟩ rfl hn hla.1 hst (hWr hW) hd ⟨hu.1, hu.2⟩) hS fun H1 locs1 hP hS => ?_
  exact K H1 locs1 la hP hS hla
/-- a call that throws E, caught here -/
theorem w_cVx {E : String} {M' : Mem} {pre suf : List ExceptionTableEntry} {x : ExceptionTableEntry} (F : Fy G p l s m args meth c cc own nL ret) (hC : Ctr l G y (.code y bytes maxL ret' :: wsA) d' (.ref (gA G k) :: As) M (.inr E, M')) (hd : decode cc pc = .ok (.invokevirtual ix, 3)) (hl : Cond.methodLink own ix y ∈ wsA) (hy : yV y bytes maxL ret' n) (hk : kd k = cK) (hcK : cK < 8) (hc : vwCl[obc cK]? = some (y.cls, T, N)) (hn : As.length = n) (hR : d' + 1 ≤ R.frames ∧ 64 * (d' + 1) ≤ R.locals) (hu : u9 + 1 ≤ R.cells ∧ w9 + 6 ≤ R.slots) (hst : st = As.reverse ++ .ref (gA G k) :: rest) (hW : (rest.map fun v => v.category).sum ≤ 8)
    {tgt : Nat} (hsplit : c.exceptionTable.toList = pre ++ x :: suf) (hpass : ∀ z ∈ pre, z.catchType ≠ 0 ∧ ∃ nm : String, Cond.classLink own z.catchType nm ∈ wsA ∧ (E, nm) ∈ ncW) (hx : covers x pc = true) (h0 : x.catchType ≠ 0) (hlink : Cond.classLink own x.catchType E ∈ wsA) (hcast : Cond.castable E E ∈ lw_tbl) (htg : x.handlerPc = tgt)
    (K : ∀ q : Nat, Rw G p l e R s m args below meth c nL (u9 + 1) (w9 + 6) Q tgt ls [.ref q] M') : Rw G p l e R s m args below meth c nL u9 w9 Q pc ls st M := by
  intro H locs la hP hS hla
  subst htg
  have hr := vx_runV (H := H) (locs := locs) (cells := u9) (slots := w9) (e := e) (below := below) (meth := meth) (g := F0 m pc la st) (b := gA G k) (C := y.cls) (As := As) (rest := rest) (cfy F) hC (cwV n F.ws (gcV hl hy) rfl rfl rfl ⟨rfl, hy.2.2.2.2.1⟩ (hRy hR hy.2.2.2.2.2)) ⟨PcG_blind, va_recv F.K hP hc (wd_o hk hcK), pre_okY F hP hS⟩ rfl hn hla.1 hst (hWr hW) hd ⟨hu.1, hu.2⟩
  intro T hT X
  rcases hr T hT X with ⟨v, st₀, t, T', L, h0, X', hL, e1, e2, hq, sg⟩ | ⟨q, st₀, t, T', L, E', ce, h00, X', hL, e1, e2, ⟨⟨rfl, hP2⟩, hF⟩, hq, hv, hcl, sg⟩
  · exact hq.elim
  · have hS2 : va_S (A0 G) s.heap T'.heap (locs ++ L) := by
      refine ⟨?_, fun z h1 h2 => ?_, fun z hz => ?_⟩
      · rw [e1]; exact Nat.le_trans hS.1 (by rw [← h00]; exact hF.1)
      · rw [e1, hF.2 z (by rw [h00]; exact Nat.lt_of_lt_of_le h1 hS.1) h2, h00]; exact hS.2.1 z h1 h2
      · rcases List.mem_append.mp hz with h | h
        · exact hS.2.2 z h
        · exact hL z h
    have KK : vx_W p l e R s m args below meth c T'.heap (locs ++ L) (u9 + 1) (w9 + 6) Q (F0 m pc la rest) q := by
      refine vx_catch F.ow pre x suf hsplit (fun z hz => ?_) hx h0 (F.ws _ hlink) (va_Nw.use rfl (F.ks.2.1 _ hcast rfl)) (by rw [e1]; exact hq) hv hcl (K q T'.heap (locs ++ L) la (by rw [e1]; exact hP2) hS2 hla)
      obtain ⟨g1, nm, g2, g3⟩ := hpass z hz
      exact Or.inr ⟨g1, nm, F.ws _ g2, F.ks.2.2.2.2.2.2.2.2 _ g3⟩
    obtain ⟨t2, a1, b1⟩ := KK T' rfl X'
    exact ⟨t2, sg.trans a1, b1⟩
/-- a wrapper's call -/
theorem w_cSW {v : Int32} {M' : Mem} {hh : List (Nat × Nat × Nat × Nat)} {rm : Room} (F : Fy G p l s m args meth c cc own nL ret) (hC : Met l y (.codeWith y bytes maxL ret' hh :: wsA) rm (PcG G As M) (QcR G (some (.int v)) M') 1 6 (A0 G)) (hd : decode cc pc = .ok (.invokestatic ix, 3)) (hl : Cond.methodLink own ix y ∈ wsA) (hs : Cond.static y ∈ wsA) (hi : Cond.initialized y.cls ∈ wsA) (hcw : Cond.codeWith y bytes maxL ret' hh ∈ wsA) (hdsc : y.cls ≠ "java/lang/invoke/MethodHandle" ∧ y.cls ≠ "java/lang/invoke/VarHandle" ∧ (parseMethodDescriptor y.desc).map (fun d => d.parameters.length) = some n) (hn : As.length = n) (hrm : rm.cells = 1 ∧ rm.slots = 6) (hR : rm.frames + 1 ≤ R.frames ∧ 8 + (maxL + 11) + rm.locals ≤ R.locals) (hu : u9 + 1 ≤ R.cells ∧ w9 + 6 ≤ R.slots) (hst : st = As.reverse ++ rest) (hW : (rest.map fun v => v.category).sum ≤ 8)
    (K : Rw G p l e R s m args below meth c nL (u9 + 1) (w9 + 6) Q (pc + 3) ls (.int v :: rest) M') : Rw G p l e R s m args below meth c nL u9 w9 Q pc ls st M := by
  intro H locs la hP hS hla
  have hg : GoodIn wsA (va_wsS own ix y (.codeWith y bytes maxL ret' hh :: wsA)) := ginA (allA hl (allA hs (allA hi (subA hcw))))
  have hr := vx_runSW (H := H) (locs := locs) (cells := u9) (slots := w9) (e := e) (below := below) (meth := meth) (g := F0 m pc la st) (As := As) (rest := rest) (cfy F) hC (vx_cwSW n F.ws hg rfl hrm.1 hrm.2 hdsc hR) ⟨PcG_blind, pre_okY F hP hS⟩ rfl hn hla.1 hst (hWr hW) hd hu
  intro T hT X
  obtain ⟨v', st₀, t, T', L, h0, X', hL, e1, e2, ⟨⟨hv, hP2⟩, hF⟩, sg⟩ := hr T hT X
  cases hv
  obtain ⟨t2, a1, b1⟩ := K T'.heap (locs ++ L) la (by rw [e1]; exact hP2) ⟨Nat.le_trans hS.1 (by rw [← h0, e1]; exact hF.1), fun q h1 h2 => by
      rw [e1, hF.2 q (by rw [h0]; exact Nat.lt_of_lt_of_le h1 hS.1) h2, h0]; exact hS.2.1 q h1 h2, fun q hq => by
      rcases List.mem_append.mp hq with h | h
      · exact hS.2.2 q h
      · exact hL q h⟩ hla T' rfl X'
  exact ⟨t2, sg t2 a1, b1⟩
end RW
def rmW : Room := { frames := 24, cells := 1, slots := 6, locals := 64 * 24 }
theorem met_W {l : Launch} {G : GM} {y : MethodName} {cc : ByteArray} {maxL : Nat} {hh : List (Nat × Nat × Nat × Nat)} {av : List Value} {M M' : Mem} {v : Option Value} (hy : plainName y.cls = true) (hl : l.stackTraces = false) (hG : GG G) (hn : (lg_sl av).length ≤ maxL)
    (body : ∀ (p : Program) (e : Env) (s : State) (m : MethodId) (args : Array Value) (below : List Frame) (meth : Method) (c : Code), Fy G p l s m args meth c cc y.cls maxL (some .int) → c.exceptionTable.toList = tableOf hh →
      Rw G p l e rmW s m args below meth c maxL 0 0 (MQ below (QcR G v M') args s 1 6 (A0 G)) 0 (lv_args 0 av) [] M) : Met l y (.codeWith y cc maxL (some .int) hh :: wsA) rmW (PcG G av M) (QcR G v M') 1 6 (A0 G) := by
  refine vx_toMet (vx_ofWH (cc := cc) (maxL := maxL) (ret := some .int) (hh := hh) hy rfl (fun p e s m args below meth c s₁ B hml hv => ?_))
  obtain ⟨rfl, h0, hP, hK⟩ := hv
  have hws : ∀ w ∈ (Cond.codeWith y cc maxL (some .int) hh :: wsA), w.before av.toArray s = true := atoms_spec (ws := .codeWith y cc maxL (some .int) hh :: wsA) B.pre
  have F : Fy G p l s m av.toArray meth c cc y.cls maxL (some .int) := ⟨B.exec, B.bytes, B.returns, hml, findClass_of_methodNamed B.named, fun w hw => hws w (List.mem_cons_of_mem _ hw), B.notSynchronized, hK, h0, hG, hl⟩
  have K := body p e s m av.toArray below meth c F (vx_table (x := y) B (hws _ List.mem_cons_self)) s.heap [] _ hP va_S.rf (lv_entry av hn)
  rw [lg_entry_eq]
  exact vx_ret K
section RW2
variable {G : GM} {p : Program} {l : Launch} {e : Env} {R : Room} {s : State} {m : MethodId} {args : Array Value} {below : List Frame} {meth : Method} {c : Code} {cc : ByteArray} {own : String} {nL : Nat} {ret : Option FieldType} {u9 w9 : Nat} {Q : State → Prop}
variable {pc : Nat} {ls : List (Nat × Value)} {st : List Value} {M : Mem}
variable {y : MethodName} {bytes : ByteArray} {maxL d' n ix : Nat} {ret' : Option FieldType} {As rest : List Value} {k cK N : Nat} {T : u_T} {o : OC}
/-- a static call that returns v -/
theorem w_cS {v : Option Value} {M' : Mem} (F : Fy G p l s m args meth c cc own nL ret) (hC : Ctr l G y (.code y bytes maxL ret' :: wsA) d' As M (.inl v, M')) (hd : decode cc pc = .ok (.invokestatic ix, 3)) (hl : Cond.methodLink own ix y ∈ wsA) (hy : yS y bytes maxL ret' n) (hn : As.length = n) (hR : d' + 1 ≤ R.frames ∧ 64 * (d' + 1) ≤ R.locals) (hu : u9 ≤ R.cells ∧ w9 ≤ R.slots) (hst : st = As.reverse ++ rest) (hW : (rest.map fun v => v.category).sum ≤ 8)
    (K : Rw G p l e R s m args below meth c nL u9 w9 Q (pc + 3) ls (v.toList ++ rest) M') : Rw G p l e R s m args below meth c nL u9 w9 Q pc ls st M := by
  intro H locs la hP hS hla
  refine go_run (va_runS (As := As) (rest := rest) (cfy F) hC (va_cwS n F.ws (gcS hl hy) rfl rfl rfl hy.2.2.2.1 (hRy hR hy.2.2.2.2)) ⟨PcG_blind, pre_okY F hP hS⟩ rfl hn hla.1 hst (hWr hW) hd ⟨hu.1, hu.2⟩) hS fun H1 locs1 hP hS => ?_
  exact K H1 locs1 la hP hS hla
end RW2
