/-! ===== the walk's judgement over the memory, and its rows ===== -/
def emI (r : Int32 × Mem) : OC := (.inl (some (.int r.1)), r.2)
def emL (r : Int64 × Mem) : OC := (.inl (some (.long r.1)), r.2)
def emD (r : UInt64 × Mem) : OC := (.inl (some (.double r.1)), r.2)
def emV (r : Unit × Mem) : OC := (.inl none, r.2)
def emT {α : Type} (f : α → Option Value) (r : (α ⊕ String) × Mem) : OC := match r with
  | (.inl v, M) => (.inl (f v), M)
  | (.inr E, M) => (.inr E, M)
abbrev vI (v : Int32) : Option Value := some (.int v)
abbrev vL (v : Int64) : Option Value := some (.long v)
abbrev vD (v : UInt64) : Option Value := some (.double v)
abbrev vU (_ : Unit) : Option Value := none
/-- sequence: a callee that does not throw; one that may -/
def bn {α β : Type} (Y : Option (α × Mem)) (K : α → Mem → Option β) : Option β := match Y with
  | none => none
  | some (r, M) => K r M
def bt {α β : Type} (Y : Option ((α ⊕ String) × Mem)) (K : α → Mem → Option ((β ⊕ String) × Mem)) : Option ((β ⊕ String) × Mem) := match Y with
  | none => none
  | some (.inr E, M) => some (.inr E, M)
  | some (.inl r, M) => K r M
theorem vx_toMet {l : Launch} {y : MethodName} {ws : List Cond} {rm : Room} {Pc : Array Value → State → Prop} {Qc : Array Value → State → Outcome → State → Prop} {mc ms : Nat} {free : Addr → Prop} (h : vx_Met l y ws rm Pc Qc XcF mc ms free) : Met l y ws rm Pc Qc mc ms free := by
  intro p e ha hc hk s m args below hf happ hp hK
  obtain ⟨n, o, h1, h2, h3, h4⟩ := h p e ha hc hk s m args below hf happ hp hK
  refine ⟨n, o, h1, h2, h3, ?_⟩
  rcases h4 with h | ⟨q, -, E, ce, L, hx, -⟩
  · exact h
  · exact hx.elim
/-- what is fixed while a method runs -/
def Fx (G : GM) (p : Program) (l : Launch) (s : State) (m : MethodId) (args : Array Value) (meth : Method) (c : Code) (cc : ByteArray) (own : String) (nL : Nat) (ret : Option FieldType) : Prop :=
  p.tables.exec = Jvm.exec ∧ c.code = cc ∧ meth.sig.returnType = ret ∧ c.maxLocals = nL ∧ s.vm.findClass own = some m.cls ∧ (∀ w ∈ wsA, w.before args s = true) ∧ meth.locks = false ∧ KS G s s.heap ∧ g0 G ≤ s.heap.size ∧ GG G ∧ l.stackTraces = false ∧ (∀ x ∈ c.exceptionTable.toList, False)
section RF
variable {G : GM} {p : Program} {l : Launch} {e : Env} {s : State} {m : MethodId} {args : Array Value} {below : List Frame} {meth : Method} {c : Code} {cc : ByteArray} {own : String} {nL : Nat} {ret : Option FieldType} {d : Nat}
theorem Fx.x (F : Fx G p l s m args meth c cc own nL ret) : p.tables.exec = Jvm.exec := F.1
theorem Fx.b (F : Fx G p l s m args meth c cc own nL ret) : c.code = cc := F.2.1
theorem Fx.r (F : Fx G p l s m args meth c cc own nL ret) : meth.sig.returnType = ret := F.2.2.1
theorem Fx.ml (F : Fx G p l s m args meth c cc own nL ret) : c.maxLocals = nL := F.2.2.2.1
theorem Fx.ow (F : Fx G p l s m args meth c cc own nL ret) : s.vm.findClass own = some m.cls := F.2.2.2.2.1
theorem Fx.ws (F : Fx G p l s m args meth c cc own nL ret) : ∀ w ∈ wsA, w.before args s = true := F.2.2.2.2.2.1
theorem Fx.lk (F : Fx G p l s m args meth c cc own nL ret) : meth.locks = false := F.2.2.2.2.2.2.1
theorem Fx.ks (F : Fx G p l s m args meth c cc own nL ret) : KS G s s.heap := F.2.2.2.2.2.2.2.1
theorem Fx.g0 (F : Fx G p l s m args meth c cc own nL ret) : g0 G ≤ s.heap.size := F.2.2.2.2.2.2.2.2.1
theorem Fx.gg (F : Fx G p l s m args meth c cc own nL ret) : GG G := F.2.2.2.2.2.2.2.2.2.1
theorem Fx.st (F : Fx G p l s m args meth c cc own nL ret) : l.stackTraces = false := F.2.2.2.2.2.2.2.2.2.2.1
theorem Fx.ex (F : Fx G p l s m args meth c cc own nL ret) : ∀ x ∈ c.exceptionTable.toList, False := F.2.2.2.2.2.2.2.2.2.2.2
theorem Fx.K (F : Fx G p l s m args meth c cc own nL ret) : va_K (gD G) vwCl (tysG G) s := F.ks.1
theorem Fx.n (F : Fx G p l s m args meth c cc own nL ret) {w : Cond} (h : w ∈ lw_tbl) (q : isNst w = true) (o : w.onTables = true) : w.before args s = true := va_Nw.use o (F.ks.2.1 w h q)
/-- from here, the answer X is what the machine comes to -/
def Rf (G : GM) (p : Program) (l : Launch) (e : Env) (s : State) (m : MethodId) (args : Array Value) (below : List Frame) (meth : Method) (c : Code) (d nL : Nat) {β : Type} (em : β → OC) (X : Option β) (pc : Nat) (ls : List (Nat × Value)) (st : List Value) (M : Mem) : Prop :=
  ∀ r, X = some r → ∀ (H : Heap) (locs : List Loc) (la : Array Slot), va_P (gD G) vwCl (wd G M) H → va_S (A0 G) s.heap H locs → lv_has la nL ls →
    W p l e (rmO d (em r)) s m args below meth c H locs 0 0 (QM G below args s (em r)) (F0 m pc la st)
theorem ctr_of {y : MethodName} {av : List Value} {M : Mem} {β : Type} {em : β → OC} {X : Option β} (hy : plainName y.cls = true) (hl : l.stackTraces = false) (hG : GG G) (hn : (lg_sl av).length ≤ nL)
    (body : ∀ (p : Program) (e : Env) (s : State) (m : MethodId) (args : Array Value) (below : List Frame) (meth : Method) (c : Code), Fx G p l s m args meth c cc y.cls nL ret → Rf G p l e s m args below meth c d nL em X 0 (lv_args 0 av) [] M) :
    ∀ r, X = some r → Ctr l G y (.code y cc nL ret :: wsA) d av M (em r) := by
  intro r hX
  have V : ∀ (QO : Array Value → State → Outcome → State → Prop) (XO : String → State → State → Prop) (k n : Nat), (∀ (below : List Frame) (args : Array Value) (s : State), QM G below args s (em r) = vx_MQ below QO XO args s k n (A0 G)) →
      vx_Met l y (.code y cc nL ret :: wsA) (rmO d (em r)) (PcG G av M) QO XO k n (A0 G) := by
    intro QO XO k n hQ
    refine vx_ofW (maxL := nL) (ret := ret) hy rfl (fun p e s m args below meth c s₁ B hml hout hv => ?_)
    obtain ⟨rfl, h0, hP, hK⟩ := hv
    have F : Fx G p l s m av.toArray meth c cc y.cls nL ret := ⟨B.exec, B.bytes, B.returns, hml, findClass_of_methodNamed B.named, fun w hw => atoms_spec (ws := .code y cc nL ret :: wsA) B.pre w (List.mem_cons_of_mem _ hw), B.notSynchronized, hK, h0, hG, hl, hout⟩
    have K := body p e s m av.toArray below meth c F r hX s.heap [] _ hP va_S.rf (lv_entry av hn)
    rw [hQ] at K
    rw [lg_entry_eq]
    exact K
  revert V
  generalize em r = o
  intro V
  obtain ⟨v | E, M'⟩ := o
  · exact vx_toMet (V _ _ 0 0 (fun _ _ _ => rfl))
  · exact V _ _ 1 6 (fun _ _ _ => rfl)
variable {β : Type} {em : β → OC} {pc : Nat} {ls : List (Nat × Value)} {st : List Value} {M : Mem} {X : Option β}
theorem r_none : Rf G p l e s m args below meth c d nL em (none : Option β) pc ls st M := fun r h => by cases h
theorem r_chk {b : Bool} (K : b = true → Rf G p l e s m args below meth c d nL em X pc ls st M) : Rf G p l e s m args below meth c d nL em (chk b X) pc ls st M := by
  cases b
  · exact r_none
  · exact K rfl
theorem r_ite {q : Prop} [Decidable q] {Y : Option β} (K1 : q → Rf G p l e s m args below meth c d nL em X pc ls st M) (K2 : ¬ q → Rf G p l e s m args below meth c d nL em Y pc ls st M) : Rf G p l e s m args below meth c d nL em (if q then X else Y) pc ls st M := by
  by_cases h : q
  · rw [if_pos h]; exact K1 h
  · rw [if_neg h]; exact K2 h
theorem r_sub {ls' : List (Nat × Value)} (ks : List Nat) (h : lv_pick ls ks = ls') (K : Rf G p l e s m args below meth c d nL em X pc ls' st M) : Rf G p l e s m args below meth c d nL em X pc ls st M :=
  fun r hX H locs la hP hS hl => K r hX H locs la hP hS (lv_sub hl ks h)
theorem r_bi {x : Int32} {B : Int32 → Option β} (K : ∀ y : Int32, Rf G p l e s m args below meth c d nL em (B y) pc ls (.int y :: st) M) : Rf G p l e s m args below meth c d nL em (bnd x B) pc ls (.int x :: st) M := K x
theorem r_bl {x : Int64} {B : Int64 → Option β} (K : ∀ y : Int64, Rf G p l e s m args below meth c d nL em (B y) pc ls (.long y :: st) M) : Rf G p l e s m args below meth c d nL em (bnd x B) pc ls (.long x :: st) M := K x
theorem r_bd {x : UInt64} {B : UInt64 → Option β} (K : ∀ y : UInt64, Rf G p l e s m args below meth c d nL em (B y) pc ls (.double y :: st) M) : Rf G p l e s m args below meth c d nL em (bnd x B) pc ls (.double x :: st) M := K x
theorem r_br {k cK : Nat} {B : Nat → Option β} (h : kd k = cK) (K : ∀ y : Nat, kd y = cK → Rf G p l e s m args below meth c d nL em (B y) pc ls (.ref (gA G y) :: st) M) : Rf G p l e s m args below meth c d nL em (bnd k B) pc ls (.ref (gA G k) :: st) M := K k h
theorem r_bra {k cK n : Nat} {B : Nat → Option β} (h : kd k = cK) (h2 : al k = n) (K : ∀ y : Nat, kd y = cK → al y = n → Rf G p l e s m args below meth c d nL em (B y) pc ls (.ref (gA G y) :: st) M) : Rf G p l e s m args below meth c d nL em (bnd k B) pc ls (.ref (gA G k) :: st) M := K k h h2

theorem r_iconst (F : Fx G p l s m args meth c cc own nL ret) {n : Int} {v : Int32} (hd : decode cc pc = .ok (.iconst n, 1)) (hv : Int32.ofInt n = v) (K : Rf G p l e s m args below meth c d nL em X (pc + 1) ls (.int v :: st) M) : Rf G p l e s m args below meth c d nL em X pc ls (st) M :=
  fun r hX H locs la hP hS hl => lv_iconst F.x F.b hd hv (K r hX H locs la hP hS hl)
theorem r_bipush (F : Fx G p l s m args meth c cc own nL ret) {n : Int} {v : Int32} (hd : decode cc pc = .ok (.bipush n, 2)) (hv : (Int8.ofInt n).toInt32 = v) (K : Rf G p l e s m args below meth c d nL em X (pc + 2) ls (.int v :: st) M) : Rf G p l e s m args below meth c d nL em X pc ls (st) M :=
  fun r hX H locs la hP hS hl => lv_bipush F.x F.b hd hv (K r hX H locs la hP hS hl)
theorem r_sipush (F : Fx G p l s m args meth c cc own nL ret) {n : Int} {v : Int32} (hd : decode cc pc = .ok (.sipush n, 3)) (hv : (Int16.ofInt n).toInt32 = v) (K : Rf G p l e s m args below meth c d nL em X (pc + 3) ls (.int v :: st) M) : Rf G p l e s m args below meth c d nL em X pc ls (st) M :=
  fun r hX H locs la hP hS hl => lv_sipush F.x F.b hd hv (K r hX H locs la hP hS hl)
theorem r_lconst (F : Fx G p l s m args meth c cc own nL ret) {n : Fin 2} {v : Int64} (hd : decode cc pc = .ok (.lconst n, 1)) (hv : Int64.ofNat (n : Nat) = v) (K : Rf G p l e s m args below meth c d nL em X (pc + 1) ls (.long v :: st) M) : Rf G p l e s m args below meth c d nL em X pc ls (st) M :=
  fun r hX H locs la hP hS hl => lv_lconst F.x F.b hd hv (K r hX H locs la hP hS hl)
theorem r_dconst0 (F : Fx G p l s m args meth c cc own nL ret)  (hd : decode cc pc = .ok (.dconst 0, 1)) (K : Rf G p l e s m args below meth c d nL em X (pc + 1) ls (.double FP.dconst0 :: st) M) : Rf G p l e s m args below meth c d nL em X pc ls (st) M :=
  fun r hX H locs la hP hS hl => lv_dconst0 F.x F.b hd (K r hX H locs la hP hS hl)
theorem r_dconst1 (F : Fx G p l s m args meth c cc own nL ret)  (hd : decode cc pc = .ok (.dconst 1, 1)) (K : Rf G p l e s m args below meth c d nL em X (pc + 1) ls (.double FP.dconst1 :: st) M) : Rf G p l e s m args below meth c d nL em X pc ls (st) M :=
  fun r hX H locs la hP hS hl => lv_dconst1 F.x F.b hd (K r hX H locs la hP hS hl)
theorem r_iload_n (F : Fx G p l s m args meth c cc own nL ret) {k : Fin 4} {i : Nat} {x : Int32} (j : Nat) (hd : decode cc pc = .ok (.iload_n k, 1)) (hi : (k : Nat) = i) (hj : ls[j]? = some (i, .int x)) (K : Rf G p l e s m args below meth c d nL em X (pc + 1) ls (.int x :: st) M) : Rf G p l e s m args below meth c d nL em X pc ls (st) M :=
  fun r hX H locs la hP hS hl => lv_iload_n F.x F.b hd hi (lv_at hl j hj) (K r hX H locs la hP hS hl)
theorem r_iload (F : Fx G p l s m args meth c cc own nL ret) {i : Nat} {x : Int32} (j : Nat) (hd : decode cc pc = .ok (.iload i, 2)) (hj : ls[j]? = some (i, .int x)) (K : Rf G p l e s m args below meth c d nL em X (pc + 2) ls (.int x :: st) M) : Rf G p l e s m args below meth c d nL em X pc ls (st) M :=
  fun r hX H locs la hP hS hl => lv_iload F.x F.b hd (lv_at hl j hj) (K r hX H locs la hP hS hl)
theorem r_istore_n (F : Fx G p l s m args meth c cc own nL ret) {k : Fin 4} {i : Nat} {x : Int32} {ls' : List (Nat × Value)} (hd : decode cc pc = .ok (.istore_n k, 1)) (hi : (k : Nat) = i) (hn : i < nL) (hl' : (i, Value.int x) :: ls.filter (fun q => !(q.1 == i) && !(q.1 + 1 == i && q.2.category == 2)) = ls') (K : Rf G p l e s m args below meth c d nL em X (pc + 1) ls' st M) : Rf G p l e s m args below meth c d nL em X pc ls (.int x :: st) M :=
  fun r hX H locs la hP hS hl => lv_istore_n F.x F.b hd hi hl hn hl' (fun la hl => K r hX H locs la hP hS hl)
theorem r_istore (F : Fx G p l s m args meth c cc own nL ret) {i : Nat} {x : Int32} {ls' : List (Nat × Value)} (hd : decode cc pc = .ok (.istore i, 2)) (hn : i < nL) (hl' : (i, Value.int x) :: ls.filter (fun q => !(q.1 == i) && !(q.1 + 1 == i && q.2.category == 2)) = ls') (K : Rf G p l e s m args below meth c d nL em X (pc + 2) ls' st M) : Rf G p l e s m args below meth c d nL em X pc ls (.int x :: st) M :=
  fun r hX H locs la hP hS hl => lv_istore F.x F.b hd hl hn hl' (fun la hl => K r hX H locs la hP hS hl)
theorem r_lload_n (F : Fx G p l s m args meth c cc own nL ret) {k : Fin 4} {i : Nat} {x : Int64} (j : Nat) (hd : decode cc pc = .ok (.lload_n k, 1)) (hi : (k : Nat) = i) (hj : ls[j]? = some (i, .long x)) (K : Rf G p l e s m args below meth c d nL em X (pc + 1) ls (.long x :: st) M) : Rf G p l e s m args below meth c d nL em X pc ls (st) M :=
  fun r hX H locs la hP hS hl => lv_lload_n F.x F.b hd hi (lv_at hl j hj) (K r hX H locs la hP hS hl)
theorem r_lload (F : Fx G p l s m args meth c cc own nL ret) {i : Nat} {x : Int64} (j : Nat) (hd : decode cc pc = .ok (.lload i, 2)) (hj : ls[j]? = some (i, .long x)) (K : Rf G p l e s m args below meth c d nL em X (pc + 2) ls (.long x :: st) M) : Rf G p l e s m args below meth c d nL em X pc ls (st) M :=
  fun r hX H locs la hP hS hl => lv_lload F.x F.b hd (lv_at hl j hj) (K r hX H locs la hP hS hl)
theorem r_lstore_n (F : Fx G p l s m args meth c cc own nL ret) {k : Fin 4} {i : Nat} {x : Int64} {ls' : List (Nat × Value)} (hd : decode cc pc = .ok (.lstore_n k, 1)) (hi : (k : Nat) = i) (hn : i + 1 < nL) (hl' : (i, Value.long x) :: ls.filter (fun q => !(q.1 == i) && (!(q.1 == i + 1) && !(q.1 + 1 == i && q.2.category == 2))) = ls') (K : Rf G p l e s m args below meth c d nL em X (pc + 1) ls' st M) : Rf G p l e s m args below meth c d nL em X pc ls (.long x :: st) M :=
  fun r hX H locs la hP hS hl => lv_lstore_n F.x F.b hd hi hl hn hl' (fun la hl => K r hX H locs la hP hS hl)
theorem r_lstore (F : Fx G p l s m args meth c cc own nL ret) {i : Nat} {x : Int64} {ls' : List (Nat × Value)} (hd : decode cc pc = .ok (.lstore i, 2)) (hn : i + 1 < nL) (hl' : (i, Value.long x) :: ls.filter (fun q => !(q.1 == i) && (!(q.1 == i + 1) && !(q.1 + 1 == i && q.2.category == 2))) = ls') (K : Rf G p l e s m args below meth c d nL em X (pc + 2) ls' st M) : Rf G p l e s m args below meth c d nL em X pc ls (.long x :: st) M :=
  fun r hX H locs la hP hS hl => lv_lstore F.x F.b hd hl hn hl' (fun la hl => K r hX H locs la hP hS hl)
theorem r_dload_n (F : Fx G p l s m args meth c cc own nL ret) {k : Fin 4} {i : Nat} {x : UInt64} (j : Nat) (hd : decode cc pc = .ok (.dload_n k, 1)) (hi : (k : Nat) = i) (hj : ls[j]? = some (i, .double x)) (K : Rf G p l e s m args below meth c d nL em X (pc + 1) ls (.double x :: st) M) : Rf G p l e s m args below meth c d nL em X pc ls (st) M :=
  fun r hX H locs la hP hS hl => lv_dload_n F.x F.b hd hi (lv_at hl j hj) (K r hX H locs la hP hS hl)
theorem r_dload (F : Fx G p l s m args meth c cc own nL ret) {i : Nat} {x : UInt64} (j : Nat) (hd : decode cc pc = .ok (.dload i, 2)) (hj : ls[j]? = some (i, .double x)) (K : Rf G p l e s m args below meth c d nL em X (pc + 2) ls (.double x :: st) M) : Rf G p l e s m args below meth c d nL em X pc ls (st) M :=
  fun r hX H locs la hP hS hl => lv_dload F.x F.b hd (lv_at hl j hj) (K r hX H locs la hP hS hl)
theorem r_dstore_n (F : Fx G p l s m args meth c cc own nL ret) {k : Fin 4} {i : Nat} {x : UInt64} {ls' : List (Nat × Value)} (hd : decode cc pc = .ok (.dstore_n k, 1)) (hi : (k : Nat) = i) (hn : i + 1 < nL) (hl' : (i, Value.double x) :: ls.filter (fun q => !(q.1 == i) && (!(q.1 == i + 1) && !(q.1 + 1 == i && q.2.category == 2))) = ls') (K : Rf G p l e s m args below meth c d nL em X (pc + 1) ls' st M) : Rf G p l e s m args below meth c d nL em X pc ls (.double x :: st) M :=
  fun r hX H locs la hP hS hl => lv_dstore_n F.x F.b hd hi hl hn hl' (fun la hl => K r hX H locs la hP hS hl)
theorem r_dstore (F : Fx G p l s m args meth c cc own nL ret) {i : Nat} {x : UInt64} {ls' : List (Nat × Value)} (hd : decode cc pc = .ok (.dstore i, 2)) (hn : i + 1 < nL) (hl' : (i, Value.double x) :: ls.filter (fun q => !(q.1 == i) && (!(q.1 == i + 1) && !(q.1 + 1 == i && q.2.category == 2))) = ls') (K : Rf G p l e s m args below meth c d nL em X (pc + 2) ls' st M) : Rf G p l e s m args below meth c d nL em X pc ls (.double x :: st) M :=
  fun r hX H locs la hP hS hl => lv_dstore F.x F.b hd hl hn hl' (fun la hl => K r hX H locs la hP hS hl)
theorem r_aload_n (F : Fx G p l s m args meth c cc own nL ret) {k : Fin 4} {i a : Nat} (j : Nat) (hd : decode cc pc = .ok (.aload_n k, 1)) (hi : (k : Nat) = i) (hj : ls[j]? = some (i, .ref a)) (K : Rf G p l e s m args below meth c d nL em X (pc + 1) ls (.ref a :: st) M) : Rf G p l e s m args below meth c d nL em X pc ls (st) M :=
  fun r hX H locs la hP hS hl => lv_aload_n F.x F.b hd hi (lv_at hl j hj) (K r hX H locs la hP hS hl)
theorem r_aload (F : Fx G p l s m args meth c cc own nL ret) {i a : Nat} (j : Nat) (hd : decode cc pc = .ok (.aload i, 2)) (hj : ls[j]? = some (i, .ref a)) (K : Rf G p l e s m args below meth c d nL em X (pc + 2) ls (.ref a :: st) M) : Rf G p l e s m args below meth c d nL em X pc ls (st) M :=
  fun r hX H locs la hP hS hl => lv_aload F.x F.b hd (lv_at hl j hj) (K r hX H locs la hP hS hl)
theorem r_astore_n (F : Fx G p l s m args meth c cc own nL ret) {k : Fin 4} {i a : Nat} {ls' : List (Nat × Value)} (hd : decode cc pc = .ok (.astore_n k, 1)) (hi : (k : Nat) = i) (hn : i < nL) (hl' : (i, Value.ref a) :: ls.filter (fun q => !(q.1 == i) && !(q.1 + 1 == i && q.2.category == 2)) = ls') (K : Rf G p l e s m args below meth c d nL em X (pc + 1) ls' st M) : Rf G p l e s m args below meth c d nL em X pc ls (.ref a :: st) M :=
  fun r hX H locs la hP hS hl => lv_astore_n F.x F.b hd hi hl hn hl' (fun la hl => K r hX H locs la hP hS hl)
theorem r_astore (F : Fx G p l s m args meth c cc own nL ret) {i a : Nat} {ls' : List (Nat × Value)} (hd : decode cc pc = .ok (.astore i, 2)) (hn : i < nL) (hl' : (i, Value.ref a) :: ls.filter (fun q => !(q.1 == i) && !(q.1 + 1 == i && q.2.category == 2)) = ls') (K : Rf G p l e s m args below meth c d nL em X (pc + 2) ls' st M) : Rf G p l e s m args below meth c d nL em X pc ls (.ref a :: st) M :=
  fun r hX H locs la hP hS hl => lv_astore F.x F.b hd hl hn hl' (fun la hl => K r hX H locs la hP hS hl)
theorem r_iinc (F : Fx G p l s m args meth c cc own nL ret) {i k : Nat} {n : Int} {x v : Int32} {B : Int32 → Option β} {ls' : Int32 → List (Nat × Value)} (hd : decode cc pc = .ok (.iinc i n, 3)) (hk : ls[k]? = some (i, .int x)) (hv : x + Int32.ofInt n = v) (hn : i < nL) (hl' : ∀ v, (i, Value.int v) :: ls.filter (fun q => !(q.1 == i) && !(q.1 + 1 == i && q.2.category == 2)) = ls' v) (K : ∀ v, Rf G p l e s m args below meth c d nL em (B v) (pc + 3) (ls' v) st M) : Rf G p l e s m args below meth c d nL em (bnd v B) pc ls st M :=
  fun r hX H locs la hP hS hl => lv_iinc F.x F.b hd hl hk hv hn (hl' v) (fun la hl => K v r hX H locs la hP hS hl)
theorem r_iadd (F : Fx G p l s m args meth c cc own nL ret) {x y : Int32} (hd : decode cc pc = .ok (.iadd, 1)) (K : Rf G p l e s m args below meth c d nL em X (pc + 1) ls (.int (x + y) :: st) M) : Rf G p l e s m args below meth c d nL em X pc ls (.int y :: .int x :: st) M :=
  fun r hX H locs la hP hS hl => lv_iadd F.x F.b hd (K r hX H locs la hP hS hl)
theorem r_isub (F : Fx G p l s m args meth c cc own nL ret) {x y : Int32} (hd : decode cc pc = .ok (.isub, 1)) (K : Rf G p l e s m args below meth c d nL em X (pc + 1) ls (.int (x - y) :: st) M) : Rf G p l e s m args below meth c d nL em X pc ls (.int y :: .int x :: st) M :=
  fun r hX H locs la hP hS hl => lv_isub F.x F.b hd (K r hX H locs la hP hS hl)
theorem r_imul (F : Fx G p l s m args meth c cc own nL ret) {x y : Int32} (hd : decode cc pc = .ok (.imul, 1)) (K : Rf G p l e s m args below meth c d nL em X (pc + 1) ls (.int (x * y) :: st) M) : Rf G p l e s m args below meth c d nL em X pc ls (.int y :: .int x :: st) M :=
  fun r hX H locs la hP hS hl => lv_imul F.x F.b hd (K r hX H locs la hP hS hl)
theorem r_iand (F : Fx G p l s m args meth c cc own nL ret) {x y : Int32} (hd : decode cc pc = .ok (.iand, 1)) (K : Rf G p l e s m args below meth c d nL em X (pc + 1) ls (.int (x &&& y) :: st) M) : Rf G p l e s m args below meth c d nL em X pc ls (.int y :: .int x :: st) M :=
  fun r hX H locs la hP hS hl => lv_iand F.x F.b hd (K r hX H locs la hP hS hl)
theorem r_ior (F : Fx G p l s m args meth c cc own nL ret) {x y : Int32} (hd : decode cc pc = .ok (.ior, 1)) (K : Rf G p l e s m args below meth c d nL em X (pc + 1) ls (.int (x ||| y) :: st) M) : Rf G p l e s m args below meth c d nL em X pc ls (.int y :: .int x :: st) M :=
  fun r hX H locs la hP hS hl => lv_ior F.x F.b hd (K r hX H locs la hP hS hl)
theorem r_ixor (F : Fx G p l s m args meth c cc own nL ret) {x y : Int32} (hd : decode cc pc = .ok (.ixor, 1)) (K : Rf G p l e s m args below meth c d nL em X (pc + 1) ls (.int (x ^^^ y) :: st) M) : Rf G p l e s m args below meth c d nL em X pc ls (.int y :: .int x :: st) M :=
  fun r hX H locs la hP hS hl => lv_ixor F.x F.b hd (K r hX H locs la hP hS hl)
theorem r_ishl (F : Fx G p l s m args meth c cc own nL ret) {x y : Int32} (hd : decode cc pc = .ok (.ishl, 1)) (K : Rf G p l e s m args below meth c d nL em X (pc + 1) ls (.int (x <<< (y &&& 31)) :: st) M) : Rf G p l e s m args below meth c d nL em X pc ls (.int y :: .int x :: st) M :=
  fun r hX H locs la hP hS hl => lv_ishl F.x F.b hd (K r hX H locs la hP hS hl)
theorem r_ishr (F : Fx G p l s m args meth c cc own nL ret) {x y : Int32} (hd : decode cc pc = .ok (.ishr, 1)) (K : Rf G p l e s m args below meth c d nL em X (pc + 1) ls (.int (x >>> (y &&& 31)) :: st) M) : Rf G p l e s m args below meth c d nL em X pc ls (.int y :: .int x :: st) M :=
  fun r hX H locs la hP hS hl => lv_ishr F.x F.b hd (K r hX H locs la hP hS hl)
theorem r_idiv (F : Fx G p l s m args meth c cc own nL ret) {x y : Int32} (hd : decode cc pc = .ok (.idiv, 1)) (hne : ¬ y = 0) (K : Rf G p l e s m args below meth c d nL em X (pc + 1) ls (.int (x / y) :: st) M) : Rf G p l e s m args below meth c d nL em X pc ls (.int y :: .int x :: st) M :=
  fun r hX H locs la hP hS hl => lv_idiv F.x F.b hd hne (K r hX H locs la hP hS hl)
theorem r_irem (F : Fx G p l s m args meth c cc own nL ret) {x y : Int32} (hd : decode cc pc = .ok (.irem, 1)) (hne : ¬ y = 0) (K : Rf G p l e s m args below meth c d nL em X (pc + 1) ls (.int (x - x / y * y) :: st) M) : Rf G p l e s m args below meth c d nL em X pc ls (.int y :: .int x :: st) M :=
  fun r hX H locs la hP hS hl => lv_irem F.x F.b hd hne (K r hX H locs la hP hS hl)
theorem r_iushr (F : Fx G p l s m args meth c cc own nL ret) {x y : Int32} (hd : decode cc pc = .ok (.iushr, 1)) (K : Rf G p l e s m args below meth c d nL em X (pc + 1) ls (.int ((x.toUInt32 >>> (y.toUInt32 &&& Int32.toUInt32 31)).toInt32) :: st) M) : Rf G p l e s m args below meth c d nL em X pc ls (.int y :: .int x :: st) M :=
  fun r hX H locs la hP hS hl => lv_iushr F.x F.b hd rfl (K r hX H locs la hP hS hl)
theorem r_ladd (F : Fx G p l s m args meth c cc own nL ret) {x y : Int64} (hd : decode cc pc = .ok (.ladd, 1)) (K : Rf G p l e s m args below meth c d nL em X (pc + 1) ls (.long (x + y) :: st) M) : Rf G p l e s m args below meth c d nL em X pc ls (.long y :: .long x :: st) M :=
  fun r hX H locs la hP hS hl => lv_ladd F.x F.b hd (K r hX H locs la hP hS hl)
theorem r_lmul (F : Fx G p l s m args meth c cc own nL ret) {x y : Int64} (hd : decode cc pc = .ok (.lmul, 1)) (K : Rf G p l e s m args below meth c d nL em X (pc + 1) ls (.long (x * y) :: st) M) : Rf G p l e s m args below meth c d nL em X pc ls (.long y :: .long x :: st) M :=
  fun r hX H locs la hP hS hl => lv_lmul F.x F.b hd (K r hX H locs la hP hS hl)
theorem r_lsub (F : Fx G p l s m args meth c cc own nL ret) {x y : Int64} (hd : decode cc pc = .ok (.lsub, 1)) (K : Rf G p l e s m args below meth c d nL em X (pc + 1) ls (.long (x - y) :: st) M) : Rf G p l e s m args below meth c d nL em X pc ls (.long y :: .long x :: st) M :=
  fun r hX H locs la hP hS hl => lv_lsub F.x F.b hd (K r hX H locs la hP hS hl)
theorem r_lshl (F : Fx G p l s m args meth c cc own nL ret) {x : Int64} {y : Int32} (hd : decode cc pc = .ok (.lshl, 1)) (K : Rf G p l e s m args below meth c d nL em X (pc + 1) ls (.long (x <<< (y.toInt64 &&& 63)) :: st) M) : Rf G p l e s m args below meth c d nL em X pc ls (.int y :: .long x :: st) M :=
  fun r hX H locs la hP hS hl => lv_lshl F.x F.b hd rfl (K r hX H locs la hP hS hl)
theorem r_i2l (F : Fx G p l s m args meth c cc own nL ret) {x : Int32} (hd : decode cc pc = .ok (.i2l, 1)) (K : Rf G p l e s m args below meth c d nL em X (pc + 1) ls (.long x.toInt64 :: st) M) : Rf G p l e s m args below meth c d nL em X pc ls (.int x :: st) M :=
  fun r hX H locs la hP hS hl => lv_i2l F.x F.b hd rfl (K r hX H locs la hP hS hl)
theorem r_i2d (F : Fx G p l s m args meth c cc own nL ret) {x : Int32} (hd : decode cc pc = .ok (.i2d, 1)) (K : Rf G p l e s m args below meth c d nL em X (pc + 1) ls (.double (FP.i2d x) :: st) M) : Rf G p l e s m args below meth c d nL em X pc ls (.int x :: st) M :=
  fun r hX H locs la hP hS hl => lv_i2d F.x F.b hd (K r hX H locs la hP hS hl)
theorem r_d2l (F : Fx G p l s m args meth c cc own nL ret) {x : UInt64} (hd : decode cc pc = .ok (.d2l, 1)) (K : Rf G p l e s m args below meth c d nL em X (pc + 1) ls (.long (FP.d2l x) :: st) M) : Rf G p l e s m args below meth c d nL em X pc ls (.double x :: st) M :=
  fun r hX H locs la hP hS hl => lv_d2l F.x F.b hd (K r hX H locs la hP hS hl)
theorem r_dcmp (F : Fx G p l s m args meth c cc own nL ret) {x y : UInt64} {op : CmpOp} (hd : decode cc pc = .ok (.dcmp op, 1)) (K : Rf G p l e s m args below meth c d nL em X (pc + 1) ls (.int (Op.cmpValue (FP.dcmp x y) op) :: st) M) : Rf G p l e s m args below meth c d nL em X pc ls (.double y :: .double x :: st) M :=
  fun r hX H locs la hP hS hl => lv_dcmp F.x F.b hd (K r hX H locs la hP hS hl)
theorem r_ddiv (F : Fx G p l s m args meth c cc own nL ret) {x y : UInt64} (hd : decode cc pc = .ok (.ddiv, 1)) (hne : vf_n64 (FP.ddiv x y)) (K : Rf G p l e s m args below meth c d nL em X (pc + 1) ls (.double (FP.ddiv x y) :: st) M) : Rf G p l e s m args below meth c d nL em X pc ls (.double y :: .double x :: st) M :=
  fun r hX H locs la hP hS hl => lv_ddiv F.x F.b hd hne (K r hX H locs la hP hS hl)
theorem r_dmul (F : Fx G p l s m args meth c cc own nL ret) {x y : UInt64} (hd : decode cc pc = .ok (.dmul, 1)) (hne : vf_n64 (FP.dmul x y)) (K : Rf G p l e s m args below meth c d nL em X (pc + 1) ls (.double (FP.dmul x y) :: st) M) : Rf G p l e s m args below meth c d nL em X pc ls (.double y :: .double x :: st) M :=
  fun r hX H locs la hP hS hl => lv_dmul F.x F.b hd hne (K r hX H locs la hP hS hl)
theorem r_dsub (F : Fx G p l s m args meth c cc own nL ret) {x y : UInt64} (hd : decode cc pc = .ok (.dsub, 1)) (hne : vf_n64 (FP.dsub x y)) (K : Rf G p l e s m args below meth c d nL em X (pc + 1) ls (.double (FP.dsub x y) :: st) M) : Rf G p l e s m args below meth c d nL em X pc ls (.double y :: .double x :: st) M :=
  fun r hX H locs la hP hS hl => lv_dsub F.x F.b hd hne (K r hX H locs la hP hS hl)
theorem r_lcmp (F : Fx G p l s m args meth c cc own nL ret) {x y : Int64} (hd : decode cc pc = .ok (.lcmp, 1)) (K : Rf G p l e s m args below meth c d nL em X (pc + 1) ls (.int (lg_cmp x y) :: st) M) : Rf G p l e s m args below meth c d nL em X pc ls (.long y :: .long x :: st) M :=
  fun r hX H locs la hP hS hl => W.lcmp F.x F.b hd (K r hX H locs la hP hS hl)
theorem r_dup (F : Fx G p l s m args meth c cc own nL ret) {va : Value} (hd : decode cc pc = .ok (.dup, 1)) (hva : va.category = 1) (K : Rf G p l e s m args below meth c d nL em X (pc + 1) ls (va :: va :: st) M) : Rf G p l e s m args below meth c d nL em X pc ls (va :: st) M :=
  fun r hX H locs la hP hS hl => lv_dup F.x F.b hd hva (K r hX H locs la hP hS hl)
theorem r_pop (F : Fx G p l s m args meth c cc own nL ret) {va : Value} (hd : decode cc pc = .ok (.pop, 1)) (hva : va.category = 1) (K : Rf G p l e s m args below meth c d nL em X (pc + 1) ls (st) M) : Rf G p l e s m args below meth c d nL em X pc ls (va :: st) M :=
  fun r hX H locs la hP hS hl => lv_pop F.x F.b hd hva (K r hX H locs la hP hS hl)
theorem r_dup2 (F : Fx G p l s m args meth c cc own nL ret) {va vb : Value} (hd : decode cc pc = .ok (.dup2, 1)) (hva : va.category = 1) (hvb : vb.category = 1) (K : Rf G p l e s m args below meth c d nL em X (pc + 1) ls (va :: vb :: va :: vb :: st) M) : Rf G p l e s m args below meth c d nL em X pc ls (va :: vb :: st) M :=
  fun r hX H locs la hP hS hl => lv_dup2_11 F.x F.b hd hva hvb (K r hX H locs la hP hS hl)
theorem r_if_eq (F : Fx G p l s m args meth c cc own nL ret) {x : Int32} {off : Int} {tgt : Nat} {Y : Option β} (hd : decode cc pc = .ok (.ifCond .eq off, 3)) (ht : (pc : Int) + off = (tgt : Int)) (K1 : x = 0 → Rf G p l e s m args below meth c d nL em X tgt ls st M) (K2 : ¬ x = 0 → Rf G p l e s m args below meth c d nL em Y (pc + 3) ls st M) : Rf G p l e s m args below meth c d nL em (if x = 0 then X else Y) pc ls (.int x :: st) M := by
  intro r hX H locs la hP hS hl
  refine lv_if_eq F.x F.b hd ht (fun h => ?_) (fun h => ?_)
  · rw [if_pos h] at hX; exact K1 h r hX H locs la hP hS hl
  · rw [if_neg h] at hX; exact K2 h r hX H locs la hP hS hl
theorem r_if_ne (F : Fx G p l s m args meth c cc own nL ret) {x : Int32} {off : Int} {tgt : Nat} {Y : Option β} (hd : decode cc pc = .ok (.ifCond .ne off, 3)) (ht : (pc : Int) + off = (tgt : Int)) (K1 : x = 0 → Rf G p l e s m args below meth c d nL em X (pc + 3) ls st M) (K2 : ¬ x = 0 → Rf G p l e s m args below meth c d nL em Y tgt ls st M) : Rf G p l e s m args below meth c d nL em (if x = 0 then X else Y) pc ls (.int x :: st) M := by
  intro r hX H locs la hP hS hl
  refine lv_if_ne F.x F.b hd ht (fun h => ?_) (fun h => ?_)
  · rw [if_neg h] at hX; exact K2 h r hX H locs la hP hS hl
  · rw [if_pos h] at hX; exact K1 h r hX H locs la hP hS hl
theorem r_if_lt (F : Fx G p l s m args meth c cc own nL ret) {x : Int32} {off : Int} {tgt : Nat} {Y : Option β} (hd : decode cc pc = .ok (.ifCond .lt off, 3)) (ht : (pc : Int) + off = (tgt : Int)) (K1 : x < 0 → Rf G p l e s m args below meth c d nL em X tgt ls st M) (K2 : ¬ x < 0 → Rf G p l e s m args below meth c d nL em Y (pc + 3) ls st M) : Rf G p l e s m args below meth c d nL em (if x < 0 then X else Y) pc ls (.int x :: st) M := by
  intro r hX H locs la hP hS hl
  refine lv_if_lt F.x F.b hd ht (fun h => ?_) (fun h => ?_)
  · rw [if_pos h] at hX; exact K1 h r hX H locs la hP hS hl
  · rw [if_neg h] at hX; exact K2 h r hX H locs la hP hS hl
theorem r_if_ge (F : Fx G p l s m args meth c cc own nL ret) {x : Int32} {off : Int} {tgt : Nat} {Y : Option β} (hd : decode cc pc = .ok (.ifCond .ge off, 3)) (ht : (pc : Int) + off = (tgt : Int)) (K1 : 0 ≤ x → Rf G p l e s m args below meth c d nL em X tgt ls st M) (K2 : ¬ 0 ≤ x → Rf G p l e s m args below meth c d nL em Y (pc + 3) ls st M) : Rf G p l e s m args below meth c d nL em (if 0 ≤ x then X else Y) pc ls (.int x :: st) M := by
  intro r hX H locs la hP hS hl
  refine lv_if_ge F.x F.b hd ht (fun h => ?_) (fun h => ?_)
  · rw [if_pos h] at hX; exact K1 h r hX H locs la hP hS hl
  · rw [if_neg h] at hX; exact K2 h r hX H locs la hP hS hl
theorem r_if_gt (F : Fx G p l s m args meth c cc own nL ret) {x : Int32} {off : Int} {tgt : Nat} {Y : Option β} (hd : decode cc pc = .ok (.ifCond .gt off, 3)) (ht : (pc : Int) + off = (tgt : Int)) (K1 : 0 < x → Rf G p l e s m args below meth c d nL em X tgt ls st M) (K2 : ¬ 0 < x → Rf G p l e s m args below meth c d nL em Y (pc + 3) ls st M) : Rf G p l e s m args below meth c d nL em (if 0 < x then X else Y) pc ls (.int x :: st) M := by
  intro r hX H locs la hP hS hl
  refine lv_if_gt F.x F.b hd ht (fun h => ?_) (fun h => ?_)
  · rw [if_pos h] at hX; exact K1 h r hX H locs la hP hS hl
  · rw [if_neg h] at hX; exact K2 h r hX H locs la hP hS hl
theorem r_if_le (F : Fx G p l s m args meth c cc own nL ret) {x : Int32} {off : Int} {tgt : Nat} {Y : Option β} (hd : decode cc pc = .ok (.ifCond .le off, 3)) (ht : (pc : Int) + off = (tgt : Int)) (K1 : x ≤ 0 → Rf G p l e s m args below meth c d nL em X tgt ls st M) (K2 : ¬ x ≤ 0 → Rf G p l e s m args below meth c d nL em Y (pc + 3) ls st M) : Rf G p l e s m args below meth c d nL em (if x ≤ 0 then X else Y) pc ls (.int x :: st) M := by
  intro r hX H locs la hP hS hl
  refine lv_if_le F.x F.b hd ht (fun h => ?_) (fun h => ?_)
  · rw [if_pos h] at hX; exact K1 h r hX H locs la hP hS hl
  · rw [if_neg h] at hX; exact K2 h r hX H locs la hP hS hl
theorem r_icmp_eq (F : Fx G p l s m args meth c cc own nL ret) {x y : Int32} {off : Int} {tgt : Nat} {Y : Option β} (hd : decode cc pc = .ok (.if_icmp .eq off, 3)) (ht : (pc : Int) + off = (tgt : Int)) (K1 : x = y → Rf G p l e s m args below meth c d nL em X tgt ls st M) (K2 : ¬ x = y → Rf G p l e s m args below meth c d nL em Y (pc + 3) ls st M) : Rf G p l e s m args below meth c d nL em (if x = y then X else Y) pc ls (.int y :: .int x :: st) M := by
  intro r hX H locs la hP hS hl
  refine lv_icmp_eq F.x F.b hd ht (fun h => ?_) (fun h => ?_)
  · rw [if_pos h] at hX; exact K1 h r hX H locs la hP hS hl
  · rw [if_neg h] at hX; exact K2 h r hX H locs la hP hS hl
theorem r_icmp_ne (F : Fx G p l s m args meth c cc own nL ret) {x y : Int32} {off : Int} {tgt : Nat} {Y : Option β} (hd : decode cc pc = .ok (.if_icmp .ne off, 3)) (ht : (pc : Int) + off = (tgt : Int)) (K1 : x = y → Rf G p l e s m args below meth c d nL em X (pc + 3) ls st M) (K2 : ¬ x = y → Rf G p l e s m args below meth c d nL em Y tgt ls st M) : Rf G p l e s m args below meth c d nL em (if x = y then X else Y) pc ls (.int y :: .int x :: st) M := by
  intro r hX H locs la hP hS hl
  refine lv_icmp_ne F.x F.b hd ht (fun h => ?_) (fun h => ?_)
  · rw [if_neg h] at hX; exact K2 h r hX H locs la hP hS hl
  · rw [if_pos h] at hX; exact K1 h r hX H locs la hP hS hl
theorem r_icmp_lt (F : Fx G p l s m args meth c cc own nL ret) {x y : Int32} {off : Int} {tgt : Nat} {Y : Option β} (hd : decode cc pc = .ok (.if_icmp .lt off, 3)) (ht : (pc : Int) + off = (tgt : Int)) (K1 : x < y → Rf G p l e s m args below meth c d nL em X tgt ls st M) (K2 : ¬ x < y → Rf G p l e s m args below meth c d nL em Y (pc + 3) ls st M) : Rf G p l e s m args below meth c d nL em (if x < y then X else Y) pc ls (.int y :: .int x :: st) M := by
  intro r hX H locs la hP hS hl
  refine lv_icmp_lt F.x F.b hd ht (fun h => ?_) (fun h => ?_)
  · rw [if_pos h] at hX; exact K1 h r hX H locs la hP hS hl
  · rw [if_neg h] at hX; exact K2 h r hX H locs la hP hS hl
theorem r_icmp_ge (F : Fx G p l s m args meth c cc own nL ret) {x y : Int32} {off : Int} {tgt : Nat} {Y : Option β} (hd : decode cc pc = .ok (.if_icmp .ge off, 3)) (ht : (pc : Int) + off = (tgt : Int)) (K1 : y ≤ x → Rf G p l e s m args below meth c d nL em X tgt ls st M) (K2 : ¬ y ≤ x → Rf G p l e s m args below meth c d nL em Y (pc + 3) ls st M) : Rf G p l e s m args below meth c d nL em (if y ≤ x then X else Y) pc ls (.int y :: .int x :: st) M := by
  intro r hX H locs la hP hS hl
  refine lv_icmp_ge F.x F.b hd ht (fun h => ?_) (fun h => ?_)
  · rw [if_pos h] at hX; exact K1 h r hX H locs la hP hS hl
  · rw [if_neg h] at hX; exact K2 h r hX H locs la hP hS hl
theorem r_icmp_gt (F : Fx G p l s m args meth c cc own nL ret) {x y : Int32} {off : Int} {tgt : Nat} {Y : Option β} (hd : decode cc pc = .ok (.if_icmp .gt off, 3)) (ht : (pc : Int) + off = (tgt : Int)) (K1 : y < x → Rf G p l e s m args below meth c d nL em X tgt ls st M) (K2 : ¬ y < x → Rf G p l e s m args below meth c d nL em Y (pc + 3) ls st M) : Rf G p l e s m args below meth c d nL em (if y < x then X else Y) pc ls (.int y :: .int x :: st) M := by
  intro r hX H locs la hP hS hl
  refine lv_icmp_gt F.x F.b hd ht (fun h => ?_) (fun h => ?_)
  · rw [if_pos h] at hX; exact K1 h r hX H locs la hP hS hl
  · rw [if_neg h] at hX; exact K2 h r hX H locs la hP hS hl
theorem r_icmp_le (F : Fx G p l s m args meth c cc own nL ret) {x y : Int32} {off : Int} {tgt : Nat} {Y : Option β} (hd : decode cc pc = .ok (.if_icmp .le off, 3)) (ht : (pc : Int) + off = (tgt : Int)) (K1 : x ≤ y → Rf G p l e s m args below meth c d nL em X tgt ls st M) (K2 : ¬ x ≤ y → Rf G p l e s m args below meth c d nL em Y (pc + 3) ls st M) : Rf G p l e s m args below meth c d nL em (if x ≤ y then X else Y) pc ls (.int y :: .int x :: st) M := by
  intro r hX H locs la hP hS hl
  refine lv_icmp_le F.x F.b hd ht (fun h => ?_) (fun h => ?_)
  · rw [if_pos h] at hX; exact K1 h r hX H locs la hP hS hl
  · rw [if_neg h] at hX; exact K2 h r hX H locs la hP hS hl
theorem r_goto (F : Fx G p l s m args meth c cc own nL ret) {off : Int} {tgt : Nat} (hd : decode cc pc = .ok (.goto off, 3)) (ht : (pc : Int) + off = (tgt : Int)) (K : Rf G p l e s m args below meth c d nL em X tgt ls st M) : Rf G p l e s m args below meth c d nL em X pc ls st M :=
  fun r hX H locs la hP hS hl => lv_goto F.x F.b hd ht (K r hX H locs la hP hS hl)
theorem r_tabIn (F : Fx G p l s m args meth c cc own nL ret) {dflt lo hi : Int} {offs : Array Int} {len : Nat} {x v : Int32} {off : Int} {tgt : Nat} (hd : decode cc pc = .ok (.tableswitch dflt lo hi offs, len)) (hx : x = v) (h1 : ¬ v.toInt < lo) (h2 : ¬ hi < v.toInt) (ho : offs[(v.toInt - lo).toNat]? = some off) (ht : (pc : Int) + off = (tgt : Int)) (K : Rf G p l e s m args below meth c d nL em X tgt ls st M) : Rf G p l e s m args below meth c d nL em X pc ls (.int x :: st) M := by
  subst hx
  exact fun r hX H locs la hP hS hl => lv_tableIn F.x F.b hd h1 h2 ho ht (K r hX H locs la hP hS hl)
theorem r_tabOut (F : Fx G p l s m args meth c cc own nL ret) {dflt lo hi : Int} {offs : Array Int} {len : Nat} {x : Int32} {tgt : Nat} (hd : decode cc pc = .ok (.tableswitch dflt lo hi offs, len)) (h : x.toInt < lo ∨ hi < x.toInt) (ht : (pc : Int) + dflt = (tgt : Int)) (K : Rf G p l e s m args below meth c d nL em X tgt ls st M) : Rf G p l e s m args below meth c d nL em X pc ls (.int x :: st) M :=
  fun r hX H locs la hP hS hl => lv_tableOut F.x F.b hd h ht (K r hX H locs la hP hS hl)
theorem r_ldc (F : Fx G p l s m args meth c cc own nL ret) {v : Int32} {ix : Nat} (hd : decode cc pc = .ok (.ldc ix, 2)) (hw : Cond.constant own ix v ∈ wsA) (K : Rf G p l e s m args below meth c d nL em X (pc + 2) ls (.int v :: st) M) : Rf G p l e s m args below meth c d nL em X pc ls (st) M :=
  fun r hX H locs la hP hS hl => lv_ldc F.x F.b F.ow (F.ws _ hw) hd (K r hX H locs la hP hS hl)
theorem r_ldcw (F : Fx G p l s m args meth c cc own nL ret) {v : Int32} {ix : Nat} (hd : decode cc pc = .ok (.ldc_w ix, 3)) (hw : Cond.constant own ix v ∈ wsA) (K : Rf G p l e s m args below meth c d nL em X (pc + 3) ls (.int v :: st) M) : Rf G p l e s m args below meth c d nL em X pc ls (st) M :=
  fun r hX H locs la hP hS hl => lv_ldcw F.x F.b F.ow (F.ws _ hw) hd (K r hX H locs la hP hS hl)
theorem r_ldc2 (F : Fx G p l s m args meth c cc own nL ret) {v : Int64} {ix : Nat} (hd : decode cc pc = .ok (.ldc2_w ix, 3)) (hw : Cond.constantLong own ix v ∈ wsA) (K : Rf G p l e s m args below meth c d nL em X (pc + 3) ls (.long v :: st) M) : Rf G p l e s m args below meth c d nL em X pc ls (st) M :=
  fun r hX H locs la hP hS hl => lv_ldc2 F.x F.b F.ow (F.ws _ hw) hd (K r hX H locs la hP hS hl)
theorem r_ldc2d (F : Fx G p l s m args meth c cc own nL ret) {v : UInt64} {ix : Nat} (hd : decode cc pc = .ok (.ldc2_w ix, 3)) (hw : Cond.constantDouble own ix v ∈ wsA) (K : Rf G p l e s m args below meth c d nL em X (pc + 3) ls (.double v :: st) M) : Rf G p l e s m args below meth c d nL em X pc ls (st) M :=
  fun r hX H locs la hP hS hl => lv_ldc2d F.x F.b F.ow (F.ws _ hw) hd (K r hX H locs la hP hS hl)
theorem r_iald (F : Fx G p l s m args meth c cc own nL ret) {k n : Nat} {i : Int32} (hd : decode cc pc = .ok (.iaload, 1)) (hk : kd k = 8) (ha : al k = n) (hi : inb i n = true) (K : Rf G p l e s m args below meth c d nL em X (pc + 1) ls (.int (M.1 k i.toNatClampNeg) :: st) M) : Rf G p l e s m args below meth c d nL em X pc ls (.int i :: .ref (gA G k) :: st) M :=
  fun r hX H locs la hP hS hl => va_iald F.x F.b F.K hP _ 0 (wd_i hk) rfl (by rw [ha]; exact inb_in hi) hd (K r hX H locs la hP hS hl)
theorem r_iast (F : Fx G p l s m args meth c cc own nL ret) {k n : Nat} {i v : Int32} {B : Mem → Option β} (hd : decode cc pc = .ok (.iastore, 1)) (hk : kd k = 8) (ha : al k = n) (hi : inb i n = true) (K : ∀ M, Rf G p l e s m args below meth c d nL em (B M) (pc + 1) ls st M) : Rf G p l e s m args below meth c d nL em (bnd (mw M k i.toNatClampNeg v) B) pc ls (.int v :: .int i :: .ref (gA G k) :: st) M :=
  fun r hX H locs la hP hS hl => va_iast F.x F.b F.K hP (F.gg.D M) hS _ 0 (wd_i hk) rfl (by rw [ha]; exact inb_in hi) hd (fun H locs hP _ hS => K _ r hX H locs la (by rw [wd_mwi hk] at hP; exact hP) hS hl)
theorem r_alen (F : Fx G p l s m args meth c cc own nL ret) {k n : Nat} {v : Int32} (hd : decode cc pc = .ok (.arraylength, 1)) (hk : kd k = 8) (ha : al k = n) (hv : Int32.ofNat n = v) (K : Rf G p l e s m args below meth c d nL em X (pc + 1) ls (.int v :: st) M) : Rf G p l e s m args below meth c d nL em X pc ls (.ref (gA G k) :: st) M :=
  fun r hX H locs la hP hS hl => va_alen F.x F.b F.K hP _ 0 (wd_i hk) rfl (by rw [ha]; exact hv) hd (K r hX H locs la hP hS hl)
theorem r_aaldT (F : Fx G p l s m args meth c cc own nL ret) {k : Nat} {i : Int32} (hd : decode cc pc = .ok (.aaload, 1)) (hk : kd k = 9) (hi : inb i 6 = true) (K : Rf G p l e s m args below meth c d nL em X (pc + 1) ls (.ref (gA G (tw k i)) :: st) M) : Rf G p l e s m args below meth c d nL em X pc ls (.int i :: .ref (gA G k) :: st) M :=
  fun r hX H locs la hP hS hl => va_aldq F.x F.b F.K hP _ 1 (wd_t hk) rfl (inb_in hi) hd (K r hX H locs la hP hS hl)
theorem r_aaldS (F : Fx G p l s m args meth c cc own nL ret) {k : Nat} {i : Int32} (hd : decode cc pc = .ok (.aaload, 1)) (hk : kd k = 10) (hi : inb i 6 = true) (K : Rf G p l e s m args below meth c d nL em X (pc + 1) ls (.ref (gA G (sv M k i)) :: st) M) : Rf G p l e s m args below meth c d nL em X pc ls (.int i :: .ref (gA G k) :: st) M :=
  fun r hX H locs la hP hS hl => va_aldq F.x F.b F.K hP _ 2 (wd_s hk) rfl (inb_in hi) hd (K r hX H locs la hP hS hl)
theorem r_aaldR (F : Fx G p l s m args meth c cc own nL ret) {k : Nat} {i : Int32} (hd : decode cc pc = .ok (.aaload, 1)) (hk : kd k = 11) (hi : inb i 6 = true) (K : Rf G p l e s m args below meth c d nL em X (pc + 1) ls (.ref (gA G (rw' k i)) :: st) M) : Rf G p l e s m args below meth c d nL em X pc ls (.int i :: .ref (gA G k) :: st) M := by
  intro r hX H locs la hP hS hl
  have hlt := inb_lt hi
  have hc : H[gA G k]? = some (vp_cell (gC G 3) (6, .inr (.inr (.inr (.inr (fun j => some (gA G (k + 1 + j)))))))) := hP _ _ (wd_r hk)
  rw [vp_cell_q] at hc
  refine W.aald (v := .ref (gA G (rw' k i))) (ty := .array .int) F.x F.b hc ((F.K.2 3 _ rfl).1 6 _) rfl (fun q => by cases q) (by rw [arrV_size]; exact inb_in hi) ?_ rfl rfl hd (K r hX H locs la hP hS hl)
  rw [arrV_read _ _ hlt]
  rfl
theorem r_aastS (F : Fx G p l s m args meth c cc own nL ret) {k b : Nat} {i : Int32} {B : Mem → Option β} (hd : decode cc pc = .ok (.aastore, 1)) (hk : kd k = 10) (hi : inb i 6 = true) (hb : kd b = 1) (K : ∀ M, Rf G p l e s m args below meth c d nL em (B M) (pc + 1) ls st M) : Rf G p l e s m args below meth c d nL em (bnd (mw M k i.toNatClampNeg (Int32.ofNat (b / 34))) B) pc ls (.ref (gA G b) :: .int i :: .ref (gA G k) :: st) M := by
  intro r hX H locs la hP hS hl
  have hb2 : 34 * (Int32.ofNat (b / 34)).toNatClampNeg = b := by
    have h0 : ∀ b, b < 272 → kd b = 1 → 34 * (Int32.ofNat (b / 34)).toNatClampNeg = b := by decide +kernel
    exact h0 b (kd_lt hb (by decide)) hb
  refine va_astq (r := (RX0, TX0, 8)) F.x F.b F.K hP (F.gg.D M) hS _ 2 _ 0 (wd_s hk) rfl (wd_o hb (by decide)) rfl (inb_in hi) hd (fun H locs hP _ hS => K _ r hX H locs la ?_ hS hl)
  have e : (wd G M).set (ix_c k) (gA G k, .inl (gC G 2, 6, .inr (.inr (.inr (.inr (va_up (fun i => some (gA G (34 * (M.1 k i).toNatClampNeg))) i.toNatClampNeg (some (gA G b)))))))) = wd G (mw M k i.toNatClampNeg (Int32.ofNat (b / 34))) := by
    refine wd_set (by rw [hk]; decide) ?_ (fun j _ hj => ce_other (fun b => mw_ne hj) rfl)
    simp only [ce, hk]
    congr 7
    funext j
    by_cases hj : j = i.toNatClampNeg
    · rw [hj, mw_eq, va_up_self, hb2]
    · rw [mw_ne2 hj, va_up_ne _ _ hj]
  rw [e] at hP
  exact hP
theorem r_min (F : Fx G p l s m args meth c cc own nL ret) {x y : Int32} {ix : Nat} (hd : decode cc pc = .ok (.invokestatic ix, 3)) (hk : Cond.methodLink own ix Lib.Math.min.name ∈ wsA) (hw : Cond.static Lib.Math.min.name ∈ wsA ∧ Cond.initialized "java/lang/Math" ∈ wsA ∧ Cond.code Lib.Math.min.name Lib.Math.min.code 2 (some .int) ∈ wsA) (hdd : 1 ≤ d) (hs : (st.map fun v => v.category).sum ≤ 8) (K : Rf G p l e s m args below meth c d nL em X (pc + 3) ls (.int (if y < x then y else x) :: st) M) : Rf G p l e s m args below meth c d nL em X pc ls (.int y :: .int x :: st) M :=
  fun r hX H locs la hP hS hl => va_mmin F.x F.b (F.ml.trans hl.1.symm) F.ow (F.ws _ hk) (F.ws _ hw.1) (F.ws _ hw.2.1) (F.ws _ hw.2.2) (by rw [rmO_f]; exact hdd) (by rw [rmO_l]; omega) (Nat.zero_le _) (Nat.zero_le _) hd (K r hX H locs la hP hS hl)
theorem nf9 : nativeFrameWords "java/lang/System" "arraycopy" 5 ≤ 30 := Nat.le_of_ble_eq_true rfl
/-- what System.arraycopy of whole int[]s leaves -/
def mcp (M : Mem) (a b : Nat) (n : Int32) : Mem := mrw M b (va_cpy (M.1 a) (M.1 b) 0 0 n.toNatClampNeg)
theorem r_copy (F : Fx G p l s m args meth c cc own nL ret) {a b : Nat} {n : Int32} {ix : Nat} {B : Mem → Option β} (hd : decode cc pc = .ok (.invokestatic ix, 3)) (hk : Cond.methodLink own ix arraycopyName ∈ wsA) (hw : Cond.native arraycopyName ∈ wsA ∧ Cond.static arraycopyName ∈ wsA ∧ Cond.initialized "java/lang/System" ∈ wsA) (ha : kd a = 8) (hb : kd b = 8) (h1 : (!(decide (n < 0)) && (decide (n.toNatClampNeg ≤ al a) && decide (n.toNatClampNeg ≤ al b))) = true) (hdd : 1 ≤ d) (hs : (st.map fun v => v.category).sum ≤ 8) (K : ∀ M, Rf G p l e s m args below meth c d nL em (B M) (pc + 3) ls st M) : Rf G p l e s m args below meth c d nL em (bnd (mcp M a b n) B) pc ls (.int n :: .int 0 :: .ref (gA G b) :: .int 0 :: .ref (gA G a) :: st) M := by
  intro r hX H locs la hP hS hl
  simp only [Bool.and_eq_true, Bool.not_eq_true', decide_eq_false_iff_not, decide_eq_true_eq] at h1
  refine va_copyi F.x F.b (F.ml.trans hl.1.symm) F.ow (F.ws _ hk) (F.ws _ hw.1) (F.ws _ hw.2.1) (F.ws _ hw.2.2) F.K hP (F.gg.D M) hS _ _ 0 0 (wd_i ha) (wd_i hb) rfl rfl rfl (by decide) (by decide) h1.1 (by show 0 + _ ≤ _; omega) (by show 0 + _ ≤ _; omega) (fun i _ => rfl) (by rw [rmO_f]; exact hdd) (by rw [rmO_l]; have h9 := nf9; omega) hd (fun H locs hP _ hS => K _ r hX H locs la ?_ hS hl)
  rw [wd_mrw hb] at hP
  exact hP
theorem va_S.nil {A : Nat → Prop} {H0 H : Heap} {locs : List Loc} (h : va_S A H0 H locs) : ∀ q ∈ locs, A q.base := h.2.2
theorem r_iret (F : Fx G p l s m args meth c cc own nL ret) {v : Int32} {r0 : β} (hem : em r0 = (.inl (some (.int v)), M)) (hd : decode cc pc = .ok (.ireturn, 1)) (hr : ret = some .int) : Rf G p l e s m args below meth c d nL em (some r0) pc ls [.int v] M := by
  intro r hX H locs la hP hS hl
  cases hX
  rw [hem]
  refine vx_ret ?_
  exact W.iret F.x F.b (F.r.trans hr) (fun t ht hW => ⟨⟨rfl, by rw [ht]; exact hP⟩, hS.F ht⟩) hS.2.2 hd F.lk
theorem r_zret (F : Fx G p l s m args meth c cc own nL ret) {v : Int32} {r0 : β} (hem : em r0 = (.inl (some (.int v)), M)) (hd : decode cc pc = .ok (.ireturn, 1)) (hr : ret = some .boolean) (hv : v = 0 ∨ v = 1) : Rf G p l e s m args below meth c d nL em (some r0) pc ls [.int v] M := by
  intro r hX H locs la hP hS hl
  cases hX
  rw [hem]
  refine vx_ret ?_
  exact W.zret (ty := .boolean) F.x F.b (F.r.trans hr) (by rcases hv with rfl | rfl <;> rfl) (fun t ht hW => ⟨⟨rfl, by rw [ht]; exact hP⟩, hS.F ht⟩) hS.2.2 hd F.lk
theorem r_lret (F : Fx G p l s m args meth c cc own nL ret) {v : Int64} {r0 : β} (hem : em r0 = (.inl (some (.long v)), M)) (hd : decode cc pc = .ok (.lreturn, 1)) (hr : ret = some .long) : Rf G p l e s m args below meth c d nL em (some r0) pc ls [.long v] M := by
  intro r hX H locs la hP hS hl
  cases hX
  rw [hem]
  refine vx_ret ?_
  exact W.lret F.x F.b (F.r.trans hr) (fun t ht hW => ⟨⟨rfl, by rw [ht]; exact hP⟩, hS.F ht⟩) hS.2.2 hd F.lk
theorem r_dret (F : Fx G p l s m args meth c cc own nL ret) {v : UInt64} {r0 : β} (hem : em r0 = (.inl (some (.double v)), M)) (hd : decode cc pc = .ok (.dreturn, 1)) (hr : ret = some .double) : Rf G p l e s m args below meth c d nL em (some r0) pc ls [.double v] M := by
  intro r hX H locs la hP hS hl
  cases hX
  rw [hem]
  refine vx_ret ?_
  exact W.dret F.x F.b (F.r.trans hr) (fun t ht hW => ⟨⟨rfl, by rw [ht]; exact hP⟩, hS.F ht⟩) hS.2.2 hd F.lk
theorem r_vret (F : Fx G p l s m args meth c cc own nL ret) {r0 : β} (hem : em r0 = (.inl none, M)) (hd : decode cc pc = .ok (.return_, 1)) (hr : ret = none) : Rf G p l e s m args below meth c d nL em (some r0) pc ls [] M := by
  intro r hX H locs la hP hS hl
  cases hX
  rw [hem]
  refine vx_ret ?_
  exact W.vret F.x F.b (F.r.trans hr) (fun t ht hW => ⟨⟨rfl, by rw [ht]; exact hP⟩, hS.F ht⟩) hS.2.2 hd F.lk
end RF
