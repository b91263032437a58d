/-! ===== the law's acts ===== -/
/-- a class's method that may throw, called where it doesn't -/
def bq {α β : Type} (Y : Option ((α ⊕ String) × Mem)) (K : α → Mem → Option β) : Option β := match Y with
  | none => none
  | some (.inr _, _) => none
  | some (.inl r, M) => K r M
theorem bq_s {α β : Type} {r : α} {M : Mem} {K : α → Mem → Option β} : bq (some (.inl r, M)) K = K r M := rfl
def rmA : Room := { frames := 26, cells := 1, slots := 6, locals := 64 * 26 }
/-- from here, the number X is what the machine comes to, with at most one new object -/
def Rh (G : GM) (p : Program) (l : Launch) (e : Env) (s : State) (m : MethodId) (args : Array Value) (below : List Frame) (meth : Method) (c : Code) (nL : Nat) (X : Option (Int32 × Mem)) (pc : Nat) (ls : List (Nat × Value)) (st : List Value) (M : Mem) : Prop :=
  ∀ r, X = some r → Rw G p l e rmA s m args below meth c nL 0 0 (MQ below (QcR G (some (.int r.1)) r.2) args s 1 6 (A0 G)) pc ls st M
section RH
variable {G : GM} {p : Program} {l : Launch} {e : Env} {s : State} {m : MethodId} {args : Array Value} {below : List Frame} {meth : Method} {c : Code} {cc : ByteArray} {own : String} {nL : Nat} {ret : Option FieldType}
variable {pc : Nat} {ls : List (Nat × Value)} {st rest : List Value} {M : Mem} {X : Option (Int32 × Mem)} {k cK N : Nat} {T : u_T}
variable {y : MethodName} {bytes : ByteArray} {maxL d' n ix : Nat} {ret' : Option FieldType} {As : List Value}
theorem h_none : Rh G p l e s m args below meth c nL (none : Option (Int32 × Mem)) pc ls st M := fun r h => by cases h
theorem h_chk {b : Bool} (K : b = true → Rh G p l e s m args below meth c nL X pc ls st M) : Rh G p l e s m args below meth c nL (chk b X) pc ls st M := by
  cases b
  · exact h_none
  · exact K rfl
theorem h_ite {q : Prop} [Decidable q] {Y : Option (Int32 × Mem)} (K1 : q → Rh G p l e s m args below meth c nL X pc ls st M) (K2 : ¬ q → Rh G p l e s m args below meth c nL Y pc ls st M) : Rh G p l e s m args below meth c nL (if q then X else Y) pc ls st M := by
  by_cases h : q
  · rw [if_pos h]; exact K1 h
  · rw [if_neg h]; exact K2 h
theorem h_sub {ls' : List (Nat × Value)} (ks : List Nat) (h : lv_pick ls ks = ls') (K : Rh G p l e s m args below meth c nL X pc ls' st M) : Rh G p l e s m args below meth c nL X pc ls st M :=
  fun r hX H locs la hP hS hl => K r hX H locs la hP hS (lv_sub hl ks h)
theorem h_iconst (F : Fy G p l s m args meth c cc own nL ret) {n : Int} {v : Int32} (hd : decode cc pc = .ok (.iconst n, 1)) (hv : Int32.ofInt n = v) (K : Rh G p l e s m args below meth c nL X (pc + 1) ls (.int v :: st) M) : Rh G p l e s m args below meth c nL X pc ls (st) M :=
  fun r hX H locs la hP hS hl => lv_iconst F.x F.b hd hv (K r hX H locs la hP hS hl)
theorem h_bipush (F : Fy G p l s m args meth c cc own nL ret) {n : Int} {v : Int32} (hd : decode cc pc = .ok (.bipush n, 2)) (hv : (Int8.ofInt n).toInt32 = v) (K : Rh G p l e s m args below meth c nL X (pc + 2) ls (.int v :: st) M) : Rh G p l e s m args below meth c nL X pc ls (st) M :=
  fun r hX H locs la hP hS hl => lv_bipush F.x F.b hd hv (K r hX H locs la hP hS hl)
theorem h_sipush (F : Fy G p l s m args meth c cc own nL ret) {n : Int} {v : Int32} (hd : decode cc pc = .ok (.sipush n, 3)) (hv : (Int16.ofInt n).toInt32 = v) (K : Rh G p l e s m args below meth c nL X (pc + 3) ls (.int v :: st) M) : Rh G p l e s m args below meth c nL X pc ls (st) M :=
  fun r hX H locs la hP hS hl => lv_sipush F.x F.b hd hv (K r hX H locs la hP hS hl)
theorem h_iload_n (F : Fy G p l s m args meth c cc own nL ret) {k : Fin 4} {i : Nat} {x : Int32} (j : Nat) (hd : decode cc pc = .ok (.iload_n k, 1)) (hi : (k : Nat) = i) (hj : ls[j]? = some (i, .int x)) (K : Rh G p l e s m args below meth c nL X (pc + 1) ls (.int x :: st) M) : Rh G p l e s m args below meth c nL X pc ls (st) M :=
  fun r hX H locs la hP hS hl => lv_iload_n F.x F.b hd hi (lv_at hl j hj) (K r hX H locs la hP hS hl)
theorem h_iload (F : Fy G p l s m args meth c cc own nL ret) {i : Nat} {x : Int32} (j : Nat) (hd : decode cc pc = .ok (.iload i, 2)) (hj : ls[j]? = some (i, .int x)) (K : Rh G p l e s m args below meth c nL X (pc + 2) ls (.int x :: st) M) : Rh G p l e s m args below meth c nL X pc ls (st) M :=
  fun r hX H locs la hP hS hl => lv_iload F.x F.b hd (lv_at hl j hj) (K r hX H locs la hP hS hl)
theorem h_aload_n (F : Fy G p l s m args meth c cc own nL ret) {k : Fin 4} {i a : Nat} (j : Nat) (hd : decode cc pc = .ok (.aload_n k, 1)) (hi : (k : Nat) = i) (hj : ls[j]? = some (i, .ref a)) (K : Rh G p l e s m args below meth c nL X (pc + 1) ls (.ref a :: st) M) : Rh G p l e s m args below meth c nL X pc ls (st) M :=
  fun r hX H locs la hP hS hl => lv_aload_n F.x F.b hd hi (lv_at hl j hj) (K r hX H locs la hP hS hl)
theorem h_istore (F : Fy G p l s m args meth c cc own nL ret) {i : Nat} {x : Int32} {ls' : List (Nat × Value)} (hd : decode cc pc = .ok (.istore i, 2)) (hn : i < nL) (hl' : (i, Value.int x) :: ls.filter (fun q => !(q.1 == i) && !(q.1 + 1 == i && q.2.category == 2)) = ls') (K : Rh G p l e s m args below meth c nL X (pc + 2) ls' st M) : Rh G p l e s m args below meth c nL X pc ls (.int x :: st) M :=
  fun r hX H locs la hP hS hl => lv_istore F.x F.b hd hl hn hl' (fun la hl => K r hX H locs la hP hS hl)
theorem h_istore_n (F : Fy G p l s m args meth c cc own nL ret) {k : Fin 4} {i : Nat} {x : Int32} {ls' : List (Nat × Value)} (hd : decode cc pc = .ok (.istore_n k, 1)) (hi : (k : Nat) = i) (hn : i < nL) (hl' : (i, Value.int x) :: ls.filter (fun q => !(q.1 == i) && !(q.1 + 1 == i && q.2.category == 2)) = ls') (K : Rh G p l e s m args below meth c nL X (pc + 1) ls' st M) : Rh G p l e s m args below meth c nL X pc ls (.int x :: st) M :=
  fun r hX H locs la hP hS hl => lv_istore_n F.x F.b hd hi hl hn hl' (fun la hl => K r hX H locs la hP hS hl)
theorem h_iadd (F : Fy G p l s m args meth c cc own nL ret) {x y : Int32} (hd : decode cc pc = .ok (.iadd, 1)) (K : Rh G p l e s m args below meth c nL X (pc + 1) ls (.int (x + y) :: st) M) : Rh G p l e s m args below meth c nL X pc ls (.int y :: .int x :: st) M :=
  fun r hX H locs la hP hS hl => lv_iadd F.x F.b hd (K r hX H locs la hP hS hl)
theorem h_ishr (F : Fy G p l s m args meth c cc own nL ret) {x y : Int32} (hd : decode cc pc = .ok (.ishr, 1)) (K : Rh G p l e s m args below meth c nL X (pc + 1) ls (.int (x >>> (y &&& 31)) :: st) M) : Rh G p l e s m args below meth c nL X pc ls (.int y :: .int x :: st) M :=
  fun r hX H locs la hP hS hl => lv_ishr F.x F.b hd (K r hX H locs la hP hS hl)
theorem h_iand (F : Fy G p l s m args meth c cc own nL ret) {x y : Int32} (hd : decode cc pc = .ok (.iand, 1)) (K : Rh G p l e s m args below meth c nL X (pc + 1) ls (.int (x &&& y) :: st) M) : Rh G p l e s m args below meth c nL X pc ls (.int y :: .int x :: st) M :=
  fun r hX H locs la hP hS hl => lv_iand F.x F.b hd (K r hX H locs la hP hS hl)
theorem h_if_ne (F : Fy G p l s m args meth c cc own nL ret) {x : Int32} {off : Int} {tgt : Nat} {Y : Option (Int32 × Mem)} (hd : decode cc pc = .ok (.ifCond .ne off, 3)) (ht : (pc : Int) + off = (tgt : Int)) (K1 : x = 0 → Rh G p l e s m args below meth c nL X (pc + 3) ls st M) (K2 : ¬ x = 0 → Rh G p l e s m args below meth c nL Y tgt ls st M) : Rh G p l e s m args below meth c nL (if x = 0 then X else Y) pc ls (.int x :: st) M := by
  intro r hX H locs la hP hS hl
  refine lv_if_ne F.x F.b hd ht (fun h => ?_) (fun h => ?_)
  · rw [if_neg h] at hX; exact K2 h r hX H locs la hP hS hl
  · rw [if_pos h] at hX; exact K1 h r hX H locs la hP hS hl
theorem h_if_eq (F : Fy G p l s m args meth c cc own nL ret) {x : Int32} {off : Int} {tgt : Nat} {Y : Option (Int32 × Mem)} (hd : decode cc pc = .ok (.ifCond .eq off, 3)) (ht : (pc : Int) + off = (tgt : Int)) (K1 : x = 0 → Rh G p l e s m args below meth c nL X tgt ls st M) (K2 : ¬ x = 0 → Rh G p l e s m args below meth c nL Y (pc + 3) ls st M) : Rh G p l e s m args below meth c nL (if x = 0 then X else Y) pc ls (.int x :: st) M := by
  intro r hX H locs la hP hS hl
  refine lv_if_eq F.x F.b hd ht (fun h => ?_) (fun h => ?_)
  · rw [if_pos h] at hX; exact K1 h r hX H locs la hP hS hl
  · rw [if_neg h] at hX; exact K2 h r hX H locs la hP hS hl
theorem h_icmp_ge (F : Fy G p l s m args meth c cc own nL ret) {x y : Int32} {off : Int} {tgt : Nat} {Y : Option (Int32 × Mem)} (hd : decode cc pc = .ok (.if_icmp .ge off, 3)) (ht : (pc : Int) + off = (tgt : Int)) (K1 : y ≤ x → Rh G p l e s m args below meth c nL X tgt ls st M) (K2 : ¬ y ≤ x → Rh G p l e s m args below meth c nL Y (pc + 3) ls st M) : Rh G p l e s m args below meth c nL (if y ≤ x then X else Y) pc ls (.int y :: .int x :: st) M := by
  intro r hX H locs la hP hS hl
  refine lv_icmp_ge F.x F.b hd ht (fun h => ?_) (fun h => ?_)
  · rw [if_pos h] at hX; exact K1 h r hX H locs la hP hS hl
  · rw [if_neg h] at hX; exact K2 h r hX H locs la hP hS hl
theorem h_icmp_lt (F : Fy G p l s m args meth c cc own nL ret) {x y : Int32} {off : Int} {tgt : Nat} {Y : Option (Int32 × Mem)} (hd : decode cc pc = .ok (.if_icmp .lt off, 3)) (ht : (pc : Int) + off = (tgt : Int)) (K1 : x < y → Rh G p l e s m args below meth c nL X tgt ls st M) (K2 : ¬ x < y → Rh G p l e s m args below meth c nL Y (pc + 3) ls st M) : Rh G p l e s m args below meth c nL (if x < y then X else Y) pc ls (.int y :: .int x :: st) M := by
  intro r hX H locs la hP hS hl
  refine lv_icmp_lt F.x F.b hd ht (fun h => ?_) (fun h => ?_)
  · rw [if_pos h] at hX; exact K1 h r hX H locs la hP hS hl
  · rw [if_neg h] at hX; exact K2 h r hX H locs la hP hS hl
theorem h_goto (F : Fy G p l s m args meth c cc own nL ret) {off : Int} {tgt : Nat} (hd : decode cc pc = .ok (.goto off, 3)) (ht : (pc : Int) + off = (tgt : Int)) (K : Rh G p l e s m args below meth c nL X tgt ls st M) : Rh G p l e s m args below meth c nL X pc ls st M :=
  fun r hX H locs la hP hS hl => lv_goto F.x F.b hd ht (K r hX H locs la hP hS hl)
theorem h_tabIn (F : Fy G p l s m args meth c cc own nL ret) {dflt lo hi : Int} {offs : Array Int} {len : Nat} {x v : Int32} {off : Int} {tgt : Nat} (hd : decode cc pc = .ok (.tableswitch dflt lo hi offs, len)) (hx : x = v) (h1 : ¬ v.toInt < lo) (h2 : ¬ hi < v.toInt) (ho : offs[(v.toInt - lo).toNat]? = some off) (ht : (pc : Int) + off = (tgt : Int)) (K : Rh G p l e s m args below meth c nL X tgt ls st M) : Rh G p l e s m args below meth c nL X pc ls (.int x :: st) M := by
  subst hx
  exact fun r hX H locs la hP hS hl => lv_tableIn F.x F.b hd h1 h2 ho ht (K r hX H locs la hP hS hl)
theorem h_tabOut (F : Fy G p l s m args meth c cc own nL ret) {dflt lo hi : Int} {offs : Array Int} {len : Nat} {x : Int32} {tgt : Nat} (hd : decode cc pc = .ok (.tableswitch dflt lo hi offs, len)) (h : x.toInt < lo ∨ hi < x.toInt) (ht : (pc : Int) + dflt = (tgt : Int)) (K : Rh G p l e s m args below meth c nL X tgt ls st M) : Rh G p l e s m args below meth c nL X pc ls (.int x :: st) M :=
  fun r hX H locs la hP hS hl => lv_tableOut F.x F.b hd h ht (K r hX H locs la hP hS hl)
theorem h_iret (F : Fy G p l s m args meth c cc own nL ret) {v : Int32} {r0 : Int32 × Mem} (hem : r0 = (v, M)) (hd : decode cc pc = .ok (.ireturn, 1)) (hr : ret = some .int) : Rh G p l e s m args below meth c nL (some r0) pc ls [.int v] M := by
  intro r hX
  cases hX
  subst hem
  exact w_wide (u2 := 1) (w2 := 6) (by decide) (by decide) (w_iret F hd hr)
theorem h_tV {val : Int32 → Option Value} {Y : Option ((Int32 ⊕ String) × Mem)} {Kf : Int32 → Mem → Option (Int32 × Mem)} (K' : Int32 → List Value) (F : Fy G p l s m args meth c cc own nL ret) (hC : ∀ r, Y = some r → Ctr l G y (.code y bytes maxL ret' :: wsA) d' (.ref (gA G k) :: As) M (emT val r)) (hd : decode cc pc = .ok (.invokevirtual ix, 3)) (hl : Cond.methodLink own ix y ∈ wsA) (hy : yV y bytes maxL ret' n) (hk : kd k = cK) (hcK : cK < 8) (hc : vwCl[obc cK]? = some (y.cls, T, N)) (hn : As.length = n) (hdd : d' + 1 ≤ 26 ∧ 64 * (d' + 1) ≤ 64 * 26) (hst : st = As.reverse ++ .ref (gA G k) :: rest) (hW : (rest.map fun v => v.category).sum ≤ 8) (hK' : ∀ v, (val v).toList ++ rest = K' v)
    (K : ∀ v M', Rh G p l e s m args below meth c nL (Kf v M') (pc + 3) ls (K' v) M') : Rh G p l e s m args below meth c nL (bq Y Kf) pc ls st M := by
  intro r hX
  match Y, hC, hX with
  | none, _, hX => cases hX
  | some (.inr E, M'), _, hX => cases hX
  | some (.inl v, M'), hC, hX =>
    refine w_cV F (hC _ rfl) hd hl hy hk hcK hc hn hdd ⟨by decide, by decide⟩ hst hW ?_
    rw [hK']
    exact K v M' r hX
theorem h_cV {val : Int32 → Option Value} {em' : Int32 × Mem → OC} {Y : Option (Int32 × Mem)} {Kf : Int32 → Mem → Option (Int32 × Mem)} (K' : Int32 → List Value) (F : Fy G p l s m args meth c cc own nL ret) (hC : ∀ r, Y = some r → Ctr l G y (.code y bytes maxL ret' :: wsA) d' (.ref (gA G k) :: As) M (em' r)) (hem : ∀ v M, em' (v, M) = (.inl (val v), M)) (hd : decode cc pc = .ok (.invokevirtual ix, 3)) (hl : Cond.methodLink own ix y ∈ wsA) (hy : yV y bytes maxL ret' n) (hk : kd k = cK) (hcK : cK < 8) (hc : vwCl[obc cK]? = some (y.cls, T, N)) (hn : As.length = n) (hdd : d' + 1 ≤ 26 ∧ 64 * (d' + 1) ≤ 64 * 26) (hst : st = As.reverse ++ .ref (gA G k) :: rest) (hW : (rest.map fun v => v.category).sum ≤ 8) (hK' : ∀ v, (val v).toList ++ rest = K' v)
    (K : ∀ v M', Rh G p l e s m args below meth c nL (Kf v M') (pc + 3) ls (K' v) M') : Rh G p l e s m args below meth c nL (bn Y Kf) pc ls st M := by
  intro r hX
  obtain ⟨v, M', hY, hX⟩ := bn_some hX
  refine w_cV F (by have := hC _ hY; rw [hem] at this; exact this) hd hl hy hk hcK hc hn hdd ⟨by decide, by decide⟩ hst hW ?_
  rw [hK']
  exact K v M' r hX
theorem h_cS {val : Int32 → Option Value} {em' : Int32 × Mem → OC} {Y : Option (Int32 × Mem)} {Kf : Int32 → Mem → Option (Int32 × Mem)} (K' : Int32 → List Value) (F : Fy G p l s m args meth c cc own nL ret) (hC : ∀ r, Y = some r → Ctr l G y (.code y bytes maxL ret' :: wsA) d' As M (em' r)) (hem : ∀ v M, em' (v, M) = (.inl (val v), M)) (hd : decode cc pc = .ok (.invokestatic ix, 3)) (hl : Cond.methodLink own ix y ∈ wsA) (hy : yS y bytes maxL ret' n) (hn : As.length = n) (hdd : d' + 1 ≤ 26 ∧ 64 * (d' + 1) ≤ 64 * 26) (hst : st = As.reverse ++ rest) (hW : (rest.map fun v => v.category).sum ≤ 8) (hK' : ∀ v, (val v).toList ++ rest = K' v)
    (K : ∀ v M', Rh G p l e s m args below meth c nL (Kf v M') (pc + 3) ls (K' v) M') : Rh G p l e s m args below meth c nL (bn Y Kf) pc ls st M := by
  intro r hX
  obtain ⟨v, M', hY, hX⟩ := bn_some hX
  refine w_cS F (by have := hC _ hY; rw [hem] at this; exact this) hd hl hy hn hdd ⟨by decide, by decide⟩ hst hW ?_
  rw [hK']
  exact K v M' r hX
/-- a wrapper's call, and the return of its number -/
theorem h_cW {Y : Option (Int32 × Mem)} {hh : List (Nat × Nat × Nat × Nat)} (F : Fy G p l s m args meth c cc own nL (some .int)) (hC : ∀ r, Y = some r → Met l y (.codeWith y bytes maxL ret' hh :: wsA) rmW (PcG G As M) (QcR G (some (.int r.1)) r.2) 1 6 (A0 G)) (hd : decode cc pc = .ok (.invokestatic ix, 3)) (hl : Cond.methodLink own ix y ∈ wsA) (hs : Cond.static y ∈ wsA) (hi : Cond.initialized y.cls ∈ wsA) (hcw : Cond.codeWith y bytes maxL ret' hh ∈ wsA) (hdsc : y.cls ≠ "java/lang/invoke/MethodHandle" ∧ y.cls ≠ "java/lang/invoke/VarHandle" ∧ (parseMethodDescriptor y.desc).map (fun d => d.parameters.length) = some n) (hn : As.length = n) (hst : st = As.reverse) (hd2 : decode cc (pc + 3) = .ok (.ireturn, 1)) (hmx : maxL ≤ 45 := by decide) : Rh G p l e s m args below meth c nL Y pc ls st M := by
  intro r hX
  refine w_cSW (rest := []) F (hC r hX) hd hl hs hi hcw hdsc hn ⟨rfl, rfl⟩ ⟨by decide, ?_⟩ ⟨by decide, by decide⟩ (by rw [List.append_nil]; exact hst) (Nat.le_of_ble_eq_true rfl) ?_
  · show 8 + (maxL + 11) + 64 * 24 ≤ 64 * 26
    omega
  · exact w_iret F hd2 rfl
end RH

def f_L_acts_232 (z0 : Int32) (M : Mem) : Option (Int32 × Mem) := some (z0, M)

set_option maxRecDepth 100000 in
set_option maxHeartbeats 4000000 in
theorem l_L_acts_232 {G : GM} {p : Program} {l : Launch} {e : Env} {s : State} {m : MethodId} {args : Array Value} {below : List Frame} {meth : Method} {c : Code} (F : Fy G p l s m args meth c cL_acts RL 7 (some .int)) (z0 : Int32) (M : Mem) : Rh G p l e s m args below meth c 7 (f_L_acts_232  z0 M) 232 [] [.int z0] M := by
  unfold f_L_acts_232
  exact h_iret F rfl dL_acts_232 rfl

def f_L_acts_83 (y1 : Int32) (y2 : Int32) (y3 : Int32) (y4 : Int32) (y5 : Int32) (z0 : Int32) (z1 : Int32) (M : Mem) : Option (Int32 × Mem) := bn (f_L_low z0 z1 M) fun r83 M83 => bn (f_L_low y1 (16 : Int32) M83) fun r91 M91 => if r91 = 0 then (f_L_put y3 y5 r83 M91) else (if r91 = 1 then (f_L_put y3 y5 r83 M91) else (if r91 = 2 then (f_L_put y3 y5 r83 M91) else (if r91 = 3 then (f_L_put y3 y5 r83 M91) else (if r91 = 4 then (f_L_pull y3 y5 r83 M91) else (if r91 = 5 then (f_L_move y3 y4 y5 r83 M91) else (if r91 = 6 then (f_L_trade y3 y4 M91) else (if r91 = 7 then (f_L_turn y3 y5 M91) else (if r91 = 8 then (if y2 ≤ y3 then (f_L_acts_232  (-903 : Int32) M91) else (bq (f_X6_play y3 M91) fun r223 M223 => f_L_acts_232  r223 M223)) else (if r91 = 9 then (if y2 ≤ y3 then (f_L_acts_232  (-903 : Int32) M91) else (bq (f_X6_play y3 M91) fun r223 M223 => f_L_acts_232  r223 M223)) else (if r91 = 10 then (f_L_file y3 r83 M91) else (if r91 = 11 then (bn (f_L_low (y1 >>> ((12 : Int32) &&& 31)) (40 : Int32) M91) fun r251 M251 => f_L_lend y3 y4 r251 M251) else (if r91 = 12 then (bn (f_L_low (y1 >>> ((12 : Int32) &&& 31)) (40 : Int32) M91) fun r251 M251 => f_L_lend y3 y4 r251 M251) else (if r91 = 13 then (bn (f_L_low (y1 >>> ((12 : Int32) &&& 31)) (40 : Int32) M91) fun r268 M268 => f_L_repay y3 y4 r268 M268) else (if r91 = 14 then (bn (f_L_low (y1 >>> ((9 : Int32) &&& 31)) (4 : Int32) M91) fun r281 M281 => bn (f_L_low (y1 >>> ((12 : Int32) &&& 31)) (30 : Int32) M281) fun r290 M290 => f_L_set r281 r290 M290) else (bn (f_X6_settle M91) fun r298 M298 => some (r298, M298))))))))))))))))

set_option maxRecDepth 100000 in
set_option maxHeartbeats 4000000 in
theorem l_L_acts_83 {G : GM} {p : Program} {l : Launch} {e : Env} {s : State} {m : MethodId} {args : Array Value} {below : List Frame} {meth : Method} {c : Code} (F : Fy G p l s m args meth c cL_acts RL 7 (some .int)) (y1 : Int32) (y2 : Int32) (y3 : Int32) (y4 : Int32) (y5 : Int32) (z0 : Int32) (z1 : Int32) (M : Mem) : Rh G p l e s m args below meth c 7 (f_L_acts_83  y1 y2 y3 y4 y5 z0 z1 M) 83 [(0, .ref (gA G 0)), (1, .int y1), (2, .int y2), (3, .int y3), (4, .int y4), (5, .int y5)] [.int z1, .int z0] M := by
  unfold f_L_acts_83
  refine h_cS (val := vI) (As := [.int z0, .int z1]) (rest := []) (fun q9 => .int q9 :: []) F (c_L_low F.st F.gg z0 z1 M) (fun _ _ => rfl) dL_acts_83 ml_L_56 ys_L_low rfl ⟨by decide, by decide⟩ rfl (Nat.le_of_ble_eq_true rfl) (fun _ => rfl) (fun r83 M83 => ?_)
  refine h_istore (ls' := [(6, .int r83), (0, .ref (gA G 0)), (1, .int y1), (2, .int y2), (3, .int y3), (4, .int y4), (5, .int y5)]) F dL_acts_86 (by decide) rfl ?_
  refine h_iload_n F 2 dL_acts_88 rfl rfl ?_
  refine h_bipush F dL_acts_89 (v := 16) (by decide) ?_
  refine h_cS (val := vI) (As := [.int y1, .int (16 : Int32)]) (rest := []) (fun q9 => .int q9 :: []) F (c_L_low F.st F.gg y1 (16 : Int32) M83) (fun _ _ => rfl) dL_acts_91 ml_L_56 ys_L_low rfl ⟨by decide, by decide⟩ rfl (Nat.le_of_ble_eq_true rfl) (fun _ => rfl) (fun r91 M91 => ?_)
  refine h_ite (fun c1 => ?_) (fun c1 => ?_)
  · refine h_tabIn (tgt := 168) F dL_acts_94 c1 (by decide) (by decide) rfl (by decide) ?_
    refine h_aload_n F 1 dL_acts_168 rfl rfl ?_
    refine h_iload_n F 4 dL_acts_169 rfl rfl ?_
    refine h_iload F 6 dL_acts_170 rfl ?_
    refine h_iload F 0 dL_acts_172 rfl ?_
    exact h_cW (n := 4) (As := [.ref (gA G 0), .int y3, .int y5, .int r83]) F (fun r h => m_L_put F.st F.gg y3 y5 r83 h) dL_acts_174 ml_L_61 sc_L_put ini_L cw_L_put ⟨by decide, by decide, by decide +kernel⟩ rfl rfl dL_acts_177
  refine h_ite (fun c2 => ?_) (fun c2 => ?_)
  · refine h_tabIn (tgt := 168) F dL_acts_94 c2 (by decide) (by decide) rfl (by decide) ?_
    refine h_aload_n F 1 dL_acts_168 rfl rfl ?_
    refine h_iload_n F 4 dL_acts_169 rfl rfl ?_
    refine h_iload F 6 dL_acts_170 rfl ?_
    refine h_iload F 0 dL_acts_172 rfl ?_
    exact h_cW (n := 4) (As := [.ref (gA G 0), .int y3, .int y5, .int r83]) F (fun r h => m_L_put F.st F.gg y3 y5 r83 h) dL_acts_174 ml_L_61 sc_L_put ini_L cw_L_put ⟨by decide, by decide, by decide +kernel⟩ rfl rfl dL_acts_177
  refine h_ite (fun c3 => ?_) (fun c3 => ?_)
  · refine h_tabIn (tgt := 168) F dL_acts_94 c3 (by decide) (by decide) rfl (by decide) ?_
    refine h_aload_n F 1 dL_acts_168 rfl rfl ?_
    refine h_iload_n F 4 dL_acts_169 rfl rfl ?_
    refine h_iload F 6 dL_acts_170 rfl ?_
    refine h_iload F 0 dL_acts_172 rfl ?_
    exact h_cW (n := 4) (As := [.ref (gA G 0), .int y3, .int y5, .int r83]) F (fun r h => m_L_put F.st F.gg y3 y5 r83 h) dL_acts_174 ml_L_61 sc_L_put ini_L cw_L_put ⟨by decide, by decide, by decide +kernel⟩ rfl rfl dL_acts_177
  refine h_ite (fun c4 => ?_) (fun c4 => ?_)
  · refine h_tabIn (tgt := 168) F dL_acts_94 c4 (by decide) (by decide) rfl (by decide) ?_
    refine h_aload_n F 1 dL_acts_168 rfl rfl ?_
    refine h_iload_n F 4 dL_acts_169 rfl rfl ?_
    refine h_iload F 6 dL_acts_170 rfl ?_
    refine h_iload F 0 dL_acts_172 rfl ?_
    exact h_cW (n := 4) (As := [.ref (gA G 0), .int y3, .int y5, .int r83]) F (fun r h => m_L_put F.st F.gg y3 y5 r83 h) dL_acts_174 ml_L_61 sc_L_put ini_L cw_L_put ⟨by decide, by decide, by decide +kernel⟩ rfl rfl dL_acts_177
  refine h_ite (fun c5 => ?_) (fun c5 => ?_)
  · refine h_tabIn (tgt := 178) F dL_acts_94 c5 (by decide) (by decide) rfl (by decide) ?_
    refine h_aload_n F 1 dL_acts_178 rfl rfl ?_
    refine h_iload_n F 4 dL_acts_179 rfl rfl ?_
    refine h_iload F 6 dL_acts_180 rfl ?_
    refine h_iload F 0 dL_acts_182 rfl ?_
    exact h_cW (n := 4) (As := [.ref (gA G 0), .int y3, .int y5, .int r83]) F (fun r h => m_L_pull F.st F.gg y3 y5 r83 h) dL_acts_184 ml_L_64 sc_L_pull ini_L cw_L_pull ⟨by decide, by decide, by decide +kernel⟩ rfl rfl dL_acts_187
  refine h_ite (fun c6 => ?_) (fun c6 => ?_)
  · refine h_tabIn (tgt := 188) F dL_acts_94 c6 (by decide) (by decide) rfl (by decide) ?_
    refine h_aload_n F 1 dL_acts_188 rfl rfl ?_
    refine h_iload_n F 4 dL_acts_189 rfl rfl ?_
    refine h_iload F 5 dL_acts_190 rfl ?_
    refine h_iload F 6 dL_acts_192 rfl ?_
    refine h_iload F 0 dL_acts_194 rfl ?_
    exact h_cW (n := 5) (As := [.ref (gA G 0), .int y3, .int y4, .int y5, .int r83]) F (fun r h => m_L_move F.st F.gg y3 y4 y5 r83 h) dL_acts_196 ml_L_66 sc_L_move ini_L cw_L_move ⟨by decide, by decide, by decide +kernel⟩ rfl rfl dL_acts_199
  refine h_ite (fun c7 => ?_) (fun c7 => ?_)
  · refine h_tabIn (tgt := 200) F dL_acts_94 c7 (by decide) (by decide) rfl (by decide) ?_
    refine h_aload_n F 1 dL_acts_200 rfl rfl ?_
    refine h_iload_n F 4 dL_acts_201 rfl rfl ?_
    refine h_iload F 5 dL_acts_202 rfl ?_
    exact h_cW (n := 3) (As := [.ref (gA G 0), .int y3, .int y4]) F (fun r h => m_L_trade F.st F.gg y3 y4 h) dL_acts_204 ml_L_69 sc_L_trade ini_L cw_L_trade ⟨by decide, by decide, by decide +kernel⟩ rfl rfl dL_acts_207
  refine h_ite (fun c8 => ?_) (fun c8 => ?_)
  · refine h_tabIn (tgt := 208) F dL_acts_94 c8 (by decide) (by decide) rfl (by decide) ?_
    refine h_aload_n F 1 dL_acts_208 rfl rfl ?_
    refine h_iload_n F 4 dL_acts_209 rfl rfl ?_
    refine h_iload F 6 dL_acts_210 rfl ?_
    exact h_cW (n := 3) (As := [.ref (gA G 0), .int y3, .int y5]) F (fun r h => m_L_turn F.st F.gg y3 y5 h) dL_acts_212 ml_L_72 sc_L_turn ini_L cw_L_turn ⟨by decide, by decide, by decide +kernel⟩ rfl rfl dL_acts_215
  refine h_ite (fun c9 => ?_) (fun c9 => ?_)
  · refine h_tabIn (tgt := 216) F dL_acts_94 c9 (by decide) (by decide) rfl (by decide) ?_
    refine h_iload_n F 4 dL_acts_216 rfl rfl ?_
    refine h_iload_n F 3 dL_acts_217 rfl rfl ?_
    refine h_icmp_ge (tgt := 229) F dL_acts_218 (by decide) (fun c10 => ?_) (fun c10 => ?_)
    · refine h_sipush F dL_acts_229 (v := -903) (by decide) ?_
      refine h_sub [] rfl ?_
      exact l_L_acts_232 F   (-903 : Int32) M91
    · refine h_aload_n F 1 dL_acts_221 rfl rfl ?_
      refine h_iload_n F 4 dL_acts_222 rfl rfl ?_
      refine h_tV (val := vI) (As := [.int y3]) (rest := []) (fun q9 => .int q9 :: []) F (c_X6_play F.st F.gg y3 M91) dL_acts_223 ml_L_74 yv_X6_play (rfl : kd 0 = 0) (by decide) rfl rfl ⟨by decide, by decide⟩ rfl (Nat.le_of_ble_eq_true rfl) (fun _ => rfl) (fun r223 M223 => ?_)
      refine h_goto (tgt := 232) F dL_acts_226 (by decide) ?_
      refine h_sub [] rfl ?_
      exact l_L_acts_232 F   r223 M223
  refine h_ite (fun c11 => ?_) (fun c11 => ?_)
  · refine h_tabIn (tgt := 216) F dL_acts_94 c11 (by decide) (by decide) rfl (by decide) ?_
    refine h_iload_n F 4 dL_acts_216 rfl rfl ?_
    refine h_iload_n F 3 dL_acts_217 rfl rfl ?_
    refine h_icmp_ge (tgt := 229) F dL_acts_218 (by decide) (fun c12 => ?_) (fun c12 => ?_)
    · refine h_sipush F dL_acts_229 (v := -903) (by decide) ?_
      refine h_sub [] rfl ?_
      exact l_L_acts_232 F   (-903 : Int32) M91
    · refine h_aload_n F 1 dL_acts_221 rfl rfl ?_
      refine h_iload_n F 4 dL_acts_222 rfl rfl ?_
      refine h_tV (val := vI) (As := [.int y3]) (rest := []) (fun q9 => .int q9 :: []) F (c_X6_play F.st F.gg y3 M91) dL_acts_223 ml_L_74 yv_X6_play (rfl : kd 0 = 0) (by decide) rfl rfl ⟨by decide, by decide⟩ rfl (Nat.le_of_ble_eq_true rfl) (fun _ => rfl) (fun r223 M223 => ?_)
      refine h_goto (tgt := 232) F dL_acts_226 (by decide) ?_
      refine h_sub [] rfl ?_
      exact l_L_acts_232 F   r223 M223
  refine h_ite (fun c13 => ?_) (fun c13 => ?_)
  · refine h_tabIn (tgt := 233) F dL_acts_94 c13 (by decide) (by decide) rfl (by decide) ?_
    refine h_aload_n F 1 dL_acts_233 rfl rfl ?_
    refine h_iload_n F 4 dL_acts_234 rfl rfl ?_
    refine h_iload F 0 dL_acts_235 rfl ?_
    exact h_cW (n := 3) (As := [.ref (gA G 0), .int y3, .int r83]) F (fun r h => m_L_file F.st F.gg y3 r83 h) dL_acts_237 ml_L_77 sc_L_file ini_L cw_L_file ⟨by decide, by decide, by decide +kernel⟩ rfl rfl dL_acts_240
  refine h_ite (fun c14 => ?_) (fun c14 => ?_)
  · refine h_tabIn (tgt := 241) F dL_acts_94 c14 (by decide) (by decide) rfl (by decide) ?_
    refine h_aload_n F 1 dL_acts_241 rfl rfl ?_
    refine h_iload_n F 4 dL_acts_242 rfl rfl ?_
    refine h_iload F 5 dL_acts_243 rfl ?_
    refine h_iload_n F 2 dL_acts_245 rfl rfl ?_
    refine h_bipush F dL_acts_246 (v := 12) (by decide) ?_
    refine h_ishr F dL_acts_248 ?_
    refine h_bipush F dL_acts_249 (v := 40) (by decide) ?_
    refine h_cS (val := vI) (As := [.int (y1 >>> ((12 : Int32) &&& 31)), .int (40 : Int32)]) (rest := [.int y4, .int y3, .ref (gA G 0)]) (fun q9 => .int q9 :: [.int y4, .int y3, .ref (gA G 0)]) F (c_L_low F.st F.gg (y1 >>> ((12 : Int32) &&& 31)) (40 : Int32) M91) (fun _ _ => rfl) dL_acts_251 ml_L_56 ys_L_low rfl ⟨by decide, by decide⟩ rfl (Nat.le_of_ble_eq_true rfl) (fun _ => rfl) (fun r251 M251 => ?_)
    exact h_cW (n := 4) (As := [.ref (gA G 0), .int y3, .int y4, .int r251]) F (fun r h => m_L_lend F.st F.gg y3 y4 r251 h) dL_acts_254 ml_L_79 sc_L_lend ini_L cw_L_lend ⟨by decide, by decide, by decide +kernel⟩ rfl rfl dL_acts_257
  refine h_ite (fun c15 => ?_) (fun c15 => ?_)
  · refine h_tabIn (tgt := 241) F dL_acts_94 c15 (by decide) (by decide) rfl (by decide) ?_
    refine h_aload_n F 1 dL_acts_241 rfl rfl ?_
    refine h_iload_n F 4 dL_acts_242 rfl rfl ?_
    refine h_iload F 5 dL_acts_243 rfl ?_
    refine h_iload_n F 2 dL_acts_245 rfl rfl ?_
    refine h_bipush F dL_acts_246 (v := 12) (by decide) ?_
    refine h_ishr F dL_acts_248 ?_
    refine h_bipush F dL_acts_249 (v := 40) (by decide) ?_
    refine h_cS (val := vI) (As := [.int (y1 >>> ((12 : Int32) &&& 31)), .int (40 : Int32)]) (rest := [.int y4, .int y3, .ref (gA G 0)]) (fun q9 => .int q9 :: [.int y4, .int y3, .ref (gA G 0)]) F (c_L_low F.st F.gg (y1 >>> ((12 : Int32) &&& 31)) (40 : Int32) M91) (fun _ _ => rfl) dL_acts_251 ml_L_56 ys_L_low rfl ⟨by decide, by decide⟩ rfl (Nat.le_of_ble_eq_true rfl) (fun _ => rfl) (fun r251 M251 => ?_)
    exact h_cW (n := 4) (As := [.ref (gA G 0), .int y3, .int y4, .int r251]) F (fun r h => m_L_lend F.st F.gg y3 y4 r251 h) dL_acts_254 ml_L_79 sc_L_lend ini_L cw_L_lend ⟨by decide, by decide, by decide +kernel⟩ rfl rfl dL_acts_257
  refine h_ite (fun c16 => ?_) (fun c16 => ?_)
  · refine h_tabIn (tgt := 258) F dL_acts_94 c16 (by decide) (by decide) rfl (by decide) ?_
    refine h_aload_n F 1 dL_acts_258 rfl rfl ?_
    refine h_iload_n F 4 dL_acts_259 rfl rfl ?_
    refine h_iload F 5 dL_acts_260 rfl ?_
    refine h_iload_n F 2 dL_acts_262 rfl rfl ?_
    refine h_bipush F dL_acts_263 (v := 12) (by decide) ?_
    refine h_ishr F dL_acts_265 ?_
    refine h_bipush F dL_acts_266 (v := 40) (by decide) ?_
    refine h_cS (val := vI) (As := [.int (y1 >>> ((12 : Int32) &&& 31)), .int (40 : Int32)]) (rest := [.int y4, .int y3, .ref (gA G 0)]) (fun q9 => .int q9 :: [.int y4, .int y3, .ref (gA G 0)]) F (c_L_low F.st F.gg (y1 >>> ((12 : Int32) &&& 31)) (40 : Int32) M91) (fun _ _ => rfl) dL_acts_268 ml_L_56 ys_L_low rfl ⟨by decide, by decide⟩ rfl (Nat.le_of_ble_eq_true rfl) (fun _ => rfl) (fun r268 M268 => ?_)
    exact h_cW (n := 4) (As := [.ref (gA G 0), .int y3, .int y4, .int r268]) F (fun r h => m_L_repay F.st F.gg y3 y4 r268 h) dL_acts_271 ml_L_81 sc_L_repay ini_L cw_L_repay ⟨by decide, by decide, by decide +kernel⟩ rfl rfl dL_acts_274
  refine h_ite (fun c17 => ?_) (fun c17 => ?_)
  · refine h_tabIn (tgt := 275) F dL_acts_94 c17 (by decide) (by decide) rfl (by decide) ?_
    refine h_aload_n F 1 dL_acts_275 rfl rfl ?_
    refine h_iload_n F 2 dL_acts_276 rfl rfl ?_
    refine h_bipush F dL_acts_277 (v := 9) (by decide) ?_
    refine h_ishr F dL_acts_279 ?_
    refine h_iconst F dL_acts_280 (v := 4) (by decide) ?_
    refine h_cS (val := vI) (As := [.int (y1 >>> ((9 : Int32) &&& 31)), .int (4 : Int32)]) (rest := [.ref (gA G 0)]) (fun q9 => .int q9 :: [.ref (gA G 0)]) F (c_L_low F.st F.gg (y1 >>> ((9 : Int32) &&& 31)) (4 : Int32) M91) (fun _ _ => rfl) dL_acts_281 ml_L_56 ys_L_low rfl ⟨by decide, by decide⟩ rfl (Nat.le_of_ble_eq_true rfl) (fun _ => rfl) (fun r281 M281 => ?_)
    refine h_iload_n F 2 dL_acts_284 rfl rfl ?_
    refine h_bipush F dL_acts_285 (v := 12) (by decide) ?_
    refine h_ishr F dL_acts_287 ?_
    refine h_bipush F dL_acts_288 (v := 30) (by decide) ?_
    refine h_cS (val := vI) (As := [.int (y1 >>> ((12 : Int32) &&& 31)), .int (30 : Int32)]) (rest := [.int r281, .ref (gA G 0)]) (fun q9 => .int q9 :: [.int r281, .ref (gA G 0)]) F (c_L_low F.st F.gg (y1 >>> ((12 : Int32) &&& 31)) (30 : Int32) M281) (fun _ _ => rfl) dL_acts_290 ml_L_56 ys_L_low rfl ⟨by decide, by decide⟩ rfl (Nat.le_of_ble_eq_true rfl) (fun _ => rfl) (fun r290 M290 => ?_)
    exact h_cW (n := 3) (As := [.ref (gA G 0), .int r281, .int r290]) F (fun r h => m_L_set F.st F.gg r281 r290 h) dL_acts_293 ml_L_83 sc_L_set ini_L cw_L_set ⟨by decide, by decide, by decide +kernel⟩ rfl rfl dL_acts_296
  refine h_tabOut (tgt := 297) F dL_acts_94 (by have n0 := lv_neT (a := 0) c1 (by decide); have n1 := lv_neT (a := 1) c2 (by decide); have n2 := lv_neT (a := 2) c3 (by decide); have n3 := lv_neT (a := 3) c4 (by decide); have n4 := lv_neT (a := 4) c5 (by decide); have n5 := lv_neT (a := 5) c6 (by decide); have n6 := lv_neT (a := 6) c7 (by decide); have n7 := lv_neT (a := 7) c8 (by decide); have n8 := lv_neT (a := 8) c9 (by decide); have n9 := lv_neT (a := 9) c11 (by decide); have n10 := lv_neT (a := 10) c13 (by decide); have n11 := lv_neT (a := 11) c14 (by decide); have n12 := lv_neT (a := 12) c15 (by decide); have n13 := lv_neT (a := 13) c16 (by decide); have n14 := lv_neT (a := 14) c17 (by decide); omega) (by decide) ?_
  refine h_aload_n F 1 dL_acts_297 rfl rfl ?_
  refine h_cV (val := vI) (As := []) (rest := []) (fun q9 => .int q9 :: []) F (c_X6_settle F.st F.gg  M91) (fun _ _ => rfl) dL_acts_298 ml_L_85 yv_X6_settle (rfl : kd 0 = 0) (by decide) rfl rfl ⟨by decide, by decide⟩ rfl (Nat.le_of_ble_eq_true rfl) (fun _ => rfl) (fun r298 M298 => ?_)
  exact h_iret F rfl dL_acts_301 rfl

def f_L_acts_59 (y1 : Int32) (y2 : Int32) (y3 : Int32) (y4 : Int32) (z0 : Int32) (z1 : Int32) (M : Mem) : Option (Int32 × Mem) := bn (f_L_low z0 z1 M) fun r59 M59 => if ((y1 >>> ((25 : Int32) &&& 31)) &&& (3 : Int32)) = 0 then (f_L_acts_83  y1 y2 y3 y4 r59 (y1 >>> ((15 : Int32) &&& 31)) (13 : Int32) M59) else (f_L_acts_83  y1 y2 y3 y4 r59 (y1 >>> ((15 : Int32) &&& 31)) (3 : Int32) M59)

set_option maxRecDepth 100000 in
set_option maxHeartbeats 4000000 in
theorem l_L_acts_59 {G : GM} {p : Program} {l : Launch} {e : Env} {s : State} {m : MethodId} {args : Array Value} {below : List Frame} {meth : Method} {c : Code} (F : Fy G p l s m args meth c cL_acts RL 7 (some .int)) (y1 : Int32) (y2 : Int32) (y3 : Int32) (y4 : Int32) (z0 : Int32) (z1 : Int32) (M : Mem) : Rh G p l e s m args below meth c 7 (f_L_acts_59  y1 y2 y3 y4 z0 z1 M) 59 [(0, .ref (gA G 0)), (1, .int y1), (2, .int y2), (3, .int y3), (4, .int y4)] [.int z1, .int z0] M := by
  unfold f_L_acts_59
  refine h_cS (val := vI) (As := [.int z0, .int z1]) (rest := []) (fun q9 => .int q9 :: []) F (c_L_low F.st F.gg z0 z1 M) (fun _ _ => rfl) dL_acts_59 ml_L_56 ys_L_low rfl ⟨by decide, by decide⟩ rfl (Nat.le_of_ble_eq_true rfl) (fun _ => rfl) (fun r59 M59 => ?_)
  refine h_istore (ls' := [(5, .int r59), (0, .ref (gA G 0)), (1, .int y1), (2, .int y2), (3, .int y3), (4, .int y4)]) F dL_acts_62 (by decide) rfl ?_
  refine h_iload_n F 2 dL_acts_64 rfl rfl ?_
  refine h_bipush F dL_acts_65 (v := 15) (by decide) ?_
  refine h_ishr F dL_acts_67 ?_
  refine h_iload_n F 2 dL_acts_68 rfl rfl ?_
  refine h_bipush F dL_acts_69 (v := 25) (by decide) ?_
  refine h_ishr F dL_acts_71 ?_
  refine h_iconst F dL_acts_72 (v := 3) (by decide) ?_
  refine h_iand F dL_acts_73 ?_
  refine h_if_ne (tgt := 82) F dL_acts_74 (by decide) (fun c1 => ?_) (fun c1 => ?_)
  · refine h_bipush F dL_acts_77 (v := 13) (by decide) ?_
    refine h_goto (tgt := 83) F dL_acts_79 (by decide) ?_
    refine h_sub [1, 2, 3, 4, 5, 0] rfl ?_
    exact l_L_acts_83 F   y1 y2 y3 y4 r59 (y1 >>> ((15 : Int32) &&& 31)) (13 : Int32) M59
  · refine h_iconst F dL_acts_82 (v := 3) (by decide) ?_
    refine h_sub [1, 2, 3, 4, 5, 0] rfl ?_
    exact l_L_acts_83 F   y1 y2 y3 y4 r59 (y1 >>> ((15 : Int32) &&& 31)) (3 : Int32) M59

def f_L_acts_26 (y1 : Int32) (y2 : Int32) (z0 : Int32) (z1 : Int32) (M : Mem) : Option (Int32 × Mem) := bn (f_L_low z0 z1 M) fun r26 M26 => bn (f_L_low (y1 >>> ((7 : Int32) &&& 31)) y2 M26) fun r35 M35 => if ((y1 >>> ((24 : Int32) &&& 31)) &&& (3 : Int32)) = 0 then (f_L_acts_59  y1 y2 r26 r35 (y1 >>> ((10 : Int32) &&& 31)) (25 : Int32) M35) else (f_L_acts_59  y1 y2 r26 r35 (y1 >>> ((10 : Int32) &&& 31)) (5 : Int32) M35)

set_option maxRecDepth 100000 in
set_option maxHeartbeats 4000000 in
theorem l_L_acts_26 {G : GM} {p : Program} {l : Launch} {e : Env} {s : State} {m : MethodId} {args : Array Value} {below : List Frame} {meth : Method} {c : Code} (F : Fy G p l s m args meth c cL_acts RL 7 (some .int)) (y1 : Int32) (y2 : Int32) (z0 : Int32) (z1 : Int32) (M : Mem) : Rh G p l e s m args below meth c 7 (f_L_acts_26  y1 y2 z0 z1 M) 26 [(0, .ref (gA G 0)), (1, .int y1), (2, .int y2)] [.int z1, .int z0] M := by
  unfold f_L_acts_26
  refine h_cS (val := vI) (As := [.int z0, .int z1]) (rest := []) (fun q9 => .int q9 :: []) F (c_L_low F.st F.gg z0 z1 M) (fun _ _ => rfl) dL_acts_26 ml_L_56 ys_L_low rfl ⟨by decide, by decide⟩ rfl (Nat.le_of_ble_eq_true rfl) (fun _ => rfl) (fun r26 M26 => ?_)
  refine h_istore_n (ls' := [(3, .int r26), (0, .ref (gA G 0)), (1, .int y1), (2, .int y2)]) F dL_acts_29 rfl (by decide) rfl ?_
  refine h_iload_n F 2 dL_acts_30 rfl rfl ?_
  refine h_bipush F dL_acts_31 (v := 7) (by decide) ?_
  refine h_ishr F dL_acts_33 ?_
  refine h_iload_n F 3 dL_acts_34 rfl rfl ?_
  refine h_cS (val := vI) (As := [.int (y1 >>> ((7 : Int32) &&& 31)), .int y2]) (rest := []) (fun q9 => .int q9 :: []) F (c_L_low F.st F.gg (y1 >>> ((7 : Int32) &&& 31)) y2 M26) (fun _ _ => rfl) dL_acts_35 ml_L_56 ys_L_low rfl ⟨by decide, by decide⟩ rfl (Nat.le_of_ble_eq_true rfl) (fun _ => rfl) (fun r35 M35 => ?_)
  refine h_istore (ls' := [(4, .int r35), (3, .int r26), (0, .ref (gA G 0)), (1, .int y1), (2, .int y2)]) F dL_acts_38 (by decide) rfl ?_
  refine h_iload_n F 3 dL_acts_40 rfl rfl ?_
  refine h_bipush F dL_acts_41 (v := 10) (by decide) ?_
  refine h_ishr F dL_acts_43 ?_
  refine h_iload_n F 3 dL_acts_44 rfl rfl ?_
  refine h_bipush F dL_acts_45 (v := 24) (by decide) ?_
  refine h_ishr F dL_acts_47 ?_
  refine h_iconst F dL_acts_48 (v := 3) (by decide) ?_
  refine h_iand F dL_acts_49 ?_
  refine h_if_ne (tgt := 58) F dL_acts_50 (by decide) (fun c1 => ?_) (fun c1 => ?_)
  · refine h_bipush F dL_acts_53 (v := 25) (by decide) ?_
    refine h_goto (tgt := 59) F dL_acts_55 (by decide) ?_
    refine h_sub [2, 3, 4, 1, 0] rfl ?_
    exact l_L_acts_59 F   y1 y2 r26 r35 (y1 >>> ((10 : Int32) &&& 31)) (25 : Int32) M35
  · refine h_iconst F dL_acts_58 (v := 5) (by decide) ?_
    refine h_sub [2, 3, 4, 1, 0] rfl ?_
    exact l_L_acts_59 F   y1 y2 r26 r35 (y1 >>> ((10 : Int32) &&& 31)) (5 : Int32) M35

def f_L_acts (a1 : Int32) (M : Mem) : Option (Int32 × Mem) := bq (f_X6_count (0 : Int32) M) fun r2 M2 => if ((a1 >>> ((26 : Int32) &&& 31)) &&& (7 : Int32)) = 0 then (f_L_acts_26  a1 r2 (a1 >>> ((4 : Int32) &&& 31)) (r2 + (1 : Int32)) M2) else (f_L_acts_26  a1 r2 (a1 >>> ((4 : Int32) &&& 31)) r2 M2)

set_option maxRecDepth 100000 in
set_option maxHeartbeats 4000000 in
theorem b_L_acts {G : GM} {p : Program} {l : Launch} {e : Env} {s : State} {m : MethodId} {args : Array Value} {below : List Frame} {meth : Method} {c : Code} (F : Fy G p l s m args meth c cL_acts RL 7 (some .int)) (a1 : Int32) (M : Mem) : Rh G p l e s m args below meth c 7 (f_L_acts a1 M) 0 [(0, .ref (gA G 0)), (1, .int a1)] [] M := by
  unfold f_L_acts
  refine h_aload_n F 0 dL_acts_0 rfl rfl ?_
  refine h_iconst F dL_acts_1 (v := 0) (by decide) ?_
  refine h_tV (val := vI) (As := [.int (0 : Int32)]) (rest := []) (fun q9 => .int q9 :: []) F (c_X6_count F.st F.gg (0 : Int32) M) dL_acts_2 ml_L_53 yv_X6_count (rfl : kd 0 = 0) (by decide) rfl rfl ⟨by decide, by decide⟩ rfl (Nat.le_of_ble_eq_true rfl) (fun _ => rfl) (fun r2 M2 => ?_)
  refine h_istore_n (ls' := [(2, .int r2), (0, .ref (gA G 0)), (1, .int a1)]) F dL_acts_5 rfl (by decide) rfl ?_
  refine h_iload_n F 2 dL_acts_6 rfl rfl ?_
  refine h_iconst F dL_acts_7 (v := 4) (by decide) ?_
  refine h_ishr F dL_acts_8 ?_
  refine h_iload_n F 2 dL_acts_9 rfl rfl ?_
  refine h_bipush F dL_acts_10 (v := 26) (by decide) ?_
  refine h_ishr F dL_acts_12 ?_
  refine h_bipush F dL_acts_13 (v := 7) (by decide) ?_
  refine h_iand F dL_acts_15 ?_
  refine h_if_ne (tgt := 25) F dL_acts_16 (by decide) (fun c1 => ?_) (fun c1 => ?_)
  · refine h_iload_n F 0 dL_acts_19 rfl rfl ?_
    refine h_iconst F dL_acts_20 (v := 1) (by decide) ?_
    refine h_iadd F dL_acts_21 ?_
    refine h_goto (tgt := 26) F dL_acts_22 (by decide) ?_
    refine h_sub [1, 2, 0] rfl ?_
    exact l_L_acts_26 F   a1 r2 (a1 >>> ((4 : Int32) &&& 31)) (r2 + (1 : Int32)) M2
  · refine h_iload_n F 0 dL_acts_25 rfl rfl ?_
    refine h_sub [1, 2, 0] rfl ?_
    exact l_L_acts_26 F   a1 r2 (a1 >>> ((4 : Int32) &&& 31)) r2 M2

set_option maxRecDepth 100000 in
set_option maxHeartbeats 4000000 in
theorem m_L_acts {l : Launch} {G : GM} (hl : l.stackTraces = false) (hG : GG G) (a1 : Int32) {r : Int32 × Mem} {M : Mem} (h : f_L_acts a1 M = some r) : Met l yL_acts (.code yL_acts cL_acts 7 (some .int) :: wsA) rmA (PcG G [.ref (gA G 0), .int a1] M) (QcR G (some (.int r.1)) r.2) 1 6 (A0 G) := by
  refine Met.ofW (cc := cL_acts) (maxL := 7) (ret := some .int) (by decide) rfl (fun p e s m args below meth c s₁ B hml hv => ?_)
  obtain ⟨rfl, h0, hP, hK⟩ := hv
  have F : Fy G p l s m ([Value.ref (gA G 0), Value.int a1] : List Value).toArray meth c cL_acts RL 7 (some .int) := ⟨B.exec, B.bytes, B.returns, hml, findClass_of_methodNamed B.named, fun w hw => atoms_spec (ws := .code yL_acts cL_acts 7 (some .int) :: wsA) B.pre w (List.mem_cons_of_mem _ hw), B.notSynchronized, hK, h0, hG, hl⟩
  have K := b_L_acts (e := e) (below := below) F a1 M r h s.heap [] _ hP va_S.rf (lv_entry [.ref (gA G 0), .int a1] (n := 7) (Nat.le_of_ble_eq_true rfl))
  rw [lg_entry_eq]
  exact K
