/-! ===== calls and throws over the memory ===== -/
theorem PcG_blind {G : GM} {av : List Value} {M : Mem} : FrameBlind (PcG G av M) := fun a U g mk q => ⟨q.1, q.2.1, q.2.2.1, q.2.2.2.calling g mk a⟩
section CL
variable {G : GM} {p : Program} {l : Launch} {e : Env} {s : State} {m : MethodId} {args : Array Value} {below : List Frame} {meth : Method} {c : Code} {cc : ByteArray} {own : String} {nL : Nat} {ret : Option FieldType} {d : Nat}
theorem pre_ok {H : Heap} {locs : List Loc} {av : List Value} {M : Mem} (F : Fx G p l s m args meth c cc own nL ret) (hP : va_P (gD G) vwCl (wd G M) H) (hS : va_S (A0 G) s.heap H locs) : ∀ U : State, U.heap = H → s.WarmedH U.vm → PcG G av M av.toArray U := by
  intro U hU hW
  refine ⟨rfl, ?_, ?_, ?_⟩
  · rw [hU]; exact Nat.le_trans F.g0 hS.1
  · rw [hU]; exact hP
  · rw [hU]; exact F.ks.warm hW hS
/-- behind a call that returned -/
theorem go_run {R : Room} {Q : State → Prop} {H : Heap} {locs : List Loc} {k n : Nat} {pc : Nat} {la : Array Slot} {st0 rest : List Value} {v : Option Value} {M' : Mem} {a : Array Value}
    (hr : va_Run p l e R s m args below meth c H locs k n 0 0 (F0 m pc la st0) rest (QcR G v M' a) (A0 G)) (hS : va_S (A0 G) s.heap H locs)
    (kk : ∀ (H1 : Heap) (locs1 : List Loc), va_P (gD G) vwCl (wd G M') H1 → va_S (A0 G) s.heap H1 locs1 → W p l e R s m args below meth c H1 locs1 k n Q (F0 m (pc + 3) la (v.toList ++ rest))) : W p l e R s m args below meth c H locs k n Q (F0 m pc la st0) := by
  intro T hT X
  obtain ⟨v', st₀, t, T', L, h0, X', hL, e1, e2, ⟨⟨hv, hP⟩, hF⟩, st⟩ := hr T hT X
  cases hv
  obtain ⟨t2, a1, b1⟩ := kk T'.heap (locs ++ L) (by rw [e1]; exact hP) ⟨Nat.le_trans hS.1 (by rw [← h0, e1]; exact hF.1), fun q h1 h2 => by
      rw [e1, hF.2 q (by rw [h0]; exact Nat.lt_of_lt_of_le h1 hS.1) h2, h0]; exact hS.2.1 q h1 h2, fun q hq => by
      rcases List.mem_append.mp hq with h | h
      · exact hS.2.2 q h
      · exact hL q h⟩ T' rfl X'
  exact ⟨t2, st t2 a1, b1⟩
/-- behind a call that threw: it goes on to the caller -/
theorem go_out {H : Heap} {locs : List Loc} {pc : Nat} {la : Array Slot} {st0 rest : List Value} {E : String} {M' : Mem} {a : Array Value} (F : Fx G p l s m args meth c cc own nL ret)
    (hr : vx_Run p l e (rmO d (.inr E, M')) s m args below meth c H locs 0 0 1 6 (F0 m pc la st0) rest (QcF a) (XcT G E M') (A0 G)) (hS : va_S (A0 G) s.heap H locs) :
    W p l e (rmO d (.inr E, M')) s m args below meth c H locs 0 0 (QM G below args s (.inr E, M')) (F0 m pc la st0) := by
  intro T hT X
  rcases hr T hT X with ⟨v, st₀, t, T', L, h0, X', hL, e1, e2, hq, st⟩ | ⟨q, st₀, t, T', L, E', ce, h0, X', hL, e1, e2, ⟨⟨rfl, hP⟩, hF⟩, hq, hv, hcl, st⟩
  · exact hq.elim
  · have K : vx_W p l e (rmO d (.inr E', M')) s m args below meth c T'.heap (locs ++ L) (0 + 1) (0 + 6) (QM G below args s (.inr E', M')) (F0 m pc la rest) q := by
      refine vx_out (fun x hx => (F.ex x hx).elim) F.lk (by rw [e1]; exact hq) hv hcl (fun t' ht' hal => ⟨⟨rfl, ?_⟩, ?_⟩) (fun z hz => ?_) (Nat.le_refl _) (Nat.le_refl _)
      · rw [ht', e1]; exact hP
      · refine ⟨?_, fun z h1 h2 => ?_⟩
        · rw [ht', e1]; exact Nat.le_trans hS.1 (by rw [← h0]; exact hF.1)
        · rw [ht', e1, hF.2 z (by rw [h0]; exact Nat.lt_of_lt_of_le h1 hS.1) h2, h0]; exact hS.2.1 z h1 h2
      · rcases List.mem_append.mp hz with h | h
        · exact hS.2.2 z h
        · exact hL z h
    obtain ⟨t2, a1, b1⟩ := K T' rfl X'
    exact ⟨t2, st.trans a1, b1⟩
variable {β : Type} {em : β → OC} {pc : Nat} {ls : List (Nat × Value)} {st rest : List Value} {M : Mem}
variable {y : MethodName} {bytes : ByteArray} {maxL d' n ix : Nat} {ret' : Option FieldType} {As : List Value}
/-- what the tables say of a method that is called -/
def yV (y : MethodName) (bytes : ByteArray) (maxL : Nat) (ret' : Option FieldType) (n : Nat) : Prop := Cond.instanceMethod y ∈ wsA ∧ Cond.selects y.cls y y ∈ wsA ∧ Cond.initialized y.cls ∈ wsA ∧ Cond.code y bytes maxL ret' ∈ wsA ∧ (y.cls ≠ "java/lang/invoke/MethodHandle" ∧ y.cls ≠ "java/lang/invoke/VarHandle" ∧ (parseMethodDescriptor y.desc).map (fun d => d.parameters.length) = some n) ∧ maxL ≤ 45
def yS (y : MethodName) (bytes : ByteArray) (maxL : Nat) (ret' : Option FieldType) (n : Nat) : Prop := Cond.static y ∈ wsA ∧ Cond.initialized y.cls ∈ wsA ∧ Cond.code y bytes maxL ret' ∈ wsA ∧ (y.cls ≠ "java/lang/invoke/MethodHandle" ∧ y.cls ≠ "java/lang/invoke/VarHandle" ∧ (parseMethodDescriptor y.desc).map (fun d => d.parameters.length) = some n) ∧ maxL ≤ 45
theorem subA {w : Cond} (h : w ∈ wsA) : ∀ x ∈ w :: wsA, x ∈ wsA := allA h (fun _ h => h)
theorem gcV (hl : Cond.methodLink own ix y ∈ wsA) (hy : yV y bytes maxL ret' n) : GoodIn wsA (wsV own ix y.cls y (.code y bytes maxL ret' :: wsA)) :=
  ginA (allA hl (allA hy.1 (allA hy.2.1 (allA hy.2.2.1 (subA hy.2.2.2.1)))))
theorem gcS (hl : Cond.methodLink own ix y ∈ wsA) (hy : yS y bytes maxL ret' n) : GoodIn wsA (va_wsS own ix y (.code y bytes maxL ret' :: wsA)) :=
  ginA (allA hl (allA hy.1 (allA hy.2.1 (subA hy.2.2.1))))
theorem hRr {o : OC} {o' : OC} (hd : d' + 1 ≤ d) (hm : maxL ≤ 45) : (rmO d' o').frames + 1 ≤ (rmO d o).frames ∧ 8 + (maxL + 11) + (rmO d' o').locals ≤ (rmO d o).locals := by
  rw [rmO_f, rmO_f, rmO_l, rmO_l]; omega
theorem hWr {la : Array Slot} (h : (rest.map fun v => v.category).sum ≤ 8) : 2 * (F0 m pc la st).monitorRoom + (rest.map fun v => v.category).sum ≤ 8 := by
  show 2 * 0 + _ ≤ 8
  omega
-- the four ways of calling, of a callee that returns
abbrev cfx (F : Fx G p l s m args meth c cc own nL ret) : CallFix p m c cc nL s args wsA own := ⟨F.x, F.b, F.ml, F.ow, F.ws⟩
theorem runV {o : OC} {v : Option Value} {M' : Mem} {k cK N : Nat} {T : u_T} {H : Heap} {locs : List Loc} {la : Array Slot} (F : Fx G p l s m args meth c cc own nL ret) (hd : decode cc pc = .ok (.invokevirtual ix, 3)) (hl : Cond.methodLink own ix y ∈ wsA) (hy : yV y bytes maxL ret' n) (hk : kd k = cK) (hcK : cK < 8) (hc : vwCl[obc cK]? = some (y.cls, T, N)) (hn : As.length = n) (hdd : d' + 1 ≤ d) (hst : st = As.reverse ++ .ref (gA G k) :: rest) (hW : (rest.map fun v => v.category).sum ≤ 8)
    (hC : Ctr l G y (.code y bytes maxL ret' :: wsA) d' (.ref (gA G k) :: As) M (.inl v, M')) (hP : va_P (gD G) vwCl (wd G M) H) (hS : va_S (A0 G) s.heap H locs) (hla : lv_has la nL ls) :
    va_Run p l e (rmO d o) s m args below meth c H locs 0 0 0 0 (F0 m pc la st) rest (QcR G v M' (Value.ref (gA G k) :: As).toArray) (A0 G) :=
  va_runV (b := gA G k) (C := y.cls) (As := As) (cfx F) hC (cwV n F.ws (gcV hl hy) rfl rfl rfl ⟨rfl, hy.2.2.2.2.1⟩ (hRr hdd hy.2.2.2.2.2)) ⟨PcG_blind, va_recv F.K hP hc (wd_o hk hcK), pre_ok F hP hS⟩ rfl hn hla.1 hst (hWr hW) hd ⟨Nat.zero_le _, Nat.zero_le _⟩
theorem runVN {o : OC} {v : Option Value} {M' : Mem} {k cK N : Nat} {T : u_T} {H : Heap} {locs : List Loc} {la : Array Slot} {host : String} (F : Fx G p l s m args meth c cc own nL ret) (hd : decode cc pc = .ok (.invokevirtual ix, 3)) (hl : Cond.methodLinkNest own ix y host ∈ lw_tbl) (hy : yV y bytes maxL ret' n) (hk : kd k = cK) (hcK : cK < 8) (hc : vwCl[obc cK]? = some (y.cls, T, N)) (hn : As.length = n) (hdd : d' + 1 ≤ d) (hst : st = As.reverse ++ .ref (gA G k) :: rest) (hW : (rest.map fun v => v.category).sum ≤ 8)
    (hC : Ctr l G y (.code y bytes maxL ret' :: wsA) d' (.ref (gA G k) :: As) M (.inl v, M')) (hP : va_P (gD G) vwCl (wd G M) H) (hS : va_S (A0 G) s.heap H locs) (hla : lv_has la nL ls) :
    va_Run p l e (rmO d o) s m args below meth c H locs 0 0 0 0 (F0 m pc la st) rest (QcR G v M' (Value.ref (gA G k) :: As).toArray) (A0 G) :=
  va_runVN (b := gA G k) (C := y.cls) (As := As) (cfx F) hC ⟨va_cnB n F.ws (ginA (subA hy.2.2.2.1)) rfl rfl rfl (F.ks.2.1 _ hl rfl) (F.ws _ hy.2.2.1) hy.2.2.2.2.1 (hRr hdd hy.2.2.2.2.2), F.ws _ hy.1, F.ws _ hy.2.1⟩ ⟨PcG_blind, va_recv F.K hP hc (wd_o hk hcK), pre_ok F hP hS⟩ rfl hn hla.1 hst (hWr hW) hd ⟨Nat.zero_le _, Nat.zero_le _⟩
theorem runS {o : OC} {v : Option Value} {M' : Mem} {H : Heap} {locs : List Loc} {la : Array Slot} (F : Fx G p l s m args meth c cc own nL ret) (hd : decode cc pc = .ok (.invokestatic ix, 3)) (hl : Cond.methodLink own ix y ∈ wsA) (hy : yS y bytes maxL ret' n) (hn : As.length = n) (hdd : d' + 1 ≤ d) (hst : st = As.reverse ++ rest) (hW : (rest.map fun v => v.category).sum ≤ 8)
    (hC : Ctr l G y (.code y bytes maxL ret' :: wsA) d' As M (.inl v, M')) (hP : va_P (gD G) vwCl (wd G M) H) (hS : va_S (A0 G) s.heap H locs) (hla : lv_has la nL ls) :
    va_Run p l e (rmO d o) s m args below meth c H locs 0 0 0 0 (F0 m pc la st) rest (QcR G v M' As.toArray) (A0 G) :=
  va_runS (As := As) (cfx F) hC (va_cwS n F.ws (gcS hl hy) rfl rfl rfl hy.2.2.2.1 (hRr hdd hy.2.2.2.2)) ⟨PcG_blind, pre_ok F hP hS⟩ rfl hn hla.1 hst (hWr hW) hd ⟨Nat.zero_le _, Nat.zero_le _⟩
theorem runSN {o : OC} {v : Option Value} {M' : Mem} {H : Heap} {locs : List Loc} {la : Array Slot} {host : String} (F : Fx G p l s m args meth c cc own nL ret) (hd : decode cc pc = .ok (.invokestatic ix, 3)) (hl : Cond.methodLinkNest own ix y host ∈ lw_tbl) (hy : yS y bytes maxL ret' n) (hn : As.length = n) (hdd : d' + 1 ≤ d) (hst : st = As.reverse ++ rest) (hW : (rest.map fun v => v.category).sum ≤ 8)
    (hC : Ctr l G y (.code y bytes maxL ret' :: wsA) d' As M (.inl v, M')) (hP : va_P (gD G) vwCl (wd G M) H) (hS : va_S (A0 G) s.heap H locs) (hla : lv_has la nL ls) :
    va_Run p l e (rmO d o) s m args below meth c H locs 0 0 0 0 (F0 m pc la st) rest (QcR G v M' As.toArray) (A0 G) :=
  va_runSN (As := As) (cfx F) hC ⟨va_cnB n F.ws (ginA (subA hy.2.2.1)) rfl rfl rfl (F.ks.2.1 _ hl rfl) (F.ws _ hy.2.1) hy.2.2.2.1 (hRr hdd hy.2.2.2.2), F.ws _ hy.1, trivial⟩ ⟨PcG_blind, pre_ok F hP hS⟩ rfl hn hla.1 hst (hWr hW) hd ⟨Nat.zero_le _, Nat.zero_le _⟩
-- .. of a callee that throws (own class)
theorem xrunV {E : String} {M' : Mem} {k cK N : Nat} {T : u_T} {H : Heap} {locs : List Loc} {la : Array Slot} (F : Fx G p l s m args meth c cc own nL ret) (hd : decode cc pc = .ok (.invokevirtual ix, 3)) (hl : Cond.methodLink own ix y ∈ wsA) (hy : yV y bytes maxL ret' n) (hk : kd k = cK) (hcK : cK < 8) (hc : vwCl[obc cK]? = some (y.cls, T, N)) (hn : As.length = n) (hdd : d' + 1 ≤ d) (hst : st = As.reverse ++ .ref (gA G k) :: rest) (hW : (rest.map fun v => v.category).sum ≤ 8)
    (hC : Ctr l G y (.code y bytes maxL ret' :: wsA) d' (.ref (gA G k) :: As) M (.inr E, M')) (hP : va_P (gD G) vwCl (wd G M) H) (hS : va_S (A0 G) s.heap H locs) (hla : lv_has la nL ls) :
    vx_Run p l e (rmO d (.inr E, M')) s m args below meth c H locs 0 0 1 6 (F0 m pc la st) rest (QcF (Value.ref (gA G k) :: As).toArray) (XcT G E M') (A0 G) :=
  vx_runV (b := gA G k) (C := y.cls) (As := As) (cfx F) hC (cwV n F.ws (gcV hl hy) rfl rfl rfl ⟨rfl, hy.2.2.2.2.1⟩ (hRr hdd hy.2.2.2.2.2)) ⟨PcG_blind, va_recv F.K hP hc (wd_o hk hcK), pre_ok F hP hS⟩ rfl hn hla.1 hst (hWr hW) hd ⟨Nat.le_refl _, Nat.le_refl _⟩
theorem xrunS {E : String} {M' : Mem} {H : Heap} {locs : List Loc} {la : Array Slot} (F : Fx G p l s m args meth c cc own nL ret) (hd : decode cc pc = .ok (.invokestatic ix, 3)) (hl : Cond.methodLink own ix y ∈ wsA) (hy : yS y bytes maxL ret' n) (hn : As.length = n) (hdd : d' + 1 ≤ d) (hst : st = As.reverse ++ rest) (hW : (rest.map fun v => v.category).sum ≤ 8)
    (hC : Ctr l G y (.code y bytes maxL ret' :: wsA) d' As M (.inr E, M')) (hP : va_P (gD G) vwCl (wd G M) H) (hS : va_S (A0 G) s.heap H locs) (hla : lv_has la nL ls) :
    vx_Run p l e (rmO d (.inr E, M')) s m args below meth c H locs 0 0 1 6 (F0 m pc la st) rest (QcF As.toArray) (XcT G E M') (A0 G) :=
  vx_runS (As := As) (cfx F) hC (va_cwS n F.ws (gcS hl hy) rfl rfl rfl hy.2.2.2.1 (hRr hdd hy.2.2.2.2)) ⟨PcG_blind, pre_ok F hP hS⟩ rfl hn hla.1 hst (hWr hW) hd ⟨Nat.le_refl _, Nat.le_refl _⟩
-- the rows: N a callee that cannot throw, T one that may
theorem bn_some {α β : Type} {Y : Option (α × Mem)} {K : α → Mem → Option β} {r : β} (h : bn Y K = some r) : ∃ v M', Y = some (v, M') ∧ K v M' = some r := by
  cases Y with
  | none => cases h
  | some q => exact ⟨q.1, q.2, rfl, h⟩
theorem bt_some {α β : Type} {Y : Option ((α ⊕ String) × Mem)} {K : α → Mem → Option ((β ⊕ String) × Mem)} {r : (β ⊕ String) × Mem} (h : bt Y K = some r) : (∃ v M', Y = some (.inl v, M') ∧ K v M' = some r) ∨ ∃ E M', Y = some (.inr E, M') ∧ r = (.inr E, M') := by
  match Y, h with
  | none, h => cases h
  | some (.inr E, M'), h => exact Or.inr ⟨E, M', rfl, (Option.some.inj h).symm⟩
  | some (.inl v, M'), h => exact Or.inl ⟨v, M', rfl, h⟩
variable {α γ : Type} {val : α → Option Value} {vf : γ → Option Value} {k cK N : Nat} {T : u_T} {host : String}
theorem r_cV {em' : α × Mem → OC} {Y : Option (α × Mem)} {Kf : α → Mem → Option β} (K' : α → List Value) (F : Fx G p l s m args meth c cc own nL ret) (hC : ∀ r, Y = some r → Ctr l G y (.code y bytes maxL ret' :: wsA) d' (.ref (gA G k) :: As) M (em' r)) (hem : ∀ v M, em' (v, M) = (.inl (val v), M)) (hd : decode cc pc = .ok (.invokevirtual ix, 3)) (hl : Cond.methodLink own ix y ∈ wsA) (hy : yV y bytes maxL ret' n) (hk : kd k = cK) (hcK : cK < 8) (hc : vwCl[obc cK]? = some (y.cls, T, N)) (hn : As.length = n) (hdd : d' + 1 ≤ d) (hst : st = As.reverse ++ .ref (gA G k) :: rest) (hW : (rest.map fun v => v.category).sum ≤ 8) (hK' : ∀ v, (val v).toList ++ rest = K' v)
    (K : ∀ v M', Rf G p l e s m args below meth c d nL em (Kf v M') (pc + 3) ls (K' v) M') : Rf G p l e s m args below meth c d nL em (bn Y Kf) pc ls st M := by
  intro r hX H locs la hP hS hla
  obtain ⟨v, M', hY, hX⟩ := bn_some hX
  refine go_run (runV F hd hl hy hk hcK hc hn hdd hst hW (by have := hC _ hY; rw [hem] at this; exact this) hP hS hla) hS fun H1 locs1 hP hS => ?_
  rw [hK']
  exact K v M' r hX H1 locs1 la hP hS hla
theorem r_cVN {em' : α × Mem → OC} {Y : Option (α × Mem)} {Kf : α → Mem → Option β} (K' : α → List Value) (F : Fx G p l s m args meth c cc own nL ret) (hC : ∀ r, Y = some r → Ctr l G y (.code y bytes maxL ret' :: wsA) d' (.ref (gA G k) :: As) M (em' r)) (hem : ∀ v M, em' (v, M) = (.inl (val v), M)) (hd : decode cc pc = .ok (.invokevirtual ix, 3)) (hl : Cond.methodLinkNest own ix y host ∈ lw_tbl) (hy : yV y bytes maxL ret' n) (hk : kd k = cK) (hcK : cK < 8) (hc : vwCl[obc cK]? = some (y.cls, T, N)) (hn : As.length = n) (hdd : d' + 1 ≤ d) (hst : st = As.reverse ++ .ref (gA G k) :: rest) (hW : (rest.map fun v => v.category).sum ≤ 8) (hK' : ∀ v, (val v).toList ++ rest = K' v)
    (K : ∀ v M', Rf G p l e s m args below meth c d nL em (Kf v M') (pc + 3) ls (K' v) M') : Rf G p l e s m args below meth c d nL em (bn Y Kf) pc ls st M := by
  intro r hX H locs la hP hS hla
  obtain ⟨v, M', hY, hX⟩ := bn_some hX
  refine go_run (runVN F hd hl hy hk hcK hc hn hdd hst hW (by have := hC _ hY; rw [hem] at this; exact this) hP hS hla) hS fun H1 locs1 hP hS => ?_
  rw [hK']
  exact K v M' r hX H1 locs1 la hP hS hla
theorem r_cS {em' : α × Mem → OC} {Y : Option (α × Mem)} {Kf : α → Mem → Option β} (K' : α → List Value) (F : Fx G p l s m args meth c cc own nL ret) (hC : ∀ r, Y = some r → Ctr l G y (.code y bytes maxL ret' :: wsA) d' As M (em' r)) (hem : ∀ v M, em' (v, M) = (.inl (val v), M)) (hd : decode cc pc = .ok (.invokestatic ix, 3)) (hl : Cond.methodLink own ix y ∈ wsA) (hy : yS y bytes maxL ret' n) (hn : As.length = n) (hdd : d' + 1 ≤ d) (hst : st = As.reverse ++ rest) (hW : (rest.map fun v => v.category).sum ≤ 8) (hK' : ∀ v, (val v).toList ++ rest = K' v)
    (K : ∀ v M', Rf G p l e s m args below meth c d nL em (Kf v M') (pc + 3) ls (K' v) M') : Rf G p l e s m args below meth c d nL em (bn Y Kf) pc ls st M := by
  intro r hX H locs la hP hS hla
  obtain ⟨v, M', hY, hX⟩ := bn_some hX
  refine go_run (runS F hd hl hy hn hdd hst hW (by have := hC _ hY; rw [hem] at this; exact this) hP hS hla) hS fun H1 locs1 hP hS => ?_
  rw [hK']
  exact K v M' r hX H1 locs1 la hP hS hla
theorem r_cSN {em' : α × Mem → OC} {Y : Option (α × Mem)} {Kf : α → Mem → Option β} (K' : α → List Value) (F : Fx G p l s m args meth c cc own nL ret) (hC : ∀ r, Y = some r → Ctr l G y (.code y bytes maxL ret' :: wsA) d' As M (em' r)) (hem : ∀ v M, em' (v, M) = (.inl (val v), M)) (hd : decode cc pc = .ok (.invokestatic ix, 3)) (hl : Cond.methodLinkNest own ix y host ∈ lw_tbl) (hy : yS y bytes maxL ret' n) (hn : As.length = n) (hdd : d' + 1 ≤ d) (hst : st = As.reverse ++ rest) (hW : (rest.map fun v => v.category).sum ≤ 8) (hK' : ∀ v, (val v).toList ++ rest = K' v)
    (K : ∀ v M', Rf G p l e s m args below meth c d nL em (Kf v M') (pc + 3) ls (K' v) M') : Rf G p l e s m args below meth c d nL em (bn Y Kf) pc ls st M := by
  intro r hX H locs la hP hS hla
  obtain ⟨v, M', hY, hX⟩ := bn_some hX
  refine go_run (runSN F hd hl hy hn hdd hst hW (by have := hC _ hY; rw [hem] at this; exact this) hP hS hla) hS fun H1 locs1 hP hS => ?_
  rw [hK']
  exact K v M' r hX H1 locs1 la hP hS hla
theorem r_tV {Y : Option ((α ⊕ String) × Mem)} {Kf : α → Mem → Option ((γ ⊕ String) × Mem)} (K' : α → List Value) (F : Fx G p l s m args meth c cc own nL ret) (hC : ∀ r, Y = some r → Ctr l G y (.code y bytes maxL ret' :: wsA) d' (.ref (gA G k) :: As) M (emT val r)) (hd : decode cc pc = .ok (.invokevirtual ix, 3)) (hl : Cond.methodLink own ix y ∈ wsA) (hy : yV y bytes maxL ret' n) (hk : kd k = cK) (hcK : cK < 8) (hc : vwCl[obc cK]? = some (y.cls, T, N)) (hn : As.length = n) (hdd : d' + 1 ≤ d) (hst : st = As.reverse ++ .ref (gA G k) :: rest) (hW : (rest.map fun v => v.category).sum ≤ 8) (hK' : ∀ v, (val v).toList ++ rest = K' v)
    (K : ∀ v M', Rf G p l e s m args below meth c d nL (emT vf) (Kf v M') (pc + 3) ls (K' v) M') : Rf G p l e s m args below meth c d nL (emT vf) (bt Y Kf) pc ls st M := by
  intro r hX H locs la hP hS hla
  rcases bt_some hX with ⟨v, M', hY, hX⟩ | ⟨E, M', hY, rfl⟩
  · refine go_run (runV F hd hl hy hk hcK hc hn hdd hst hW (hC _ hY) hP hS hla) hS fun H1 locs1 hP hS => ?_
    rw [hK']
    exact K v M' r hX H1 locs1 la hP hS hla
  · exact go_out F (xrunV F hd hl hy hk hcK hc hn hdd hst hW (hC _ hY) hP hS hla) hS
theorem r_tS {Y : Option ((α ⊕ String) × Mem)} {Kf : α → Mem → Option ((γ ⊕ String) × Mem)} (K' : α → List Value) (F : Fx G p l s m args meth c cc own nL ret) (hC : ∀ r, Y = some r → Ctr l G y (.code y bytes maxL ret' :: wsA) d' As M (emT val r)) (hd : decode cc pc = .ok (.invokestatic ix, 3)) (hl : Cond.methodLink own ix y ∈ wsA) (hy : yS y bytes maxL ret' n) (hn : As.length = n) (hdd : d' + 1 ≤ d) (hst : st = As.reverse ++ rest) (hW : (rest.map fun v => v.category).sum ≤ 8) (hK' : ∀ v, (val v).toList ++ rest = K' v)
    (K : ∀ v M', Rf G p l e s m args below meth c d nL (emT vf) (Kf v M') (pc + 3) ls (K' v) M') : Rf G p l e s m args below meth c d nL (emT vf) (bt Y Kf) pc ls st M := by
  intro r hX H locs la hP hS hla
  rcases bt_some hX with ⟨v, M', hY, hX⟩ | ⟨E, M', hY, rfl⟩
  · refine go_run (runS F hd hl hy hn hdd hst hW (hC _ hY) hP hS hla) hS fun H1 locs1 hP hS => ?_
    rw [hK']
    exact K v M' r hX H1 locs1 la hP hS hla
  · exact go_out F (xrunS F hd hl hy hn hdd hst hW (hC _ hY) hP hS hla) hS
end CL
