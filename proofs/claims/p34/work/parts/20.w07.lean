-- ===== X0_carry DrumTowns$Land.carry(III)V =====
theorem yv_X0_carry : yV yX0_carry cX0_carry 4 none 3 := ⟨im_X0_carry, sl_X0_carry, ini_X0, cd_X0_carry, ⟨by decide, by decide, by decide +kernel⟩, by decide⟩

def f_X0_carry (a0 : Nat) (a1 : Int32) (a2 : Int32) (a3 : Int32) (M : Mem) : Option (Unit × Mem) := chk (kb a0 1) <| chk (inb a1 6) <| bnd (tw (a0 + 1) a1) fun b5 => bnd (mw M b5 0 ((M.1 b5 0) - a3)) fun M12 => chk (inb a2 6) <| bnd (tw (a0 + 1) a2) fun b20 => bnd (mw M12 b20 0 ((M12.1 b20 0) + a3)) fun M27 => some ((), M27)

set_option maxRecDepth 100000 in
set_option maxHeartbeats 4000000 in
theorem b_X0_carry {G : GM} {p : Program} {l : Launch} {e : Env} {s : State} {m : MethodId} {args : Array Value} {below : List Frame} {meth : Method} {c : Code} (F : Fx G p l s m args meth c cX0_carry RX0 4 none) (a0 : Nat) (a1 : Int32) (a2 : Int32) (a3 : Int32) (M : Mem) : Rf G p l e s m args below meth c 6 4 emV (f_X0_carry a0 a1 a2 a3 M) 0 [(0, .ref (gA G a0)), (1, .int a1), (2, .int a2), (3, .int a3)] [] M := by
  unfold f_X0_carry
  refine r_aload_n F 0 dX0_carry_0 rfl rfl ?_
  refine r_chk (fun h1 => ?_)
  refine gf_X0_11 F dX0_carry_1 (kb_k h1) ?_
  refine r_iload_n F 1 dX0_carry_4 rfl rfl ?_
  refine r_chk (fun h2 => ?_)
  refine r_aaldT F dX0_carry_5 (kLs (kb_k h1)) h2 ?_
  refine r_br (kTw' (kLs (kb_k h1)) h2) (fun b5 k5 => ?_)
  refine r_dup F dX0_carry_6 rfl ?_
  refine gf_X0_54 F dX0_carry_7 k5 ?_
  refine r_iload_n F 3 dX0_carry_10 rfl rfl ?_
  refine r_isub F dX0_carry_11 ?_
  refine pf_X0_54 F dX0_carry_12 k5 (fun M12 => ?_)
  refine r_aload_n F 0 dX0_carry_15 rfl rfl ?_
  refine gf_X0_11 F dX0_carry_16 (kb_k h1) ?_
  refine r_iload_n F 2 dX0_carry_19 rfl rfl ?_
  refine r_chk (fun h3 => ?_)
  refine r_aaldT F dX0_carry_20 (kLs (kb_k h1)) h3 ?_
  refine r_br (kTw' (kLs (kb_k h1)) h3) (fun b20 k20 => ?_)
  refine r_dup F dX0_carry_21 rfl ?_
  refine gf_X0_54 F dX0_carry_22 k20 ?_
  refine r_iload_n F 3 dX0_carry_25 rfl rfl ?_
  refine r_iadd F dX0_carry_26 ?_
  refine pf_X0_54 F dX0_carry_27 k20 (fun M27 => ?_)
  exact r_vret F rfl dX0_carry_30 rfl

set_option maxRecDepth 100000 in
set_option maxHeartbeats 4000000 in
theorem c_X0_carry {l : Launch} {G : GM} (hl : l.stackTraces = false) (hG : GG G) (a0 : Nat) (a1 : Int32) (a2 : Int32) (a3 : Int32) (M : Mem) : ∀ r, f_X0_carry a0 a1 a2 a3 M = some r → Ctr l G yX0_carry (.code yX0_carry cX0_carry 4 none :: wsA) 6 [.ref (gA G a0), .int a1, .int a2, .int a3] M (emV r) :=
  ctr_of (by decide) hl hG (Nat.le_of_ble_eq_true rfl) (fun p e s m args below meth c F => b_X0_carry F a0 a1 a2 a3 M)

-- ===== X3_hasPin DrumTowns$Town.hasPin(II)Z =====
theorem yv_X3_hasPin : yV yX3_hasPin cX3_hasPin 3 (some .boolean) 2 := ⟨im_X3_hasPin, sl_X3_hasPin, ini_X3, cd_X3_hasPin, ⟨by decide, by decide, by decide +kernel⟩, by decide⟩

def f_X3_hasPin_18 (z0 : Int32) (M : Mem) : Option (Int32 × Mem) := chk (isb z0) <| some (z0, M)

set_option maxRecDepth 100000 in
set_option maxHeartbeats 4000000 in
theorem l_X3_hasPin_18 {G : GM} {p : Program} {l : Launch} {e : Env} {s : State} {m : MethodId} {args : Array Value} {below : List Frame} {meth : Method} {c : Code} (F : Fx G p l s m args meth c cX3_hasPin RX3 3 (some .boolean)) (z0 : Int32) (M : Mem) : Rf G p l e s m args below meth c 6 3 emI (f_X3_hasPin_18  z0 M) 18 [] [.int z0] M := by
  unfold f_X3_hasPin_18
  refine r_chk (fun h1 => ?_)
  exact r_zret F rfl dX3_hasPin_18 rfl (isb_or h1)

def f_X3_hasPin (a0 : Nat) (a1 : Int32) (a2 : Int32) (M : Mem) : Option (Int32 × Mem) := chk (kb a0 2) <| chk (inb a1 24) <| if ((M.1 (a0 + 1) a1.toNatClampNeg) &&& ((1 : Int32) <<< (a2 &&& 31))) = 0 then (f_X3_hasPin_18  (0 : Int32) M) else (f_X3_hasPin_18  (1 : Int32) M)

set_option maxRecDepth 100000 in
set_option maxHeartbeats 4000000 in
theorem b_X3_hasPin {G : GM} {p : Program} {l : Launch} {e : Env} {s : State} {m : MethodId} {args : Array Value} {below : List Frame} {meth : Method} {c : Code} (F : Fx G p l s m args meth c cX3_hasPin RX3 3 (some .boolean)) (a0 : Nat) (a1 : Int32) (a2 : Int32) (M : Mem) : Rf G p l e s m args below meth c 6 3 emI (f_X3_hasPin a0 a1 a2 M) 0 [(0, .ref (gA G a0)), (1, .int a1), (2, .int a2)] [] M := by
  unfold f_X3_hasPin
  refine r_aload_n F 0 dX3_hasPin_0 rfl rfl ?_
  refine r_chk (fun h1 => ?_)
  refine gf_X3_9 F dX3_hasPin_1 (kb_k h1) ?_
  refine r_iload_n F 1 dX3_hasPin_4 rfl rfl ?_
  refine r_chk (fun h2 => ?_)
  refine r_iald F dX3_hasPin_5 (kTd (kb_k h1)) (aTd (kb_k h1)) h2 ?_
  refine r_iconst F dX3_hasPin_6 (v := 1) (by decide) ?_
  refine r_iload_n F 2 dX3_hasPin_7 rfl rfl ?_
  refine r_ishl F dX3_hasPin_8 ?_
  refine r_iand F dX3_hasPin_9 ?_
  refine r_if_eq (tgt := 17) F dX3_hasPin_10 (by decide) (fun c3 => ?_) (fun c3 => ?_)
  · refine r_iconst F dX3_hasPin_17 (v := 0) (by decide) ?_
    refine r_sub [] rfl ?_
    exact l_X3_hasPin_18 F   (0 : Int32) M
  · refine r_iconst F dX3_hasPin_13 (v := 1) (by decide) ?_
    refine r_goto (tgt := 18) F dX3_hasPin_14 (by decide) ?_
    refine r_sub [] rfl ?_
    exact l_X3_hasPin_18 F   (1 : Int32) M

set_option maxRecDepth 100000 in
set_option maxHeartbeats 4000000 in
theorem c_X3_hasPin {l : Launch} {G : GM} (hl : l.stackTraces = false) (hG : GG G) (a0 : Nat) (a1 : Int32) (a2 : Int32) (M : Mem) : ∀ r, f_X3_hasPin a0 a1 a2 M = some r → Ctr l G yX3_hasPin (.code yX3_hasPin cX3_hasPin 3 (some .boolean) :: wsA) 6 [.ref (gA G a0), .int a1, .int a2] M (emI r) :=
  ctr_of (by decide) hl hG (Nat.le_of_ble_eq_true rfl) (fun p e s m args below meth c F => b_X3_hasPin F a0 a1 a2 M)

-- ===== X5_endStep DrumTowns$TuneText.endStep(I)V =====
theorem yv_X5_endStep : yV yX5_endStep cX5_endStep 2 none 1 := ⟨im_X5_endStep, sl_X5_endStep, ini_X5, cd_X5_endStep, ⟨by decide, by decide, by decide +kernel⟩, by decide⟩

def f_X5_endStep_29  (M : Mem) : Option (Unit × Mem) := some ((), M)

set_option maxRecDepth 100000 in
set_option maxHeartbeats 4000000 in
theorem l_X5_endStep_29 {G : GM} {p : Program} {l : Launch} {e : Env} {s : State} {m : MethodId} {args : Array Value} {below : List Frame} {meth : Method} {c : Code} (F : Fx G p l s m args meth c cX5_endStep RX5 2 none)  (M : Mem) : Rf G p l e s m args below meth c 6 2 emV (f_X5_endStep_29   M) 29 [] [] M := by
  unfold f_X5_endStep_29
  exact r_vret F rfl dX5_endStep_29 rfl

def f_X5_endStep (a1 : Int32) (M : Mem) : Option (Unit × Mem) := if (24 : Int32) ≤ (M.1 2 3) then (f_X5_endStep_29   M) else (chk (inb (M.1 2 3) 24) <| bnd (mw M 4 (M.1 2 3).toNatClampNeg a1) fun M18 => bnd (mw M18 2 3 ((M18.1 2 3) + (1 : Int32))) fun M26 => f_X5_endStep_29   M26)

set_option maxRecDepth 100000 in
set_option maxHeartbeats 4000000 in
theorem b_X5_endStep {G : GM} {p : Program} {l : Launch} {e : Env} {s : State} {m : MethodId} {args : Array Value} {below : List Frame} {meth : Method} {c : Code} (F : Fx G p l s m args meth c cX5_endStep RX5 2 none) (a1 : Int32) (M : Mem) : Rf G p l e s m args below meth c 6 2 emV (f_X5_endStep a1 M) 0 [(0, .ref (gA G 2)), (1, .int a1)] [] M := by
  unfold f_X5_endStep
  refine r_aload_n F 0 dX5_endStep_0 rfl rfl ?_
  refine gf_X5_18 F dX5_endStep_1 (rfl : kd 2 = 6) ?_
  refine r_bipush F dX5_endStep_4 (v := 24) (by decide) ?_
  refine r_icmp_ge (tgt := 29) F dX5_endStep_6 (by decide) (fun c1 => ?_) (fun c1 => ?_)
  · refine r_sub [] rfl ?_
    exact l_X5_endStep_29 F    M
  · refine r_aload_n F 0 dX5_endStep_9 rfl rfl ?_
    refine gf_X5_15 F dX5_endStep_10 (rfl : kd 2 = 6) ?_
    refine r_aload_n F 0 dX5_endStep_13 rfl rfl ?_
    refine gf_X5_18 F dX5_endStep_14 (rfl : kd 2 = 6) ?_
    refine r_iload_n F 1 dX5_endStep_17 rfl rfl ?_
    refine r_chk (fun h2 => ?_)
    refine r_iast F dX5_endStep_18 (rfl : kd 4 = 8) (rfl : al 4 = 24) h2 (fun M18 => ?_)
    refine r_aload_n F 0 dX5_endStep_19 rfl rfl ?_
    refine r_dup F dX5_endStep_20 rfl ?_
    refine gf_X5_18 F dX5_endStep_21 (rfl : kd 2 = 6) ?_
    refine r_iconst F dX5_endStep_24 (v := 1) (by decide) ?_
    refine r_iadd F dX5_endStep_25 ?_
    refine pf_X5_18 F dX5_endStep_26 (rfl : kd 2 = 6) (fun M26 => ?_)
    refine r_sub [] rfl ?_
    exact l_X5_endStep_29 F    M26

set_option maxRecDepth 100000 in
set_option maxHeartbeats 4000000 in
theorem c_X5_endStep {l : Launch} {G : GM} (hl : l.stackTraces = false) (hG : GG G) (a1 : Int32) (M : Mem) : ∀ r, f_X5_endStep a1 M = some r → Ctr l G yX5_endStep (.code yX5_endStep cX5_endStep 2 none :: wsA) 6 [.ref (gA G 2), .int a1] M (emV r) :=
  ctr_of (by decide) hl hG (Nat.le_of_ble_eq_true rfl) (fun p e s m args below meth c F => b_X5_endStep F a1 M)

-- ===== X5_isComplete DrumTowns$TuneText.isComplete()Z =====
theorem yv_X5_isComplete : yV yX5_isComplete cX5_isComplete 1 (some .boolean) 0 := ⟨im_X5_isComplete, sl_X5_isComplete, ini_X5, cd_X5_isComplete, ⟨by decide, by decide, by decide +kernel⟩, by decide⟩

def f_X5_isComplete_19 (z0 : Int32) (M : Mem) : Option (Int32 × Mem) := chk (isb z0) <| some (z0, M)

set_option maxRecDepth 100000 in
set_option maxHeartbeats 4000000 in
theorem l_X5_isComplete_19 {G : GM} {p : Program} {l : Launch} {e : Env} {s : State} {m : MethodId} {args : Array Value} {below : List Frame} {meth : Method} {c : Code} (F : Fx G p l s m args meth c cX5_isComplete RX5 1 (some .boolean)) (z0 : Int32) (M : Mem) : Rf G p l e s m args below meth c 6 1 emI (f_X5_isComplete_19  z0 M) 19 [] [.int z0] M := by
  unfold f_X5_isComplete_19
  refine r_chk (fun h1 => ?_)
  exact r_zret F rfl dX5_isComplete_19 rfl (isb_or h1)

def f_X5_isComplete_18  (M : Mem) : Option (Int32 × Mem) := f_X5_isComplete_19  (0 : Int32) M

set_option maxRecDepth 100000 in
set_option maxHeartbeats 4000000 in
theorem l_X5_isComplete_18 {G : GM} {p : Program} {l : Launch} {e : Env} {s : State} {m : MethodId} {args : Array Value} {below : List Frame} {meth : Method} {c : Code} (F : Fx G p l s m args meth c cX5_isComplete RX5 1 (some .boolean))  (M : Mem) : Rf G p l e s m args below meth c 6 1 emI (f_X5_isComplete_18   M) 18 [] [] M := by
  unfold f_X5_isComplete_18
  refine r_iconst F dX5_isComplete_18 (v := 0) (by decide) ?_
  refine r_sub [] rfl ?_
  exact l_X5_isComplete_19 F   (0 : Int32) M

def f_X5_isComplete  (M : Mem) : Option (Int32 × Mem) := if (M.1 2 3) ≤ 0 then (f_X5_isComplete_18   M) else (if (M.1 2 4) = 0 then (f_X5_isComplete_19  (1 : Int32) M) else (f_X5_isComplete_18   M))

set_option maxRecDepth 100000 in
set_option maxHeartbeats 4000000 in
theorem b_X5_isComplete {G : GM} {p : Program} {l : Launch} {e : Env} {s : State} {m : MethodId} {args : Array Value} {below : List Frame} {meth : Method} {c : Code} (F : Fx G p l s m args meth c cX5_isComplete RX5 1 (some .boolean))  (M : Mem) : Rf G p l e s m args below meth c 6 1 emI (f_X5_isComplete  M) 0 [(0, .ref (gA G 2))] [] M := by
  unfold f_X5_isComplete
  refine r_aload_n F 0 dX5_isComplete_0 rfl rfl ?_
  refine gf_X5_18 F dX5_isComplete_1 (rfl : kd 2 = 6) ?_
  refine r_if_le (tgt := 18) F dX5_isComplete_4 (by decide) (fun c1 => ?_) (fun c1 => ?_)
  · refine r_sub [] rfl ?_
    exact l_X5_isComplete_18 F    M
  · refine r_aload_n F 0 dX5_isComplete_7 rfl rfl ?_
    refine gf_X5_22 F dX5_isComplete_8 (rfl : kd 2 = 6) ?_
    refine r_if_ne (tgt := 18) F dX5_isComplete_11 (by decide) (fun c2 => ?_) (fun c2 => ?_)
    · refine r_iconst F dX5_isComplete_14 (v := 1) (by decide) ?_
      refine r_goto (tgt := 19) F dX5_isComplete_15 (by decide) ?_
      refine r_sub [] rfl ?_
      exact l_X5_isComplete_19 F   (1 : Int32) M
    · refine r_sub [] rfl ?_
      exact l_X5_isComplete_18 F    M

set_option maxRecDepth 100000 in
set_option maxHeartbeats 4000000 in
theorem c_X5_isComplete {l : Launch} {G : GM} (hl : l.stackTraces = false) (hG : GG G)  (M : Mem) : ∀ r, f_X5_isComplete  M = some r → Ctr l G yX5_isComplete (.code yX5_isComplete cX5_isComplete 1 (some .boolean) :: wsA) 6 [.ref (gA G 2)] M (emI r) :=
  ctr_of (by decide) hl hG (Nat.le_of_ble_eq_true rfl) (fun p e s m args below meth c F => b_X5_isComplete F  M)

-- ===== X5_isTooth DrumTowns$TuneText.isTooth(I)Z =====
theorem ys_X5_isTooth : yS yX5_isTooth cX5_isTooth 1 (some .boolean) 1 := ⟨sc_X5_isTooth, ini_X5, cd_X5_isTooth, ⟨by decide, by decide, by decide +kernel⟩, by decide⟩

def f_X5_isTooth_17 (z0 : Int32) (M : Mem) : Option (Int32 × Mem) := chk (isb z0) <| some (z0, M)

set_option maxRecDepth 100000 in
set_option maxHeartbeats 4000000 in
theorem l_X5_isTooth_17 {G : GM} {p : Program} {l : Launch} {e : Env} {s : State} {m : MethodId} {args : Array Value} {below : List Frame} {meth : Method} {c : Code} (F : Fx G p l s m args meth c cX5_isTooth RX5 1 (some .boolean)) (z0 : Int32) (M : Mem) : Rf G p l e s m args below meth c 6 1 emI (f_X5_isTooth_17  z0 M) 17 [] [.int z0] M := by
  unfold f_X5_isTooth_17
  refine r_chk (fun h1 => ?_)
  exact r_zret F rfl dX5_isTooth_17 rfl (isb_or h1)

def f_X5_isTooth_16  (M : Mem) : Option (Int32 × Mem) := f_X5_isTooth_17  (0 : Int32) M

set_option maxRecDepth 100000 in
set_option maxHeartbeats 4000000 in
theorem l_X5_isTooth_16 {G : GM} {p : Program} {l : Launch} {e : Env} {s : State} {m : MethodId} {args : Array Value} {below : List Frame} {meth : Method} {c : Code} (F : Fx G p l s m args meth c cX5_isTooth RX5 1 (some .boolean))  (M : Mem) : Rf G p l e s m args below meth c 6 1 emI (f_X5_isTooth_16   M) 16 [] [] M := by
  unfold f_X5_isTooth_16
  refine r_iconst F dX5_isTooth_16 (v := 0) (by decide) ?_
  refine r_sub [] rfl ?_
  exact l_X5_isTooth_17 F   (0 : Int32) M

def f_X5_isTooth (a0 : Int32) (M : Mem) : Option (Int32 × Mem) := if a0 < (97 : Int32) then (f_X5_isTooth_16   M) else (if (109 : Int32) ≤ a0 then (f_X5_isTooth_16   M) else (f_X5_isTooth_17  (1 : Int32) M))

set_option maxRecDepth 100000 in
set_option maxHeartbeats 4000000 in
theorem b_X5_isTooth {G : GM} {p : Program} {l : Launch} {e : Env} {s : State} {m : MethodId} {args : Array Value} {below : List Frame} {meth : Method} {c : Code} (F : Fx G p l s m args meth c cX5_isTooth RX5 1 (some .boolean)) (a0 : Int32) (M : Mem) : Rf G p l e s m args below meth c 6 1 emI (f_X5_isTooth a0 M) 0 [(0, .int a0)] [] M := by
  unfold f_X5_isTooth
  refine r_iload_n F 0 dX5_isTooth_0 rfl rfl ?_
  refine r_bipush F dX5_isTooth_1 (v := 97) (by decide) ?_
  refine r_icmp_lt (tgt := 16) F dX5_isTooth_3 (by decide) (fun c1 => ?_) (fun c1 => ?_)
  · refine r_sub [] rfl ?_
    exact l_X5_isTooth_16 F    M
  · refine r_iload_n F 0 dX5_isTooth_6 rfl rfl ?_
    refine r_bipush F dX5_isTooth_7 (v := 109) (by decide) ?_
    refine r_icmp_ge (tgt := 16) F dX5_isTooth_9 (by decide) (fun c2 => ?_) (fun c2 => ?_)
    · refine r_sub [] rfl ?_
      exact l_X5_isTooth_16 F    M
    · refine r_iconst F dX5_isTooth_12 (v := 1) (by decide) ?_
      refine r_goto (tgt := 17) F dX5_isTooth_13 (by decide) ?_
      refine r_sub [] rfl ?_
      exact l_X5_isTooth_17 F   (1 : Int32) M

set_option maxRecDepth 100000 in
set_option maxHeartbeats 4000000 in
theorem c_X5_isTooth {l : Launch} {G : GM} (hl : l.stackTraces = false) (hG : GG G) (a0 : Int32) (M : Mem) : ∀ r, f_X5_isTooth a0 M = some r → Ctr l G yX5_isTooth (.code yX5_isTooth cX5_isTooth 1 (some .boolean) :: wsA) 6 [.int a0] M (emI r) :=
  ctr_of (by decide) hl hG (Nat.le_of_ble_eq_true rfl) (fun p e s m args below meth c F => b_X5_isTooth F a0 M)

-- ===== X5_readInside DrumTowns$TuneText.readInside(I)Z =====
theorem yv_X5_readInside : yV yX5_readInside cX5_readInside 4 (some .boolean) 1 := ⟨im_X5_readInside, sl_X5_readInside, ini_X5, cd_X5_readInside, ⟨by decide, by decide, by decide +kernel⟩, by decide⟩

def f_X5_readInside_79  (M : Mem) : Option (Int32 × Mem) := some ((0 : Int32), M)

set_option maxRecDepth 100000 in
set_option maxHeartbeats 4000000 in
theorem l_X5_readInside_79 {G : GM} {p : Program} {l : Launch} {e : Env} {s : State} {m : MethodId} {args : Array Value} {below : List Frame} {meth : Method} {c : Code} (F : Fx G p l s m args meth c cX5_readInside RX5 4 (some .boolean))  (M : Mem) : Rf G p l e s m args below meth c 7 4 emI (f_X5_readInside_79   M) 79 [] [] M := by
  unfold f_X5_readInside_79
  refine r_iconst F dX5_readInside_79 (v := 0) (by decide) ?_
  exact r_zret F rfl dX5_readInside_80 rfl (by decide)

def f_X5_readInside_66 (y2 : Int32) (z0 : Int32) (M : Mem) : Option (Int32 × Mem) := if y2 ≤ (M.1 2 5) then (f_X5_readInside_79   M) else (if z0 = 0 then (bnd (mw M 2 5 ((M.1 2 5) ||| y2)) fun M88 => some ((1 : Int32), M88)) else (f_X5_readInside_79   M))

set_option maxRecDepth 100000 in
set_option maxHeartbeats 4000000 in
theorem l_X5_readInside_66 {G : GM} {p : Program} {l : Launch} {e : Env} {s : State} {m : MethodId} {args : Array Value} {below : List Frame} {meth : Method} {c : Code} (F : Fx G p l s m args meth c cX5_readInside RX5 4 (some .boolean)) (y2 : Int32) (z0 : Int32) (M : Mem) : Rf G p l e s m args below meth c 7 4 emI (f_X5_readInside_66  y2 z0 M) 66 [(0, .ref (gA G 2)), (2, .int y2)] [.int z0] M := by
  unfold f_X5_readInside_66
  refine r_istore_n (ls' := [(3, .int z0), (0, .ref (gA G 2)), (2, .int y2)]) F dX5_readInside_66 rfl (by decide) rfl ?_
  refine r_iload_n F 2 dX5_readInside_67 rfl rfl ?_
  refine r_aload_n F 1 dX5_readInside_68 rfl rfl ?_
  refine gf_X5_36 F dX5_readInside_69 (rfl : kd 2 = 6) ?_
  refine r_icmp_le (tgt := 79) F dX5_readInside_72 (by decide) (fun c1 => ?_) (fun c1 => ?_)
  · refine r_sub [] rfl ?_
    exact l_X5_readInside_79 F    M
  · refine r_iload_n F 0 dX5_readInside_75 rfl rfl ?_
    refine r_if_eq (tgt := 81) F dX5_readInside_76 (by decide) (fun c2 => ?_) (fun c2 => ?_)
    · refine r_aload_n F 1 dX5_readInside_81 rfl rfl ?_
      refine r_dup F dX5_readInside_82 rfl ?_
      refine gf_X5_36 F dX5_readInside_83 (rfl : kd 2 = 6) ?_
      refine r_iload_n F 2 dX5_readInside_86 rfl rfl ?_
      refine r_ior F dX5_readInside_87 ?_
      refine pf_X5_36 F dX5_readInside_88 (rfl : kd 2 = 6) (fun M88 => ?_)
      refine r_iconst F dX5_readInside_91 (v := 1) (by decide) ?_
      exact r_zret F rfl dX5_readInside_92 rfl (by decide)
    · refine r_sub [] rfl ?_
      exact l_X5_readInside_79 F    M

def f_X5_readInside_65 (y2 : Int32) (M : Mem) : Option (Int32 × Mem) := f_X5_readInside_66  y2 (0 : Int32) M

set_option maxRecDepth 100000 in
set_option maxHeartbeats 4000000 in
theorem l_X5_readInside_65 {G : GM} {p : Program} {l : Launch} {e : Env} {s : State} {m : MethodId} {args : Array Value} {below : List Frame} {meth : Method} {c : Code} (F : Fx G p l s m args meth c cX5_readInside RX5 4 (some .boolean)) (y2 : Int32) (M : Mem) : Rf G p l e s m args below meth c 7 4 emI (f_X5_readInside_65  y2 M) 65 [(0, .ref (gA G 2)), (2, .int y2)] [] M := by
  unfold f_X5_readInside_65
  refine r_iconst F dX5_readInside_65 (v := 0) (by decide) ?_
  refine r_sub [0, 1] rfl ?_
  exact l_X5_readInside_66 F   y2 (0 : Int32) M

def f_X5_readInside_32 (y1 : Int32) (M : Mem) : Option (Int32 × Mem) := bn (f_X5_isTooth y1 M) fun r33 M33 => if r33 = 0 then (some ((0 : Int32), M33)) else (bnd ((1 : Int32) <<< ((y1 - (97 : Int32)) &&& 31)) fun x47 => if (M33.1 2 5) = 0 then (if y1 = (108 : Int32) then (f_X5_readInside_66  x47 (1 : Int32) M33) else (f_X5_readInside_65  x47 M33)) else (f_X5_readInside_65  x47 M33))

set_option maxRecDepth 100000 in
set_option maxHeartbeats 4000000 in
theorem l_X5_readInside_32 {G : GM} {p : Program} {l : Launch} {e : Env} {s : State} {m : MethodId} {args : Array Value} {below : List Frame} {meth : Method} {c : Code} (F : Fx G p l s m args meth c cX5_readInside RX5 4 (some .boolean)) (y1 : Int32) (M : Mem) : Rf G p l e s m args below meth c 7 4 emI (f_X5_readInside_32  y1 M) 32 [(0, .ref (gA G 2)), (1, .int y1)] [] M := by
  unfold f_X5_readInside_32
  refine r_iload_n F 1 dX5_readInside_32 rfl rfl ?_
  refine r_cS (val := vI) (As := [.int y1]) (rest := []) (fun q9 => .int q9 :: []) F (c_X5_isTooth F.st F.gg y1 M) (fun _ _ => rfl) dX5_readInside_33 ml_X5_39 ys_X5_isTooth rfl (by decide) rfl (Nat.le_of_ble_eq_true rfl) (fun _ => rfl) (fun r33 M33 => ?_)
  refine r_if_ne (tgt := 41) F dX5_readInside_36 (by decide) (fun c1 => ?_) (fun c1 => ?_)
  · refine r_iconst F dX5_readInside_39 (v := 0) (by decide) ?_
    exact r_zret F rfl dX5_readInside_40 rfl (by decide)
  · refine r_iconst F dX5_readInside_41 (v := 1) (by decide) ?_
    refine r_iload_n F 1 dX5_readInside_42 rfl rfl ?_
    refine r_bipush F dX5_readInside_43 (v := 97) (by decide) ?_
    refine r_isub F dX5_readInside_45 ?_
    refine r_ishl F dX5_readInside_46 ?_
    refine r_bi (fun x47 => ?_)
    refine r_istore_n (ls' := [(2, .int x47), (0, .ref (gA G 2)), (1, .int y1)]) F dX5_readInside_47 rfl (by decide) rfl ?_
    refine r_aload_n F 1 dX5_readInside_48 rfl rfl ?_
    refine gf_X5_36 F dX5_readInside_49 (rfl : kd 2 = 6) ?_
    refine r_if_ne (tgt := 65) F dX5_readInside_52 (by decide) (fun c2 => ?_) (fun c2 => ?_)
    · refine r_iload_n F 2 dX5_readInside_55 rfl rfl ?_
      refine r_bipush F dX5_readInside_56 (v := 108) (by decide) ?_
      refine r_icmp_ne (tgt := 65) F dX5_readInside_58 (by decide) (fun c3 => ?_) (fun c3 => ?_)
      · refine r_iconst F dX5_readInside_61 (v := 1) (by decide) ?_
        refine r_goto (tgt := 66) F dX5_readInside_62 (by decide) ?_
        refine r_sub [1, 0] rfl ?_
        exact l_X5_readInside_66 F   x47 (1 : Int32) M33
      · refine r_sub [1, 0] rfl ?_
        exact l_X5_readInside_65 F   x47 M33
    · refine r_sub [1, 0] rfl ?_
      exact l_X5_readInside_65 F   x47 M33

def f_X5_readInside (a1 : Int32) (M : Mem) : Option (Int32 × Mem) := if a1 = (41 : Int32) then (bn (f_J6_bitCount_0f7a4 (M.1 2 5) M) fun r10 M10 => if r10 < (2 : Int32) then (f_X5_readInside_32  a1 M10) else (bnd (mw M10 2 4 (0 : Int32)) fun M19 => bn (f_X5_endStep (M19.1 2 5) M19) fun _ M27 => some ((1 : Int32), M27))) else (f_X5_readInside_32  a1 M)

set_option maxRecDepth 100000 in
set_option maxHeartbeats 4000000 in
theorem b_X5_readInside {G : GM} {p : Program} {l : Launch} {e : Env} {s : State} {m : MethodId} {args : Array Value} {below : List Frame} {meth : Method} {c : Code} (F : Fx G p l s m args meth c cX5_readInside RX5 4 (some .boolean)) (a1 : Int32) (M : Mem) : Rf G p l e s m args below meth c 7 4 emI (f_X5_readInside a1 M) 0 [(0, .ref (gA G 2)), (1, .int a1)] [] M := by
  unfold f_X5_readInside
  refine r_iload_n F 1 dX5_readInside_0 rfl rfl ?_
  refine r_bipush F dX5_readInside_1 (v := 41) (by decide) ?_
  refine r_icmp_ne (tgt := 32) F dX5_readInside_3 (by decide) (fun c1 => ?_) (fun c1 => ?_)
  · refine r_aload_n F 0 dX5_readInside_6 rfl rfl ?_
    refine gf_X5_36 F dX5_readInside_7 (rfl : kd 2 = 6) ?_
    refine r_cS (val := vI) (As := [.int (M.1 2 5)]) (rest := []) (fun q9 => .int q9 :: []) F (c_J6_bitCount_0f7a4 F.st F.gg (M.1 2 5) M) (fun _ _ => rfl) dX5_readInside_10 ml_X5_46 ys_J6_bitCount_0f7a4 rfl (by decide) rfl (Nat.le_of_ble_eq_true rfl) (fun _ => rfl) (fun r10 M10 => ?_)
    refine r_iconst F dX5_readInside_13 (v := 2) (by decide) ?_
    refine r_icmp_lt (tgt := 32) F dX5_readInside_14 (by decide) (fun c2 => ?_) (fun c2 => ?_)
    · refine r_sub [0, 1] rfl ?_
      exact l_X5_readInside_32 F   a1 M10
    · refine r_aload_n F 0 dX5_readInside_17 rfl rfl ?_
      refine r_iconst F dX5_readInside_18 (v := 0) (by decide) ?_
      refine pf_X5_22 F dX5_readInside_19 (rfl : kd 2 = 6) rfl (fun M19 => ?_)
      refine r_aload_n F 0 dX5_readInside_22 rfl rfl ?_
      refine r_aload_n F 0 dX5_readInside_23 rfl rfl ?_
      refine gf_X5_36 F dX5_readInside_24 (rfl : kd 2 = 6) ?_
      refine r_cV (val := vU) (As := [.int (M19.1 2 5)]) (rest := []) (fun _ => []) F (c_X5_endStep F.st F.gg (M19.1 2 5) M19) (fun _ _ => rfl) dX5_readInside_27 ml_X5_42 yv_X5_endStep (rfl : kd 2 = 6) (by decide) rfl rfl (by decide) rfl (Nat.le_of_ble_eq_true rfl) (fun _ => rfl) (fun _ M27 => ?_)
      refine r_iconst F dX5_readInside_30 (v := 1) (by decide) ?_
      exact r_zret F rfl dX5_readInside_31 rfl (by decide)
  · refine r_sub [0, 1] rfl ?_
    exact l_X5_readInside_32 F   a1 M

set_option maxRecDepth 100000 in
set_option maxHeartbeats 4000000 in
theorem c_X5_readInside {l : Launch} {G : GM} (hl : l.stackTraces = false) (hG : GG G) (a1 : Int32) (M : Mem) : ∀ r, f_X5_readInside a1 M = some r → Ctr l G yX5_readInside (.code yX5_readInside cX5_readInside 4 (some .boolean) :: wsA) 7 [.ref (gA G 2), .int a1] M (emI r) :=
  ctr_of (by decide) hl hG (Nat.le_of_ble_eq_true rfl) (fun p e s m args below meth c F => b_X5_readInside F a1 M)

-- ===== X5_readOutside DrumTowns$TuneText.readOutside(I)Z =====
theorem yv_X5_readOutside : yV yX5_readOutside cX5_readOutside 2 (some .boolean) 1 := ⟨im_X5_readOutside, sl_X5_readOutside, ini_X5, cd_X5_readOutside, ⟨by decide, by decide, by decide +kernel⟩, by decide⟩

def f_X5_readOutside_59 (z1 : Int32) (M : Mem) : Option (Int32 × Mem) := bn (f_X5_endStep z1 M) fun _ M59 => some ((1 : Int32), M59)

set_option maxRecDepth 100000 in
set_option maxHeartbeats 4000000 in
theorem l_X5_readOutside_59 {G : GM} {p : Program} {l : Launch} {e : Env} {s : State} {m : MethodId} {args : Array Value} {below : List Frame} {meth : Method} {c : Code} (F : Fx G p l s m args meth c cX5_readOutside RX5 2 (some .boolean)) (z1 : Int32) (M : Mem) : Rf G p l e s m args below meth c 7 2 emI (f_X5_readOutside_59  z1 M) 59 [] [.int z1, .ref (gA G 2)] M := by
  unfold f_X5_readOutside_59
  refine r_cV (val := vU) (As := [.int z1]) (rest := []) (fun _ => []) F (c_X5_endStep F.st F.gg z1 M) (fun _ _ => rfl) dX5_readOutside_59 ml_X5_42 yv_X5_endStep (rfl : kd 2 = 6) (by decide) rfl rfl (by decide) rfl (Nat.le_of_ble_eq_true rfl) (fun _ => rfl) (fun _ M59 => ?_)
  refine r_iconst F dX5_readOutside_62 (v := 1) (by decide) ?_
  exact r_zret F rfl dX5_readOutside_63 rfl (by decide)

def f_X5_readOutside_42 (y1 : Int32) (M : Mem) : Option (Int32 × Mem) := if y1 = (45 : Int32) then (f_X5_readOutside_59  (0 : Int32) M) else (f_X5_readOutside_59  ((1 : Int32) <<< ((y1 - (97 : Int32)) &&& 31)) M)

set_option maxRecDepth 100000 in
set_option maxHeartbeats 4000000 in
theorem l_X5_readOutside_42 {G : GM} {p : Program} {l : Launch} {e : Env} {s : State} {m : MethodId} {args : Array Value} {below : List Frame} {meth : Method} {c : Code} (F : Fx G p l s m args meth c cX5_readOutside RX5 2 (some .boolean)) (y1 : Int32) (M : Mem) : Rf G p l e s m args below meth c 7 2 emI (f_X5_readOutside_42  y1 M) 42 [(0, .ref (gA G 2)), (1, .int y1)] [] M := by
  unfold f_X5_readOutside_42
  refine r_aload_n F 0 dX5_readOutside_42 rfl rfl ?_
  refine r_iload_n F 1 dX5_readOutside_43 rfl rfl ?_
  refine r_bipush F dX5_readOutside_44 (v := 45) (by decide) ?_
  refine r_icmp_ne (tgt := 53) F dX5_readOutside_46 (by decide) (fun c1 => ?_) (fun c1 => ?_)
  · refine r_iconst F dX5_readOutside_49 (v := 0) (by decide) ?_
    refine r_goto (tgt := 59) F dX5_readOutside_50 (by decide) ?_
    refine r_sub [] rfl ?_
    exact l_X5_readOutside_59 F   (0 : Int32) M
  · refine r_iconst F dX5_readOutside_53 (v := 1) (by decide) ?_
    refine r_iload_n F 1 dX5_readOutside_54 rfl rfl ?_
    refine r_bipush F dX5_readOutside_55 (v := 97) (by decide) ?_
    refine r_isub F dX5_readOutside_57 ?_
    refine r_ishl F dX5_readOutside_58 ?_
    refine r_sub [] rfl ?_
    exact l_X5_readOutside_59 F   ((1 : Int32) <<< ((y1 - (97 : Int32)) &&& 31)) M

def f_X5_readOutside (a1 : Int32) (M : Mem) : Option (Int32 × Mem) := if (M.1 2 3) < (24 : Int32) then (if a1 = (40 : Int32) then (bnd (mw M 2 4 (1 : Int32)) fun M19 => bnd (mw M19 2 5 (0 : Int32)) fun M24 => some ((1 : Int32), M24)) else (if a1 = (45 : Int32) then (f_X5_readOutside_42  a1 M) else (bn (f_X5_isTooth a1 M) fun r36 M36 => if r36 = 0 then (some ((0 : Int32), M36)) else (f_X5_readOutside_42  a1 M36)))) else (some ((0 : Int32), M))

set_option maxRecDepth 100000 in
set_option maxHeartbeats 4000000 in
theorem b_X5_readOutside {G : GM} {p : Program} {l : Launch} {e : Env} {s : State} {m : MethodId} {args : Array Value} {below : List Frame} {meth : Method} {c : Code} (F : Fx G p l s m args meth c cX5_readOutside RX5 2 (some .boolean)) (a1 : Int32) (M : Mem) : Rf G p l e s m args below meth c 7 2 emI (f_X5_readOutside a1 M) 0 [(0, .ref (gA G 2)), (1, .int a1)] [] M := by
  unfold f_X5_readOutside
  refine r_aload_n F 0 dX5_readOutside_0 rfl rfl ?_
  refine gf_X5_18 F dX5_readOutside_1 (rfl : kd 2 = 6) ?_
  refine r_bipush F dX5_readOutside_4 (v := 24) (by decide) ?_
  refine r_icmp_lt (tgt := 11) F dX5_readOutside_6 (by decide) (fun c1 => ?_) (fun c1 => ?_)
  · refine r_iload_n F 1 dX5_readOutside_11 rfl rfl ?_
    refine r_bipush F dX5_readOutside_12 (v := 40) (by decide) ?_
    refine r_icmp_ne (tgt := 29) F dX5_readOutside_14 (by decide) (fun c2 => ?_) (fun c2 => ?_)
    · refine r_aload_n F 0 dX5_readOutside_17 rfl rfl ?_
      refine r_iconst F dX5_readOutside_18 (v := 1) (by decide) ?_
      refine pf_X5_22 F dX5_readOutside_19 (rfl : kd 2 = 6) rfl (fun M19 => ?_)
      refine r_aload_n F 0 dX5_readOutside_22 rfl rfl ?_
      refine r_iconst F dX5_readOutside_23 (v := 0) (by decide) ?_
      refine pf_X5_36 F dX5_readOutside_24 (rfl : kd 2 = 6) (fun M24 => ?_)
      refine r_iconst F dX5_readOutside_27 (v := 1) (by decide) ?_
      exact r_zret F rfl dX5_readOutside_28 rfl (by decide)
    · refine r_iload_n F 1 dX5_readOutside_29 rfl rfl ?_
      refine r_bipush F dX5_readOutside_30 (v := 45) (by decide) ?_
      refine r_icmp_eq (tgt := 42) F dX5_readOutside_32 (by decide) (fun c3 => ?_) (fun c3 => ?_)
      · refine r_sub [0, 1] rfl ?_
        exact l_X5_readOutside_42 F   a1 M
      · refine r_iload_n F 1 dX5_readOutside_35 rfl rfl ?_
        refine r_cS (val := vI) (As := [.int a1]) (rest := []) (fun q9 => .int q9 :: []) F (c_X5_isTooth F.st F.gg a1 M) (fun _ _ => rfl) dX5_readOutside_36 ml_X5_39 ys_X5_isTooth rfl (by decide) rfl (Nat.le_of_ble_eq_true rfl) (fun _ => rfl) (fun r36 M36 => ?_)
        refine r_if_eq (tgt := 64) F dX5_readOutside_39 (by decide) (fun c4 => ?_) (fun c4 => ?_)
        · refine r_iconst F dX5_readOutside_64 (v := 0) (by decide) ?_
          exact r_zret F rfl dX5_readOutside_65 rfl (by decide)
        · refine r_sub [0, 1] rfl ?_
          exact l_X5_readOutside_42 F   a1 M36
  · refine r_iconst F dX5_readOutside_9 (v := 0) (by decide) ?_
    exact r_zret F rfl dX5_readOutside_10 rfl (by decide)

set_option maxRecDepth 100000 in
set_option maxHeartbeats 4000000 in
theorem c_X5_readOutside {l : Launch} {G : GM} (hl : l.stackTraces = false) (hG : GG G) (a1 : Int32) (M : Mem) : ∀ r, f_X5_readOutside a1 M = some r → Ctr l G yX5_readOutside (.code yX5_readOutside cX5_readOutside 2 (some .boolean) :: wsA) 7 [.ref (gA G 2), .int a1] M (emI r) :=
  ctr_of (by decide) hl hG (Nat.le_of_ble_eq_true rfl) (fun p e s m args below meth c F => b_X5_readOutside F a1 M)

-- ===== X5_readAll DrumTowns$TuneText.readAll()I =====
theorem yv_X5_readAll : yV yX5_readAll cX5_readAll 3 (some .int) 0 := ⟨im_X5_readAll, sl_X5_readAll, ini_X5, cd_X5_readAll, ⟨by decide, by decide, by decide +kernel⟩, by decide⟩

def f_X5_readAll_77 (k33 : Int32 → Mem → Option (Int32 × Mem)) (y1 : Int32) (z0 : Int32) (M : Mem) : Option (Int32 × Mem) := if z0 = 0 then (some (y1, M)) else (bnd (y1 + (1 : Int32)) fun x84 => k33 x84 M)

set_option maxRecDepth 100000 in
set_option maxHeartbeats 4000000 in
theorem l_X5_readAll_77 {G : GM} {p : Program} {l : Launch} {e : Env} {s : State} {m : MethodId} {args : Array Value} {below : List Frame} {meth : Method} {c : Code} (F : Fx G p l s m args meth c cX5_readAll RX5 3 (some .int)) (k33 : Int32 → Mem → Option (Int32 × Mem)) (H33 : ∀ (y1 : Int32) (M : Mem), Rf G p l e s m args below meth c 8 3 emI (k33 y1 M) 33 [(0, .ref (gA G 2)), (1, .int y1)] [] M) (y1 : Int32) (z0 : Int32) (M : Mem) : Rf G p l e s m args below meth c 8 3 emI (f_X5_readAll_77 k33 y1 z0 M) 77 [(0, .ref (gA G 2)), (1, .int y1)] [.int z0] M := by
  unfold f_X5_readAll_77
  refine r_istore_n (ls' := [(2, .int z0), (0, .ref (gA G 2)), (1, .int y1)]) F dX5_readAll_77 rfl (by decide) rfl ?_
  refine r_iload_n F 0 dX5_readAll_78 rfl rfl ?_
  refine r_if_ne (tgt := 84) F dX5_readAll_79 (by decide) (fun c1 => ?_) (fun c1 => ?_)
  · refine r_iload_n F 2 dX5_readAll_82 rfl rfl ?_
    exact r_iret F rfl dX5_readAll_83 rfl
  · refine r_iinc (ls' := fun q9 => [(1, .int q9), (2, .int z0), (0, .ref (gA G 2))]) (k := 2) (v := y1 + (1 : Int32)) F dX5_readAll_84 rfl rfl (by decide) (fun _ => rfl) (fun x84 => ?_)
    refine r_goto (tgt := 33) F dX5_readAll_87 (by decide) ?_
    refine r_sub [2, 0] rfl ?_
    exact H33 x84 M

def f_X5_readAll_90  (M : Mem) : Option (Int32 × Mem) := some ((M.1 2 1), M)

set_option maxRecDepth 100000 in
set_option maxHeartbeats 4000000 in
theorem l_X5_readAll_90 {G : GM} {p : Program} {l : Launch} {e : Env} {s : State} {m : MethodId} {args : Array Value} {below : List Frame} {meth : Method} {c : Code} (F : Fx G p l s m args meth c cX5_readAll RX5 3 (some .int))  (M : Mem) : Rf G p l e s m args below meth c 8 3 emI (f_X5_readAll_90   M) 90 [(0, .ref (gA G 2))] [] M := by
  unfold f_X5_readAll_90
  refine r_aload_n F 0 dX5_readAll_90 rfl rfl ?_
  refine gf_X5_26 F dX5_readAll_91 (rfl : kd 2 = 6) ?_
  exact r_iret F rfl dX5_readAll_94 rfl

def f_X5_readAll_33 : Nat → Int32 → Mem → Option (Int32 × Mem)
  | 0, _, _ => none
  | n + 1, y1, M => if (M.1 2 1) ≤ y1 then (f_X5_readAll_90   M) else (if (60 : Int32) ≤ y1 then (f_X5_readAll_90   M) else (if (M.1 2 4) = 0 then (chk (inb y1 60) <| bn (f_X5_readOutside (M.1 3 y1.toNatClampNeg) M) fun r74 M74 => f_X5_readAll_77 (f_X5_readAll_33  n) y1 r74 M74) else (chk (inb y1 60) <| bn (f_X5_readInside (M.1 3 y1.toNatClampNeg) M) fun r61 M61 => f_X5_readAll_77 (f_X5_readAll_33  n) y1 r61 M61)))

set_option maxRecDepth 100000 in
set_option maxHeartbeats 4000000 in
theorem l_X5_readAll_33 {G : GM} {p : Program} {l : Launch} {e : Env} {s : State} {m : MethodId} {args : Array Value} {below : List Frame} {meth : Method} {c : Code} (F : Fx G p l s m args meth c cX5_readAll RX5 3 (some .int)) : ∀ (n : Nat) (y1 : Int32) (M : Mem), Rf G p l e s m args below meth c 8 3 emI (f_X5_readAll_33  n y1 M) 33 [(0, .ref (gA G 2)), (1, .int y1)] [] M := by
  intro n
  induction n with
  | zero => intros; exact r_none
  | succ n ih =>
    intro y1 M
    rw [f_X5_readAll_33]
    refine r_iload_n F 1 dX5_readAll_33 rfl rfl ?_
    refine r_aload_n F 0 dX5_readAll_34 rfl rfl ?_
    refine gf_X5_26 F dX5_readAll_35 (rfl : kd 2 = 6) ?_
    refine r_icmp_ge (tgt := 90) F dX5_readAll_38 (by decide) (fun c1 => ?_) (fun c1 => ?_)
    · refine r_sub [0] rfl ?_
      exact l_X5_readAll_90 F    M
    · refine r_iload_n F 1 dX5_readAll_41 rfl rfl ?_
      refine r_bipush F dX5_readAll_42 (v := 60) (by decide) ?_
      refine r_icmp_ge (tgt := 90) F dX5_readAll_44 (by decide) (fun c2 => ?_) (fun c2 => ?_)
      · refine r_sub [0] rfl ?_
        exact l_X5_readAll_90 F    M
      · refine r_aload_n F 0 dX5_readAll_47 rfl rfl ?_
        refine gf_X5_22 F dX5_readAll_48 (rfl : kd 2 = 6) ?_
        refine r_if_eq (tgt := 67) F dX5_readAll_51 (by decide) (fun c3 => ?_) (fun c3 => ?_)
        · refine r_aload_n F 0 dX5_readAll_67 rfl rfl ?_
          refine r_aload_n F 0 dX5_readAll_68 rfl rfl ?_
          refine gf_X5_9 F dX5_readAll_69 (rfl : kd 2 = 6) ?_
          refine r_iload_n F 1 dX5_readAll_72 rfl rfl ?_
          refine r_chk (fun h4 => ?_)
          refine r_iald F dX5_readAll_73 (rfl : kd 3 = 8) (rfl : al 3 = 60) h4 ?_
          refine r_cV (val := vI) (As := [.int (M.1 3 y1.toNatClampNeg)]) (rest := []) (fun q9 => .int q9 :: []) F (c_X5_readOutside F.st F.gg (M.1 3 y1.toNatClampNeg) M) (fun _ _ => rfl) dX5_readAll_74 ml_X5_33 yv_X5_readOutside (rfl : kd 2 = 6) (by decide) rfl rfl (by decide) rfl (Nat.le_of_ble_eq_true rfl) (fun _ => rfl) (fun r74 M74 => ?_)
          refine r_sub [0, 1] rfl ?_
          exact l_X5_readAll_77 F (f_X5_readAll_33  n) (fun q0 M9 => ih q0 M9) y1 r74 M74
        · refine r_aload_n F 0 dX5_readAll_54 rfl rfl ?_
          refine r_aload_n F 0 dX5_readAll_55 rfl rfl ?_
          refine gf_X5_9 F dX5_readAll_56 (rfl : kd 2 = 6) ?_
          refine r_iload_n F 1 dX5_readAll_59 rfl rfl ?_
          refine r_chk (fun h5 => ?_)
          refine r_iald F dX5_readAll_60 (rfl : kd 3 = 8) (rfl : al 3 = 60) h5 ?_
          refine r_cV (val := vI) (As := [.int (M.1 3 y1.toNatClampNeg)]) (rest := []) (fun q9 => .int q9 :: []) F (c_X5_readInside F.st F.gg (M.1 3 y1.toNatClampNeg) M) (fun _ _ => rfl) dX5_readAll_61 ml_X5_29 yv_X5_readInside (rfl : kd 2 = 6) (by decide) rfl rfl (by decide) rfl (Nat.le_of_ble_eq_true rfl) (fun _ => rfl) (fun r61 M61 => ?_)
          refine r_goto (tgt := 77) F dX5_readAll_64 (by decide) ?_
          refine r_sub [0, 1] rfl ?_
          exact l_X5_readAll_77 F (f_X5_readAll_33  n) (fun q0 M9 => ih q0 M9) y1 r61 M61

def f_X5_readAll_2 : Nat → Int32 → Mem → Option (Int32 × Mem)
  | 0, _, _ => none
  | n + 1, y1, M => if (24 : Int32) ≤ y1 then (bnd (mw M 2 3 (0 : Int32)) fun M23 => bnd (mw M23 2 4 (0 : Int32)) fun M28 => f_X5_readAll_33  FU (0 : Int32) M28) else (chk (inb y1 24) <| bnd (mw M 4 y1.toNatClampNeg (0 : Int32)) fun M14 => bnd (y1 + (1 : Int32)) fun x15 => f_X5_readAll_2  n x15 M14)

set_option maxRecDepth 100000 in
set_option maxHeartbeats 4000000 in
theorem l_X5_readAll_2 {G : GM} {p : Program} {l : Launch} {e : Env} {s : State} {m : MethodId} {args : Array Value} {below : List Frame} {meth : Method} {c : Code} (F : Fx G p l s m args meth c cX5_readAll RX5 3 (some .int)) : ∀ (n : Nat) (y1 : Int32) (M : Mem), Rf G p l e s m args below meth c 8 3 emI (f_X5_readAll_2  n y1 M) 2 [(0, .ref (gA G 2)), (1, .int y1)] [] M := by
  intro n
  induction n with
  | zero => intros; exact r_none
  | succ n ih =>
    intro y1 M
    rw [f_X5_readAll_2]
    refine r_iload_n F 1 dX5_readAll_2 rfl rfl ?_
    refine r_bipush F dX5_readAll_3 (v := 24) (by decide) ?_
    refine r_icmp_ge (tgt := 21) F dX5_readAll_5 (by decide) (fun c1 => ?_) (fun c1 => ?_)
    · refine r_aload_n F 0 dX5_readAll_21 rfl rfl ?_
      refine r_iconst F dX5_readAll_22 (v := 0) (by decide) ?_
      refine pf_X5_18 F dX5_readAll_23 (rfl : kd 2 = 6) (fun M23 => ?_)
      refine r_aload_n F 0 dX5_readAll_26 rfl rfl ?_
      refine r_iconst F dX5_readAll_27 (v := 0) (by decide) ?_
      refine pf_X5_22 F dX5_readAll_28 (rfl : kd 2 = 6) rfl (fun M28 => ?_)
      refine r_iconst F dX5_readAll_31 (v := 0) (by decide) ?_
      refine r_istore_n (ls' := [(1, .int (0 : Int32)), (0, .ref (gA G 2))]) F dX5_readAll_32 rfl (by decide) rfl ?_
      refine r_sub [1, 0] rfl ?_
      exact l_X5_readAll_33 F   FU (0 : Int32) M28
    · refine r_aload_n F 0 dX5_readAll_8 rfl rfl ?_
      refine gf_X5_15 F dX5_readAll_9 (rfl : kd 2 = 6) ?_
      refine r_iload_n F 1 dX5_readAll_12 rfl rfl ?_
      refine r_iconst F dX5_readAll_13 (v := 0) (by decide) ?_
      refine r_chk (fun h2 => ?_)
      refine r_iast F dX5_readAll_14 (rfl : kd 4 = 8) (rfl : al 4 = 24) h2 (fun M14 => ?_)
      refine r_iinc (ls' := fun q9 => [(1, .int q9), (0, .ref (gA G 2))]) (k := 1) (v := y1 + (1 : Int32)) F dX5_readAll_15 rfl rfl (by decide) (fun _ => rfl) (fun x15 => ?_)
      refine r_goto (tgt := 2) F dX5_readAll_18 (by decide) ?_
      refine r_sub [1, 0] rfl ?_
      exact ih x15 M14

def f_X5_readAll  (M : Mem) : Option (Int32 × Mem) := f_X5_readAll_2  FU (0 : Int32) M

set_option maxRecDepth 100000 in
set_option maxHeartbeats 4000000 in
theorem b_X5_readAll {G : GM} {p : Program} {l : Launch} {e : Env} {s : State} {m : MethodId} {args : Array Value} {below : List Frame} {meth : Method} {c : Code} (F : Fx G p l s m args meth c cX5_readAll RX5 3 (some .int))  (M : Mem) : Rf G p l e s m args below meth c 8 3 emI (f_X5_readAll  M) 0 [(0, .ref (gA G 2))] [] M := by
  unfold f_X5_readAll
  refine r_iconst F dX5_readAll_0 (v := 0) (by decide) ?_
  refine r_istore_n (ls' := [(1, .int (0 : Int32)), (0, .ref (gA G 2))]) F dX5_readAll_1 rfl (by decide) rfl ?_
  refine r_sub [1, 0] rfl ?_
  exact l_X5_readAll_2 F   FU (0 : Int32) M

set_option maxRecDepth 100000 in
set_option maxHeartbeats 4000000 in
theorem c_X5_readAll {l : Launch} {G : GM} (hl : l.stackTraces = false) (hG : GG G)  (M : Mem) : ∀ r, f_X5_readAll  M = some r → Ctr l G yX5_readAll (.code yX5_readAll cX5_readAll 3 (some .int) :: wsA) 8 [.ref (gA G 2)] M (emI r) :=
  ctr_of (by decide) hl hG (Nat.le_of_ble_eq_true rfl) (fun p e s m args below meth c F => b_X5_readAll F  M)

-- ===== X6_addTown DrumTowns.addTown(I)I =====
theorem yv_X6_addTown : yV yX6_addTown cX6_addTown 3 (some .int) 1 := ⟨im_X6_addTown, sl_X6_addTown, ini_X6, cd_X6_addTown, ⟨by decide, by decide, by decide +kernel⟩, by decide⟩

def f_X6_addTown_11  (M : Mem) : Option ((Int32 ⊕ String) × Mem) := some (.inr exA, M)

set_option maxRecDepth 100000 in
set_option maxHeartbeats 4000000 in
theorem l_X6_addTown_11 {G : GM} {p : Program} {l : Launch} {e : Env} {s : State} {m : MethodId} {args : Array Value} {below : List Frame} {meth : Method} {c : Code} (F : Fx G p l s m args meth c cX6_addTown RX6 3 (some .int))  (M : Mem) : Rf G p l e s m args below meth c 10 3 (emT vI) (f_X6_addTown_11   M) 11 [] [] M := by
  unfold f_X6_addTown_11
  exact r_throw F atA cl_X6_52 ini_IllegalArgumentException (by decide : (54, "pins is out of range") ∈ strW) dX6_addTown_11 dX6_addTown_14 dX6_addTown_15 dX6_addTown_17 dX6_addTown_20 (by decide) (Nat.le_of_ble_eq_true rfl)

def f_X6_addTown (a1 : Int32) (M : Mem) : Option ((Int32 ⊕ String) × Mem) := if a1 < 0 then (f_X6_addTown_11   M) else (if a1 ≤ (200 : Int32) then (if (M.1 34 1) < (6 : Int32) then (chk (inb (2 : Int32) 3) <| if a1 ≤ (M.1 36 (2 : Int32).toNatClampNeg) then (bn (f_X6_saveState M) fun _ M67 => bnd (M67.1 34 1) fun x77 => chk (inb x77 6) <| bnd (tw 35 x77) fun b86 => bnd (mw M67 b86 0 a1) fun M88 => bnd (mw M88 34 1 (x77 + (1 : Int32))) fun M98 => some (.inl x77, M98)) else (some (.inr exS, M))) else (some (.inr exS, M))) else (f_X6_addTown_11   M))

set_option maxRecDepth 100000 in
set_option maxHeartbeats 4000000 in
theorem b_X6_addTown {G : GM} {p : Program} {l : Launch} {e : Env} {s : State} {m : MethodId} {args : Array Value} {below : List Frame} {meth : Method} {c : Code} (F : Fx G p l s m args meth c cX6_addTown RX6 3 (some .int)) (a1 : Int32) (M : Mem) : Rf G p l e s m args below meth c 10 3 (emT vI) (f_X6_addTown a1 M) 0 [(0, .ref (gA G 0)), (1, .int a1)] [] M := by
  unfold f_X6_addTown
  refine r_iload_n F 1 dX6_addTown_0 rfl rfl ?_
  refine r_if_lt (tgt := 11) F dX6_addTown_1 (by decide) (fun c1 => ?_) (fun c1 => ?_)
  · refine r_sub [] rfl ?_
    exact l_X6_addTown_11 F    M
  · refine r_iload_n F 1 dX6_addTown_4 rfl rfl ?_
    refine r_sipush F dX6_addTown_5 (v := 200) (by decide) ?_
    refine r_icmp_le (tgt := 21) F dX6_addTown_8 (by decide) (fun c2 => ?_) (fun c2 => ?_)
    · refine r_aload_n F 0 dX6_addTown_21 rfl rfl ?_
      refine gf_X6_10 F dX6_addTown_22 (rfl : kd 0 = 0) ?_
      refine gf_X6_59 F dX6_addTown_25 (rfl : kd 34 = 1) ?_
      refine r_bipush F dX6_addTown_28 (v := 6) (by decide) ?_
      refine r_icmp_lt (tgt := 43) F dX6_addTown_30 (by decide) (fun c3 => ?_) (fun c3 => ?_)
      · refine r_iload_n F 1 dX6_addTown_43 rfl rfl ?_
        refine r_aload_n F 0 dX6_addTown_44 rfl rfl ?_
        refine gf_X6_10 F dX6_addTown_45 (rfl : kd 0 = 0) ?_
        refine gf_X6_68 F dX6_addTown_48 (rfl : kd 34 = 1) ?_
        refine r_iconst F dX6_addTown_51 (v := 2) (by decide) ?_
        refine r_chk (fun h4 => ?_)
        refine r_iald F dX6_addTown_52 (rfl : kd 36 = 8) (rfl : al 36 = 3) h4 ?_
        refine r_icmp_le (tgt := 66) F dX6_addTown_53 (by decide) (fun c5 => ?_) (fun c5 => ?_)
        · refine r_aload_n F 0 dX6_addTown_66 rfl rfl ?_
          refine r_cV (val := vU) (As := []) (rest := []) (fun _ => []) F (c_X6_saveState F.st F.gg  M) (fun _ _ => rfl) dX6_addTown_67 ml_X6_73 yv_X6_saveState (rfl : kd 0 = 0) (by decide) rfl rfl (by decide) rfl (Nat.le_of_ble_eq_true rfl) (fun _ => rfl) (fun _ M67 => ?_)
          refine r_aload_n F 0 dX6_addTown_70 rfl rfl ?_
          refine gf_X6_10 F dX6_addTown_71 (rfl : kd 0 = 0) ?_
          refine gf_X6_59 F dX6_addTown_74 (rfl : kd 34 = 1) ?_
          refine r_bi (fun x77 => ?_)
          refine r_istore_n (ls' := [(2, .int x77), (0, .ref (gA G 0)), (1, .int a1)]) F dX6_addTown_77 rfl (by decide) rfl ?_
          refine r_aload_n F 1 dX6_addTown_78 rfl rfl ?_
          refine gf_X6_10 F dX6_addTown_79 (rfl : kd 0 = 0) ?_
          refine gf_X6_76 F dX6_addTown_82 (rfl : kd 34 = 1) ?_
          refine r_iload_n F 0 dX6_addTown_85 rfl rfl ?_
          refine r_chk (fun h6 => ?_)
          refine r_aaldT F dX6_addTown_86 (rfl : kd 35 = 9) h6 ?_
          refine r_br (kTw' (rfl : kd 35 = 9) h6) (fun b86 k86 => ?_)
          refine r_iload_n F 2 dX6_addTown_87 rfl rfl ?_
          refine pf_X6_80 F dX6_addTown_88 k86 (fun M88 => ?_)
          refine r_aload_n F 1 dX6_addTown_91 rfl rfl ?_
          refine gf_X6_10 F dX6_addTown_92 (rfl : kd 0 = 0) ?_
          refine r_iload_n F 0 dX6_addTown_95 rfl rfl ?_
          refine r_iconst F dX6_addTown_96 (v := 1) (by decide) ?_
          refine r_iadd F dX6_addTown_97 ?_
          refine pf_X6_59 F dX6_addTown_98 (rfl : kd 34 = 1) (fun M98 => ?_)
          refine r_iload_n F 0 dX6_addTown_101 rfl rfl ?_
          exact r_iret F rfl dX6_addTown_102 rfl
        · exact r_throw F atS cl_X6_63 ini_IllegalStateException (by decide : (71, "the box cannot hold so many pins") ∈ strW) dX6_addTown_56 dX6_addTown_59 dX6_addTown_60 dX6_addTown_62 dX6_addTown_65 (by decide) (Nat.le_of_ble_eq_true rfl)
      · exact r_throw F atS cl_X6_63 ini_IllegalStateException (by decide : (65, "there are 6 towns") ∈ strW) dX6_addTown_33 dX6_addTown_36 dX6_addTown_37 dX6_addTown_39 dX6_addTown_42 (by decide) (Nat.le_of_ble_eq_true rfl)
    · refine r_sub [] rfl ?_
      exact l_X6_addTown_11 F    M

set_option maxRecDepth 100000 in
set_option maxHeartbeats 4000000 in
theorem c_X6_addTown {l : Launch} {G : GM} (hl : l.stackTraces = false) (hG : GG G) (a1 : Int32) (M : Mem) : ∀ r, f_X6_addTown a1 M = some r → Ctr l G yX6_addTown (.code yX6_addTown cX6_addTown 3 (some .int) :: wsA) 10 [.ref (gA G 0), .int a1] M ((emT vI) r) :=
  ctr_of (by decide) hl hG (Nat.le_of_ble_eq_true rfl) (fun p e s m args below meth c F => b_X6_addTown F a1 M)

-- ===== X6_append DrumTowns.append(I)I =====
theorem yv_X6_append : yV yX6_append cX6_append 2 (some .int) 1 := ⟨im_X6_append, sl_X6_append, ini_X6, cd_X6_append, ⟨by decide, by decide, by decide +kernel⟩, by decide⟩

def f_X6_append_12  (M : Mem) : Option ((Int32 ⊕ String) × Mem) := some (.inr exA, M)

set_option maxRecDepth 100000 in
set_option maxHeartbeats 4000000 in
theorem l_X6_append_12 {G : GM} {p : Program} {l : Launch} {e : Env} {s : State} {m : MethodId} {args : Array Value} {below : List Frame} {meth : Method} {c : Code} (F : Fx G p l s m args meth c cX6_append RX6 2 (some .int))  (M : Mem) : Rf G p l e s m args below meth c 6 2 (emT vI) (f_X6_append_12   M) 12 [] [] M := by
  unfold f_X6_append_12
  exact r_throw F atA cl_X6_52 ini_IllegalArgumentException (by decide : (187, "code is not 33 to 126") ∈ strW) dX6_append_12 dX6_append_15 dX6_append_16 dX6_append_18 dX6_append_21 (by decide) (Nat.le_of_ble_eq_true rfl)

def f_X6_append (a1 : Int32) (M : Mem) : Option ((Int32 ⊕ String) × Mem) := if a1 < (33 : Int32) then (f_X6_append_12   M) else (if a1 ≤ (126 : Int32) then (if (M.1 2 1) < (60 : Int32) then (chk (inb (M.1 2 1) 60) <| bnd (mw M 3 (M.1 2 1).toNatClampNeg a1) fun M59 => bnd (mw M59 2 1 ((M59.1 2 1) + (1 : Int32))) fun M70 => some (.inl (M70.1 2 1), M70)) else (some (.inr exS, M))) else (f_X6_append_12   M))

set_option maxRecDepth 100000 in
set_option maxHeartbeats 4000000 in
theorem b_X6_append {G : GM} {p : Program} {l : Launch} {e : Env} {s : State} {m : MethodId} {args : Array Value} {below : List Frame} {meth : Method} {c : Code} (F : Fx G p l s m args meth c cX6_append RX6 2 (some .int)) (a1 : Int32) (M : Mem) : Rf G p l e s m args below meth c 6 2 (emT vI) (f_X6_append a1 M) 0 [(0, .ref (gA G 0)), (1, .int a1)] [] M := by
  unfold f_X6_append
  refine r_iload_n F 1 dX6_append_0 rfl rfl ?_
  refine r_bipush F dX6_append_1 (v := 33) (by decide) ?_
  refine r_icmp_lt (tgt := 12) F dX6_append_3 (by decide) (fun c1 => ?_) (fun c1 => ?_)
  · refine r_sub [] rfl ?_
    exact l_X6_append_12 F    M
  · refine r_iload_n F 1 dX6_append_6 rfl rfl ?_
    refine r_bipush F dX6_append_7 (v := 126) (by decide) ?_
    refine r_icmp_le (tgt := 22) F dX6_append_9 (by decide) (fun c2 => ?_) (fun c2 => ?_)
    · refine r_aload_n F 0 dX6_append_22 rfl rfl ?_
      refine gf_X6_23 F dX6_append_23 (rfl : kd 0 = 0) ?_
      refine gf_X6_189 F dX6_append_26 (rfl : kd 2 = 6) ?_
      refine r_bipush F dX6_append_29 (v := 60) (by decide) ?_
      refine r_icmp_lt (tgt := 44) F dX6_append_31 (by decide) (fun c3 => ?_) (fun c3 => ?_)
      · refine r_aload_n F 0 dX6_append_44 rfl rfl ?_
        refine gf_X6_23 F dX6_append_45 (rfl : kd 0 = 0) ?_
        refine gf_X6_192 F dX6_append_48 (rfl : kd 2 = 6) ?_
        refine r_aload_n F 0 dX6_append_51 rfl rfl ?_
        refine gf_X6_23 F dX6_append_52 (rfl : kd 0 = 0) ?_
        refine gf_X6_189 F dX6_append_55 (rfl : kd 2 = 6) ?_
        refine r_iload_n F 1 dX6_append_58 rfl rfl ?_
        refine r_chk (fun h4 => ?_)
        refine r_iast F dX6_append_59 (rfl : kd 3 = 8) (rfl : al 3 = 60) h4 (fun M59 => ?_)
        refine r_aload_n F 0 dX6_append_60 rfl rfl ?_
        refine gf_X6_23 F dX6_append_61 (rfl : kd 0 = 0) ?_
        refine r_dup F dX6_append_64 rfl ?_
        refine gf_X6_189 F dX6_append_65 (rfl : kd 2 = 6) ?_
        refine r_iconst F dX6_append_68 (v := 1) (by decide) ?_
        refine r_iadd F dX6_append_69 ?_
        refine pf_X6_189 F dX6_append_70 (rfl : kd 2 = 6) (fun M70 => ?_)
        refine r_aload_n F 0 dX6_append_73 rfl rfl ?_
        refine gf_X6_23 F dX6_append_74 (rfl : kd 0 = 0) ?_
        refine gf_X6_189 F dX6_append_77 (rfl : kd 2 = 6) ?_
        exact r_iret F rfl dX6_append_80 rfl
      · exact r_throw F atS cl_X6_63 ini_IllegalStateException (by decide : (190, "the buffer is full") ∈ strW) dX6_append_34 dX6_append_37 dX6_append_38 dX6_append_40 dX6_append_43 (by decide) (Nat.le_of_ble_eq_true rfl)
    · refine r_sub [] rfl ?_
      exact l_X6_append_12 F    M

set_option maxRecDepth 100000 in
set_option maxHeartbeats 4000000 in
theorem c_X6_append {l : Launch} {G : GM} (hl : l.stackTraces = false) (hG : GG G) (a1 : Int32) (M : Mem) : ∀ r, f_X6_append a1 M = some r → Ctr l G yX6_append (.code yX6_append cX6_append 2 (some .int) :: wsA) 6 [.ref (gA G 0), .int a1] M ((emT vI) r) :=
  ctr_of (by decide) hl hG (Nat.le_of_ble_eq_true rfl) (fun p e s m args below meth c F => b_X6_append F a1 M)

-- ===== X6_checkBoxes DrumTowns.checkBoxes(III)V =====
theorem yv_X6_checkBoxes : yV yX6_checkBoxes cX6_checkBoxes 4 none 3 := ⟨im_X6_checkBoxes, sl_X6_checkBoxes, ini_X6, cd_X6_checkBoxes, ⟨by decide, by decide, by decide +kernel⟩, by decide⟩

def f_X6_checkBoxes (a1 : Int32) (a2 : Int32) (a3 : Int32) (M : Mem) : Option ((Unit ⊕ String) × Mem) := chk (inb a1 6) <| bnd (tw 35 a1) fun b8 => if a3 ≤ (M.1 b8 0) then (chk (inb a2 6) <| bnd (tw 35 a2) fun b35 => chk (inb (2 : Int32) 3) <| if ((M.1 b35 0) + a3) ≤ (M.1 36 (2 : Int32).toNatClampNeg) then (some (.inl (), M)) else (some (.inr exS, M))) else (some (.inr exS, M))

set_option maxRecDepth 100000 in
set_option maxHeartbeats 4000000 in
theorem b_X6_checkBoxes {G : GM} {p : Program} {l : Launch} {e : Env} {s : State} {m : MethodId} {args : Array Value} {below : List Frame} {meth : Method} {c : Code} (F : Fx G p l s m args meth c cX6_checkBoxes RX6 4 none) (a1 : Int32) (a2 : Int32) (a3 : Int32) (M : Mem) : Rf G p l e s m args below meth c 6 4 (emT vU) (f_X6_checkBoxes a1 a2 a3 M) 0 [(0, .ref (gA G 0)), (1, .int a1), (2, .int a2), (3, .int a3)] [] M := by
  unfold f_X6_checkBoxes
  refine r_aload_n F 0 dX6_checkBoxes_0 rfl rfl ?_
  refine gf_X6_10 F dX6_checkBoxes_1 (rfl : kd 0 = 0) ?_
  refine gf_X6_76 F dX6_checkBoxes_4 (rfl : kd 34 = 1) ?_
  refine r_iload_n F 1 dX6_checkBoxes_7 rfl rfl ?_
  refine r_chk (fun h1 => ?_)
  refine r_aaldT F dX6_checkBoxes_8 (rfl : kd 35 = 9) h1 ?_
  refine r_br (kTw' (rfl : kd 35 = 9) h1) (fun b8 k8 => ?_)
  refine gf_X6_80 F dX6_checkBoxes_9 k8 ?_
  refine r_iload_n F 3 dX6_checkBoxes_12 rfl rfl ?_
  refine r_icmp_ge (tgt := 27) F dX6_checkBoxes_13 (by decide) (fun c2 => ?_) (fun c2 => ?_)
  · refine r_aload_n F 0 dX6_checkBoxes_27 rfl rfl ?_
    refine gf_X6_10 F dX6_checkBoxes_28 (rfl : kd 0 = 0) ?_
    refine gf_X6_76 F dX6_checkBoxes_31 (rfl : kd 34 = 1) ?_
    refine r_iload_n F 2 dX6_checkBoxes_34 rfl rfl ?_
    refine r_chk (fun h3 => ?_)
    refine r_aaldT F dX6_checkBoxes_35 (rfl : kd 35 = 9) h3 ?_
    refine r_br (kTw' (rfl : kd 35 = 9) h3) (fun b35 k35 => ?_)
    refine gf_X6_80 F dX6_checkBoxes_36 k35 ?_
    refine r_iload_n F 3 dX6_checkBoxes_39 rfl rfl ?_
    refine r_iadd F dX6_checkBoxes_40 ?_
    refine r_aload_n F 0 dX6_checkBoxes_41 rfl rfl ?_
    refine gf_X6_10 F dX6_checkBoxes_42 (rfl : kd 0 = 0) ?_
    refine gf_X6_68 F dX6_checkBoxes_45 (rfl : kd 34 = 1) ?_
    refine r_iconst F dX6_checkBoxes_48 (v := 2) (by decide) ?_
    refine r_chk (fun h4 => ?_)
    refine r_iald F dX6_checkBoxes_49 (rfl : kd 36 = 8) (rfl : al 36 = 3) h4 ?_
    refine r_icmp_le (tgt := 64) F dX6_checkBoxes_50 (by decide) (fun c5 => ?_) (fun c5 => ?_)
    · exact r_vret F rfl dX6_checkBoxes_64 rfl
    · exact r_throwW F atS cl_X6_63 ini_IllegalStateException (by decide : (370, "the other box cannot hold so many pins") ∈ strW) dX6_checkBoxes_53 dX6_checkBoxes_56 dX6_checkBoxes_57 dX6_checkBoxes_60 dX6_checkBoxes_63 (by decide) (Nat.le_of_ble_eq_true rfl)
  · exact r_throwW F atS cl_X6_63 ini_IllegalStateException (by decide : (368, "the box has fewer pins") ∈ strW) dX6_checkBoxes_16 dX6_checkBoxes_19 dX6_checkBoxes_20 dX6_checkBoxes_23 dX6_checkBoxes_26 (by decide) (Nat.le_of_ble_eq_true rfl)

set_option maxRecDepth 100000 in
set_option maxHeartbeats 4000000 in
theorem c_X6_checkBoxes {l : Launch} {G : GM} (hl : l.stackTraces = false) (hG : GG G) (a1 : Int32) (a2 : Int32) (a3 : Int32) (M : Mem) : ∀ r, f_X6_checkBoxes a1 a2 a3 M = some r → Ctr l G yX6_checkBoxes (.code yX6_checkBoxes cX6_checkBoxes 4 none :: wsA) 6 [.ref (gA G 0), .int a1, .int a2, .int a3] M ((emT vU) r) :=
  ctr_of (by decide) hl hG (Nat.le_of_ble_eq_true rfl) (fun p e s m args below meth c F => b_X6_checkBoxes F a1 a2 a3 M)

-- ===== X6_checkGiven DrumTowns.checkGiven(I)V =====
theorem ys_X6_checkGiven : yS yX6_checkGiven cX6_checkGiven 1 none 1 := ⟨sc_X6_checkGiven, ini_X6, cd_X6_checkGiven, ⟨by decide, by decide, by decide +kernel⟩, by decide⟩

def f_X6_checkGiven_12  (M : Mem) : Option ((Unit ⊕ String) × Mem) := some (.inr exA, M)

set_option maxRecDepth 100000 in
set_option maxHeartbeats 4000000 in
theorem l_X6_checkGiven_12 {G : GM} {p : Program} {l : Launch} {e : Env} {s : State} {m : MethodId} {args : Array Value} {below : List Frame} {meth : Method} {c : Code} (F : Fx G p l s m args meth c cX6_checkGiven RX6 1 none)  (M : Mem) : Rf G p l e s m args below meth c 6 1 (emT vU) (f_X6_checkGiven_12   M) 12 [] [] M := by
  unfold f_X6_checkGiven_12
  exact r_throw F atA cl_X6_52 ini_IllegalArgumentException (by decide : (54, "pins is out of range") ∈ strW) dX6_checkGiven_12 dX6_checkGiven_15 dX6_checkGiven_16 dX6_checkGiven_18 dX6_checkGiven_21 (by decide) (Nat.le_of_ble_eq_true rfl)

def f_X6_checkGiven (a0 : Int32) (M : Mem) : Option ((Unit ⊕ String) × Mem) := if a0 < (1 : Int32) then (f_X6_checkGiven_12   M) else (if a0 ≤ (200 : Int32) then (some (.inl (), M)) else (f_X6_checkGiven_12   M))

set_option maxRecDepth 100000 in
set_option maxHeartbeats 4000000 in
theorem b_X6_checkGiven {G : GM} {p : Program} {l : Launch} {e : Env} {s : State} {m : MethodId} {args : Array Value} {below : List Frame} {meth : Method} {c : Code} (F : Fx G p l s m args meth c cX6_checkGiven RX6 1 none) (a0 : Int32) (M : Mem) : Rf G p l e s m args below meth c 6 1 (emT vU) (f_X6_checkGiven a0 M) 0 [(0, .int a0)] [] M := by
  unfold f_X6_checkGiven
  refine r_iload_n F 0 dX6_checkGiven_0 rfl rfl ?_
  refine r_iconst F dX6_checkGiven_1 (v := 1) (by decide) ?_
  refine r_icmp_lt (tgt := 12) F dX6_checkGiven_2 (by decide) (fun c1 => ?_) (fun c1 => ?_)
  · refine r_sub [] rfl ?_
    exact l_X6_checkGiven_12 F    M
  · refine r_iload_n F 0 dX6_checkGiven_5 rfl rfl ?_
    refine r_sipush F dX6_checkGiven_6 (v := 200) (by decide) ?_
    refine r_icmp_le (tgt := 22) F dX6_checkGiven_9 (by decide) (fun c2 => ?_) (fun c2 => ?_)
    · exact r_vret F rfl dX6_checkGiven_22 rfl
    · refine r_sub [] rfl ?_
      exact l_X6_checkGiven_12 F    M

set_option maxRecDepth 100000 in
set_option maxHeartbeats 4000000 in
theorem c_X6_checkGiven {l : Launch} {G : GM} (hl : l.stackTraces = false) (hG : GG G) (a0 : Int32) (M : Mem) : ∀ r, f_X6_checkGiven a0 M = some r → Ctr l G yX6_checkGiven (.code yX6_checkGiven cX6_checkGiven 1 none :: wsA) 6 [.int a0] M ((emT vU) r) :=
  ctr_of (by decide) hl hG (Nat.le_of_ble_eq_true rfl) (fun p e s m args below meth c F => b_X6_checkGiven F a0 M)

-- ===== X6_checkTooth DrumTowns.checkTooth(I)V =====
theorem ys_X6_checkTooth : yS yX6_checkTooth cX6_checkTooth 1 none 1 := ⟨sc_X6_checkTooth, ini_X6, cd_X6_checkTooth, ⟨by decide, by decide, by decide +kernel⟩, by decide⟩

def f_X6_checkTooth_10  (M : Mem) : Option ((Unit ⊕ String) × Mem) := some (.inr exI, M)

set_option maxRecDepth 100000 in
set_option maxHeartbeats 4000000 in
theorem l_X6_checkTooth_10 {G : GM} {p : Program} {l : Launch} {e : Env} {s : State} {m : MethodId} {args : Array Value} {below : List Frame} {meth : Method} {c : Code} (F : Fx G p l s m args meth c cX6_checkTooth RX6 1 none)  (M : Mem) : Rf G p l e s m args below meth c 6 1 (emT vU) (f_X6_checkTooth_10   M) 10 [] [] M := by
  unfold f_X6_checkTooth_10
  exact r_throwW F atI cl_X6_355 ini_IndexOutOfBoundsException (by decide : (362, "there is no such tooth") ∈ strW) dX6_checkTooth_10 dX6_checkTooth_13 dX6_checkTooth_14 dX6_checkTooth_17 dX6_checkTooth_20 (by decide) (Nat.le_of_ble_eq_true rfl)

def f_X6_checkTooth (a0 : Int32) (M : Mem) : Option ((Unit ⊕ String) × Mem) := if a0 < 0 then (f_X6_checkTooth_10   M) else (if a0 < (12 : Int32) then (some (.inl (), M)) else (f_X6_checkTooth_10   M))

set_option maxRecDepth 100000 in
set_option maxHeartbeats 4000000 in
theorem b_X6_checkTooth {G : GM} {p : Program} {l : Launch} {e : Env} {s : State} {m : MethodId} {args : Array Value} {below : List Frame} {meth : Method} {c : Code} (F : Fx G p l s m args meth c cX6_checkTooth RX6 1 none) (a0 : Int32) (M : Mem) : Rf G p l e s m args below meth c 6 1 (emT vU) (f_X6_checkTooth a0 M) 0 [(0, .int a0)] [] M := by
  unfold f_X6_checkTooth
  refine r_iload_n F 0 dX6_checkTooth_0 rfl rfl ?_
  refine r_if_lt (tgt := 10) F dX6_checkTooth_1 (by decide) (fun c1 => ?_) (fun c1 => ?_)
  · refine r_sub [] rfl ?_
    exact l_X6_checkTooth_10 F    M
  · refine r_iload_n F 0 dX6_checkTooth_4 rfl rfl ?_
    refine r_bipush F dX6_checkTooth_5 (v := 12) (by decide) ?_
    refine r_icmp_lt (tgt := 21) F dX6_checkTooth_7 (by decide) (fun c2 => ?_) (fun c2 => ?_)
    · exact r_vret F rfl dX6_checkTooth_21 rfl
    · refine r_sub [] rfl ?_
      exact l_X6_checkTooth_10 F    M

set_option maxRecDepth 100000 in
set_option maxHeartbeats 4000000 in
theorem c_X6_checkTooth {l : Launch} {G : GM} (hl : l.stackTraces = false) (hG : GG G) (a0 : Int32) (M : Mem) : ∀ r, f_X6_checkTooth a0 M = some r → Ctr l G yX6_checkTooth (.code yX6_checkTooth cX6_checkTooth 1 none :: wsA) 6 [.int a0] M ((emT vU) r) :=
  ctr_of (by decide) hl hG (Nat.le_of_ble_eq_true rfl) (fun p e s m args below meth c F => b_X6_checkTooth F a0 M)

-- ===== X6_checkPlace DrumTowns.checkPlace(III)V =====
theorem yv_X6_checkPlace : yV yX6_checkPlace cX6_checkPlace 4 none 3 := ⟨im_X6_checkPlace, sl_X6_checkPlace, ini_X6, cd_X6_checkPlace, ⟨by decide, by decide, by decide +kernel⟩, by decide⟩

def f_X6_checkPlace (a1 : Int32) (a2 : Int32) (a3 : Int32) (M : Mem) : Option ((Unit ⊕ String) × Mem) := bt (f_X6_checkTown a1 M) fun _ M2 => bt (f_X6_checkStep a2 M2) fun _ M6 => bt (f_X6_checkTooth a3 M6) fun _ M10 => some (.inl (), M10)

set_option maxRecDepth 100000 in
set_option maxHeartbeats 4000000 in
theorem b_X6_checkPlace {G : GM} {p : Program} {l : Launch} {e : Env} {s : State} {m : MethodId} {args : Array Value} {below : List Frame} {meth : Method} {c : Code} (F : Fx G p l s m args meth c cX6_checkPlace RX6 4 none) (a1 : Int32) (a2 : Int32) (a3 : Int32) (M : Mem) : Rf G p l e s m args below meth c 7 4 (emT vU) (f_X6_checkPlace a1 a2 a3 M) 0 [(0, .ref (gA G 0)), (1, .int a1), (2, .int a2), (3, .int a3)] [] M := by
  unfold f_X6_checkPlace
  refine r_aload_n F 0 dX6_checkPlace_0 rfl rfl ?_
  refine r_iload_n F 1 dX6_checkPlace_1 rfl rfl ?_
  refine r_tV (val := vU) (As := [.int a1]) (rest := []) (fun _ => []) F (c_X6_checkTown F.st F.gg a1 M) dX6_checkPlace_2 ml_X6_120 yv_X6_checkTown (rfl : kd 0 = 0) (by decide) rfl rfl (by decide) rfl (Nat.le_of_ble_eq_true rfl) (fun _ => rfl) (fun _ M2 => ?_)
  refine r_iload_n F 2 dX6_checkPlace_5 rfl rfl ?_
  refine r_tS (val := vU) (As := [.int a2]) (rest := []) (fun _ => []) F (c_X6_checkStep F.st F.gg a2 M2) dX6_checkPlace_6 ml_X6_236 ys_X6_checkStep rfl (by decide) rfl (Nat.le_of_ble_eq_true rfl) (fun _ => rfl) (fun _ M6 => ?_)
  refine r_iload_n F 3 dX6_checkPlace_9 rfl rfl ?_
  refine r_tS (val := vU) (As := [.int a3]) (rest := []) (fun _ => []) F (c_X6_checkTooth F.st F.gg a3 M6) dX6_checkPlace_10 ml_X6_139 ys_X6_checkTooth rfl (by decide) rfl (Nat.le_of_ble_eq_true rfl) (fun _ => rfl) (fun _ M10 => ?_)
  exact r_vret F rfl dX6_checkPlace_13 rfl

set_option maxRecDepth 100000 in
set_option maxHeartbeats 4000000 in
theorem c_X6_checkPlace {l : Launch} {G : GM} (hl : l.stackTraces = false) (hG : GG G) (a1 : Int32) (a2 : Int32) (a3 : Int32) (M : Mem) : ∀ r, f_X6_checkPlace a1 a2 a3 M = some r → Ctr l G yX6_checkPlace (.code yX6_checkPlace cX6_checkPlace 4 none :: wsA) 7 [.ref (gA G 0), .int a1, .int a2, .int a3] M ((emT vU) r) :=
  ctr_of (by decide) hl hG (Nat.le_of_ble_eq_true rfl) (fun p e s m args below meth c F => b_X6_checkPlace F a1 a2 a3 M)

