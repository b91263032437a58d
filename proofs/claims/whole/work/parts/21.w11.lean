-- ===== X7_bestTrades DrumTownsModel.bestTrades(I)I =====
theorem yv_X7_bestTrades : yV yX7_bestTrades cX7_bestTrades 2 (some .int) 1 := ⟨im_X7_bestTrades, sl_X7_bestTrades, ini_X7, cd_X7_bestTrades, ⟨by decide, by decide, by decide +kernel⟩, by decide⟩

def f_X7_bestTrades_40 (z0 : Int32) (M : Mem) : Option (Int32 × Mem) := some (z0, M)

set_option maxRecDepth 100000 in
set_option maxHeartbeats 4000000 in
theorem l_X7_bestTrades_40 {G : GM} {p : Program} {l : Launch} {e : Env} {s : State} {m : MethodId} {args : Array Value} {below : List Frame} {meth : Method} {c : Code} (F : Fx G p l s m args meth c cX7_bestTrades RX7 2 (some .int)) (z0 : Int32) (M : Mem) : Rf G p l e s m args below meth c 9 2 emI (f_X7_bestTrades_40  z0 M) 40 [] [.int z0] M := by
  unfold f_X7_bestTrades_40
  exact r_iret F rfl dX7_bestTrades_40 rfl

def f_X7_bestTrades_21 (y1 : Int32) (z1 : Int32) (M : Mem) : Option (Int32 × Mem) := bnd (mw M 24 2 z1) fun M21 => if (M21.1 24 2) = 0 then (bn (f_X7_bestTradesOf y1 M21) fun r33 M33 => f_X7_bestTrades_40  r33 M33) else (f_X7_bestTrades_40  (0 : Int32) M21)

set_option maxRecDepth 100000 in
set_option maxHeartbeats 4000000 in
theorem l_X7_bestTrades_21 {G : GM} {p : Program} {l : Launch} {e : Env} {s : State} {m : MethodId} {args : Array Value} {below : List Frame} {meth : Method} {c : Code} (F : Fx G p l s m args meth c cX7_bestTrades RX7 2 (some .int)) (y1 : Int32) (z1 : Int32) (M : Mem) : Rf G p l e s m args below meth c 9 2 emI (f_X7_bestTrades_21  y1 z1 M) 21 [(0, .ref (gA G 24)), (1, .int y1)] [.int z1, .ref (gA G 24)] M := by
  unfold f_X7_bestTrades_21
  refine pf_X7_37 F dX7_bestTrades_21 (rfl : kd 24 = 7) (fun M21 => ?_)
  refine r_aload_n F 0 dX7_bestTrades_24 rfl rfl ?_
  refine gf_X7_37 F dX7_bestTrades_25 (rfl : kd 24 = 7) ?_
  refine r_if_ne (tgt := 39) F dX7_bestTrades_28 (by decide) (fun c1 => ?_) (fun c1 => ?_)
  · refine r_aload_n F 0 dX7_bestTrades_31 rfl rfl ?_
    refine r_iload_n F 1 dX7_bestTrades_32 rfl rfl ?_
    refine r_cV (val := vI) (As := [.int y1]) (rest := []) (fun q9 => .int q9 :: []) F (c_X7_bestTradesOf F.st F.gg y1 M21) (fun _ _ => rfl) dX7_bestTrades_33 ml_X7_205 yv_X7_bestTradesOf (rfl : kd 24 = 7) (by decide) rfl rfl (by decide) rfl (Nat.le_of_ble_eq_true rfl) (fun _ => rfl) (fun r33 M33 => ?_)
    refine r_goto (tgt := 40) F dX7_bestTrades_36 (by decide) ?_
    refine r_sub [] rfl ?_
    exact l_X7_bestTrades_40 F   r33 M33
  · refine r_iconst F dX7_bestTrades_39 (v := 0) (by decide) ?_
    refine r_sub [] rfl ?_
    exact l_X7_bestTrades_40 F   (0 : Int32) M21

def f_X7_bestTrades_16 (y1 : Int32) (M : Mem) : Option (Int32 × Mem) := f_X7_bestTrades_21  y1 (0 : Int32) M

set_option maxRecDepth 100000 in
set_option maxHeartbeats 4000000 in
theorem l_X7_bestTrades_16 {G : GM} {p : Program} {l : Launch} {e : Env} {s : State} {m : MethodId} {args : Array Value} {below : List Frame} {meth : Method} {c : Code} (F : Fx G p l s m args meth c cX7_bestTrades RX7 2 (some .int)) (y1 : Int32) (M : Mem) : Rf G p l e s m args below meth c 9 2 emI (f_X7_bestTrades_16  y1 M) 16 [(0, .ref (gA G 24)), (1, .int y1)] [.ref (gA G 24)] M := by
  unfold f_X7_bestTrades_16
  refine r_iconst F dX7_bestTrades_16 (v := 0) (by decide) ?_
  refine r_goto (tgt := 21) F dX7_bestTrades_17 (by decide) ?_
  refine r_sub [0, 1] rfl ?_
  exact l_X7_bestTrades_21 F   y1 (0 : Int32) M

def f_X7_bestTrades (a1 : Int32) (M : Mem) : Option (Int32 × Mem) := if a1 = 0 then (f_X7_bestTrades_16  a1 M) else (bn (f_X7_in a1 (10 : Int32) (15 : Int32) M) fun r10 M10 => if r10 = 0 then (f_X7_bestTrades_21  a1 (1 : Int32) M10) else (f_X7_bestTrades_16  a1 M10))

set_option maxRecDepth 100000 in
set_option maxHeartbeats 4000000 in
theorem b_X7_bestTrades {G : GM} {p : Program} {l : Launch} {e : Env} {s : State} {m : MethodId} {args : Array Value} {below : List Frame} {meth : Method} {c : Code} (F : Fx G p l s m args meth c cX7_bestTrades RX7 2 (some .int)) (a1 : Int32) (M : Mem) : Rf G p l e s m args below meth c 9 2 emI (f_X7_bestTrades a1 M) 0 [(0, .ref (gA G 24)), (1, .int a1)] [] M := by
  unfold f_X7_bestTrades
  refine r_aload_n F 0 dX7_bestTrades_0 rfl rfl ?_
  refine r_iload_n F 1 dX7_bestTrades_1 rfl rfl ?_
  refine r_if_eq (tgt := 16) F dX7_bestTrades_2 (by decide) (fun c1 => ?_) (fun c1 => ?_)
  · refine r_sub [0, 1] rfl ?_
    exact l_X7_bestTrades_16 F   a1 M
  · refine r_iload_n F 1 dX7_bestTrades_5 rfl rfl ?_
    refine r_bipush F dX7_bestTrades_6 (v := 10) (by decide) ?_
    refine r_bipush F dX7_bestTrades_8 (v := 15) (by decide) ?_
    refine r_cS (val := vI) (As := [.int a1, .int (10 : Int32), .int (15 : Int32)]) (rest := [.ref (gA G 24)]) (fun q9 => .int q9 :: [.ref (gA G 24)]) F (c_X7_in F.st F.gg a1 (10 : Int32) (15 : Int32) M) (fun _ _ => rfl) dX7_bestTrades_10 ml_X7_41 ys_X7_in rfl (by decide) rfl (Nat.le_of_ble_eq_true rfl) (fun _ => rfl) (fun r10 M10 => ?_)
    refine r_if_eq (tgt := 20) F dX7_bestTrades_13 (by decide) (fun c2 => ?_) (fun c2 => ?_)
    · refine r_iconst F dX7_bestTrades_20 (v := 1) (by decide) ?_
      refine r_sub [0, 1] rfl ?_
      exact l_X7_bestTrades_21 F   a1 (1 : Int32) M10
    · refine r_sub [0, 1] rfl ?_
      exact l_X7_bestTrades_16 F   a1 M10

set_option maxRecDepth 100000 in
set_option maxHeartbeats 4000000 in
theorem c_X7_bestTrades {l : Launch} {G : GM} (hl : l.stackTraces = false) (hG : GG G) (a1 : Int32) (M : Mem) : ∀ r, f_X7_bestTrades a1 M = some r → Ctr l G yX7_bestTrades (.code yX7_bestTrades cX7_bestTrades 2 (some .int) :: wsA) 9 [.ref (gA G 24), .int a1] M (emI r) :=
  ctr_of (by decide) hl hG (Nat.le_of_ble_eq_true rfl) (fun p e s m args below meth c F => b_X7_bestTrades F a1 M)

-- ===== X7_bestTurn DrumTownsModel.bestTurn(II)I =====
theorem yv_X7_bestTurn : yV yX7_bestTurn cX7_bestTurn 3 (some .int) 2 := ⟨im_X7_bestTurn, sl_X7_bestTurn, ini_X7, cd_X7_bestTurn, ⟨by decide, by decide, by decide +kernel⟩, by decide⟩

def f_X7_bestTurn_47 (z0 : Int32) (M : Mem) : Option (Int32 × Mem) := some (z0, M)

set_option maxRecDepth 100000 in
set_option maxHeartbeats 4000000 in
theorem l_X7_bestTurn_47 {G : GM} {p : Program} {l : Launch} {e : Env} {s : State} {m : MethodId} {args : Array Value} {below : List Frame} {meth : Method} {c : Code} (F : Fx G p l s m args meth c cX7_bestTurn RX7 3 (some .int)) (z0 : Int32) (M : Mem) : Rf G p l e s m args below meth c 9 3 emI (f_X7_bestTurn_47  z0 M) 47 [] [.int z0] M := by
  unfold f_X7_bestTurn_47
  exact r_iret F rfl dX7_bestTurn_47 rfl

def f_X7_bestTurn_27 (y1 : Int32) (y2 : Int32) (z1 : Int32) (M : Mem) : Option (Int32 × Mem) := bnd (mw M 24 2 z1) fun M27 => if (M27.1 24 2) = 0 then (bn (f_X7_bestTurnOf y1 y2 M27) fun r40 M40 => f_X7_bestTurn_47  r40 M40) else (f_X7_bestTurn_47  (0 : Int32) M27)

set_option maxRecDepth 100000 in
set_option maxHeartbeats 4000000 in
theorem l_X7_bestTurn_27 {G : GM} {p : Program} {l : Launch} {e : Env} {s : State} {m : MethodId} {args : Array Value} {below : List Frame} {meth : Method} {c : Code} (F : Fx G p l s m args meth c cX7_bestTurn RX7 3 (some .int)) (y1 : Int32) (y2 : Int32) (z1 : Int32) (M : Mem) : Rf G p l e s m args below meth c 9 3 emI (f_X7_bestTurn_27  y1 y2 z1 M) 27 [(0, .ref (gA G 24)), (1, .int y1), (2, .int y2)] [.int z1, .ref (gA G 24)] M := by
  unfold f_X7_bestTurn_27
  refine pf_X7_37 F dX7_bestTurn_27 (rfl : kd 24 = 7) (fun M27 => ?_)
  refine r_aload_n F 0 dX7_bestTurn_30 rfl rfl ?_
  refine gf_X7_37 F dX7_bestTurn_31 (rfl : kd 24 = 7) ?_
  refine r_if_ne (tgt := 46) F dX7_bestTurn_34 (by decide) (fun c1 => ?_) (fun c1 => ?_)
  · refine r_aload_n F 0 dX7_bestTurn_37 rfl rfl ?_
    refine r_iload_n F 1 dX7_bestTurn_38 rfl rfl ?_
    refine r_iload_n F 2 dX7_bestTurn_39 rfl rfl ?_
    refine r_cV (val := vI) (As := [.int y1, .int y2]) (rest := []) (fun q9 => .int q9 :: []) F (c_X7_bestTurnOf F.st F.gg y1 y2 M27) (fun _ _ => rfl) dX7_bestTurn_40 ml_X7_196 yv_X7_bestTurnOf (rfl : kd 24 = 7) (by decide) rfl rfl (by decide) rfl (Nat.le_of_ble_eq_true rfl) (fun _ => rfl) (fun r40 M40 => ?_)
    refine r_goto (tgt := 47) F dX7_bestTurn_43 (by decide) ?_
    refine r_sub [] rfl ?_
    exact l_X7_bestTurn_47 F   r40 M40
  · refine r_iconst F dX7_bestTurn_46 (v := 0) (by decide) ?_
    refine r_sub [] rfl ?_
    exact l_X7_bestTurn_47 F   (0 : Int32) M27

def f_X7_bestTurn (a1 : Int32) (a2 : Int32) (M : Mem) : Option (Int32 × Mem) := bn (f_X7_isTown a1 M) fun r3 M3 => if r3 = 0 then (f_X7_bestTurn_27  a1 a2 (1 : Int32) M3) else (bn (f_X7_in a2 (0 : Int32) (1 : Int32) M3) fun r16 M16 => if r16 = 0 then (f_X7_bestTurn_27  a1 a2 (2 : Int32) M16) else (f_X7_bestTurn_27  a1 a2 (0 : Int32) M16))

set_option maxRecDepth 100000 in
set_option maxHeartbeats 4000000 in
theorem b_X7_bestTurn {G : GM} {p : Program} {l : Launch} {e : Env} {s : State} {m : MethodId} {args : Array Value} {below : List Frame} {meth : Method} {c : Code} (F : Fx G p l s m args meth c cX7_bestTurn RX7 3 (some .int)) (a1 : Int32) (a2 : Int32) (M : Mem) : Rf G p l e s m args below meth c 9 3 emI (f_X7_bestTurn a1 a2 M) 0 [(0, .ref (gA G 24)), (1, .int a1), (2, .int a2)] [] M := by
  unfold f_X7_bestTurn
  refine r_aload_n F 0 dX7_bestTurn_0 rfl rfl ?_
  refine r_aload_n F 0 dX7_bestTurn_1 rfl rfl ?_
  refine r_iload_n F 1 dX7_bestTurn_2 rfl rfl ?_
  refine r_cV (val := vI) (As := [.int a1]) (rest := [.ref (gA G 24)]) (fun q9 => .int q9 :: [.ref (gA G 24)]) F (c_X7_isTown F.st F.gg a1 M) (fun _ _ => rfl) dX7_bestTurn_3 ml_X7_45 yv_X7_isTown (rfl : kd 24 = 7) (by decide) rfl rfl (by decide) rfl (Nat.le_of_ble_eq_true rfl) (fun _ => rfl) (fun r3 M3 => ?_)
  refine r_if_ne (tgt := 13) F dX7_bestTurn_6 (by decide) (fun c1 => ?_) (fun c1 => ?_)
  · refine r_iconst F dX7_bestTurn_9 (v := 1) (by decide) ?_
    refine r_goto (tgt := 27) F dX7_bestTurn_10 (by decide) ?_
    refine r_sub [0, 1, 2] rfl ?_
    exact l_X7_bestTurn_27 F   a1 a2 (1 : Int32) M3
  · refine r_iload_n F 2 dX7_bestTurn_13 rfl rfl ?_
    refine r_iconst F dX7_bestTurn_14 (v := 0) (by decide) ?_
    refine r_iconst F dX7_bestTurn_15 (v := 1) (by decide) ?_
    refine r_cS (val := vI) (As := [.int a2, .int (0 : Int32), .int (1 : Int32)]) (rest := [.ref (gA G 24)]) (fun q9 => .int q9 :: [.ref (gA G 24)]) F (c_X7_in F.st F.gg a2 (0 : Int32) (1 : Int32) M3) (fun _ _ => rfl) dX7_bestTurn_16 ml_X7_41 ys_X7_in rfl (by decide) rfl (Nat.le_of_ble_eq_true rfl) (fun _ => rfl) (fun r16 M16 => ?_)
    refine r_if_ne (tgt := 26) F dX7_bestTurn_19 (by decide) (fun c2 => ?_) (fun c2 => ?_)
    · refine r_iconst F dX7_bestTurn_22 (v := 2) (by decide) ?_
      refine r_goto (tgt := 27) F dX7_bestTurn_23 (by decide) ?_
      refine r_sub [0, 1, 2] rfl ?_
      exact l_X7_bestTurn_27 F   a1 a2 (2 : Int32) M16
    · refine r_iconst F dX7_bestTurn_26 (v := 0) (by decide) ?_
      refine r_sub [0, 1, 2] rfl ?_
      exact l_X7_bestTurn_27 F   a1 a2 (0 : Int32) M16

set_option maxRecDepth 100000 in
set_option maxHeartbeats 4000000 in
theorem c_X7_bestTurn {l : Launch} {G : GM} (hl : l.stackTraces = false) (hG : GG G) (a1 : Int32) (a2 : Int32) (M : Mem) : ∀ r, f_X7_bestTurn a1 a2 M = some r → Ctr l G yX7_bestTurn (.code yX7_bestTurn cX7_bestTurn 3 (some .int) :: wsA) 9 [.ref (gA G 24), .int a1, .int a2] M (emI r) :=
  ctr_of (by decide) hl hG (Nat.le_of_ble_eq_true rfl) (fun p e s m args below meth c F => b_X7_bestTurn F a1 a2 M)

-- ===== X7_canGo DrumTownsModel.canGo(III)Z =====
theorem yv_X7_canGo : yV yX7_canGo cX7_canGo 4 (some .boolean) 3 := ⟨im_X7_canGo, sl_X7_canGo, ini_X7, cd_X7_canGo, ⟨by decide, by decide, by decide +kernel⟩, by decide⟩

def f_X7_canGo_38 (z0 : Int32) (M : Mem) : Option (Int32 × Mem) := chk (isb z0) <| some (z0, M)

set_option maxRecDepth 100000 in
set_option maxHeartbeats 4000000 in
theorem l_X7_canGo_38 {G : GM} {p : Program} {l : Launch} {e : Env} {s : State} {m : MethodId} {args : Array Value} {below : List Frame} {meth : Method} {c : Code} (F : Fx G p l s m args meth c cX7_canGo RX7 4 (some .boolean)) (z0 : Int32) (M : Mem) : Rf G p l e s m args below meth c 6 4 emI (f_X7_canGo_38  z0 M) 38 [] [.int z0] M := by
  unfold f_X7_canGo_38
  refine r_chk (fun h1 => ?_)
  exact r_zret F rfl dX7_canGo_38 rfl (isb_or h1)

def f_X7_canGo_37  (M : Mem) : Option (Int32 × Mem) := f_X7_canGo_38  (0 : Int32) M

set_option maxRecDepth 100000 in
set_option maxHeartbeats 4000000 in
theorem l_X7_canGo_37 {G : GM} {p : Program} {l : Launch} {e : Env} {s : State} {m : MethodId} {args : Array Value} {below : List Frame} {meth : Method} {c : Code} (F : Fx G p l s m args meth c cX7_canGo RX7 4 (some .boolean))  (M : Mem) : Rf G p l e s m args below meth c 6 4 emI (f_X7_canGo_37   M) 37 [] [] M := by
  unfold f_X7_canGo_37
  refine r_iconst F dX7_canGo_37 (v := 0) (by decide) ?_
  refine r_sub [] rfl ?_
  exact l_X7_canGo_38 F   (0 : Int32) M

def f_X7_canGo (a1 : Int32) (a2 : Int32) (a3 : Int32) (M : Mem) : Option (Int32 × Mem) := chk (inb ((0 : Int32) + a1) 3424) <| if (M.1 25 ((0 : Int32) + a1).toNatClampNeg) < a3 then (f_X7_canGo_37   M) else (chk (inb ((0 : Int32) + a2) 3424) <| chk (inb (422 : Int32) 3424) <| if (M.1 25 (422 : Int32).toNatClampNeg) < ((M.1 25 ((0 : Int32) + a2).toNatClampNeg) + a3) then (f_X7_canGo_37   M) else (f_X7_canGo_38  (1 : Int32) M))

set_option maxRecDepth 100000 in
set_option maxHeartbeats 4000000 in
theorem b_X7_canGo {G : GM} {p : Program} {l : Launch} {e : Env} {s : State} {m : MethodId} {args : Array Value} {below : List Frame} {meth : Method} {c : Code} (F : Fx G p l s m args meth c cX7_canGo RX7 4 (some .boolean)) (a1 : Int32) (a2 : Int32) (a3 : Int32) (M : Mem) : Rf G p l e s m args below meth c 6 4 emI (f_X7_canGo a1 a2 a3 M) 0 [(0, .ref (gA G 24)), (1, .int a1), (2, .int a2), (3, .int a3)] [] M := by
  unfold f_X7_canGo
  refine r_aload_n F 0 dX7_canGo_0 rfl rfl ?_
  refine gf_X7_7 F dX7_canGo_1 (rfl : kd 24 = 7) ?_
  refine r_iconst F dX7_canGo_4 (v := 0) (by decide) ?_
  refine r_iload_n F 1 dX7_canGo_5 rfl rfl ?_
  refine r_iadd F dX7_canGo_6 ?_
  refine r_chk (fun h1 => ?_)
  refine r_iald F dX7_canGo_7 (rfl : kd 25 = 8) (rfl : al 25 = 3424) h1 ?_
  refine r_iload_n F 3 dX7_canGo_8 rfl rfl ?_
  refine r_icmp_lt (tgt := 37) F dX7_canGo_9 (by decide) (fun c2 => ?_) (fun c2 => ?_)
  · refine r_sub [] rfl ?_
    exact l_X7_canGo_37 F    M
  · refine r_aload_n F 0 dX7_canGo_12 rfl rfl ?_
    refine gf_X7_7 F dX7_canGo_13 (rfl : kd 24 = 7) ?_
    refine r_iconst F dX7_canGo_16 (v := 0) (by decide) ?_
    refine r_iload_n F 2 dX7_canGo_17 rfl rfl ?_
    refine r_iadd F dX7_canGo_18 ?_
    refine r_chk (fun h3 => ?_)
    refine r_iald F dX7_canGo_19 (rfl : kd 25 = 8) (rfl : al 25 = 3424) h3 ?_
    refine r_iload_n F 3 dX7_canGo_20 rfl rfl ?_
    refine r_iadd F dX7_canGo_21 ?_
    refine r_aload_n F 0 dX7_canGo_22 rfl rfl ?_
    refine gf_X7_7 F dX7_canGo_23 (rfl : kd 24 = 7) ?_
    refine r_sipush F dX7_canGo_26 (v := 422) (by decide) ?_
    refine r_chk (fun h4 => ?_)
    refine r_iald F dX7_canGo_29 (rfl : kd 25 = 8) (rfl : al 25 = 3424) h4 ?_
    refine r_icmp_gt (tgt := 37) F dX7_canGo_30 (by decide) (fun c5 => ?_) (fun c5 => ?_)
    · refine r_sub [] rfl ?_
      exact l_X7_canGo_37 F    M
    · refine r_iconst F dX7_canGo_33 (v := 1) (by decide) ?_
      refine r_goto (tgt := 38) F dX7_canGo_34 (by decide) ?_
      refine r_sub [] rfl ?_
      exact l_X7_canGo_38 F   (1 : Int32) M

set_option maxRecDepth 100000 in
set_option maxHeartbeats 4000000 in
theorem c_X7_canGo {l : Launch} {G : GM} (hl : l.stackTraces = false) (hG : GG G) (a1 : Int32) (a2 : Int32) (a3 : Int32) (M : Mem) : ∀ r, f_X7_canGo a1 a2 a3 M = some r → Ctr l G yX7_canGo (.code yX7_canGo cX7_canGo 4 (some .boolean) :: wsA) 6 [.ref (gA G 24), .int a1, .int a2, .int a3] M (emI r) :=
  ctr_of (by decide) hl hG (Nat.le_of_ble_eq_true rfl) (fun p e s m args below meth c F => b_X7_canGo F a1 a2 a3 M)

-- ===== X7_clearBuffer DrumTownsModel.clearBuffer()I =====
theorem yv_X7_clearBuffer : yV yX7_clearBuffer cX7_clearBuffer 2 (some .int) 0 := ⟨im_X7_clearBuffer, sl_X7_clearBuffer, ini_X7, cd_X7_clearBuffer, ⟨by decide, by decide, by decide +kernel⟩, by decide⟩

def f_X7_clearBuffer  (M : Mem) : Option (Int32 × Mem) := bnd (mw M 24 2 (0 : Int32)) fun M2 => bnd (M2.1 24 4) fun x9 => bnd (mw M2 24 4 (0 : Int32)) fun M12 => some (x9, M12)

set_option maxRecDepth 100000 in
set_option maxHeartbeats 4000000 in
theorem b_X7_clearBuffer {G : GM} {p : Program} {l : Launch} {e : Env} {s : State} {m : MethodId} {args : Array Value} {below : List Frame} {meth : Method} {c : Code} (F : Fx G p l s m args meth c cX7_clearBuffer RX7 2 (some .int))  (M : Mem) : Rf G p l e s m args below meth c 6 2 emI (f_X7_clearBuffer  M) 0 [(0, .ref (gA G 24))] [] M := by
  unfold f_X7_clearBuffer
  refine r_aload_n F 0 dX7_clearBuffer_0 rfl rfl ?_
  refine r_iconst F dX7_clearBuffer_1 (v := 0) (by decide) ?_
  refine pf_X7_37 F dX7_clearBuffer_2 (rfl : kd 24 = 7) (fun M2 => ?_)
  refine r_aload_n F 0 dX7_clearBuffer_5 rfl rfl ?_
  refine gf_X7_149 F dX7_clearBuffer_6 (rfl : kd 24 = 7) ?_
  refine r_bi (fun x9 => ?_)
  refine r_istore_n (ls' := [(1, .int x9), (0, .ref (gA G 24))]) F dX7_clearBuffer_9 rfl (by decide) rfl ?_
  refine r_aload_n F 1 dX7_clearBuffer_10 rfl rfl ?_
  refine r_iconst F dX7_clearBuffer_11 (v := 0) (by decide) ?_
  refine pf_X7_149 F dX7_clearBuffer_12 (rfl : kd 24 = 7) (fun M12 => ?_)
  refine r_iload_n F 0 dX7_clearBuffer_15 rfl rfl ?_
  exact r_iret F rfl dX7_clearBuffer_16 rfl

set_option maxRecDepth 100000 in
set_option maxHeartbeats 4000000 in
theorem c_X7_clearBuffer {l : Launch} {G : GM} (hl : l.stackTraces = false) (hG : GG G)  (M : Mem) : ∀ r, f_X7_clearBuffer  M = some r → Ctr l G yX7_clearBuffer (.code yX7_clearBuffer cX7_clearBuffer 2 (some .int) :: wsA) 6 [.ref (gA G 24)] M (emI r) :=
  ctr_of (by decide) hl hG (Nat.le_of_ble_eq_true rfl) (fun p e s m args below meth c F => b_X7_clearBuffer F  M)

-- ===== X7_isNew DrumTownsModel.isNew(II)Z =====
theorem yv_X7_isNew : yV yX7_isNew cX7_isNew 5 (some .boolean) 2 := ⟨im_X7_isNew, sl_X7_isNew, ini_X7, cd_X7_isNew, ⟨by decide, by decide, by decide +kernel⟩, by decide⟩

def f_X7_isNew_45 (k19 : Int32 → Int32 → Int32 → Int32 → Mem → Option (Int32 × Mem)) (y1 : Int32) (y2 : Int32) (y4 : Int32) (z0 : Int32) (M : Mem) : Option (Int32 × Mem) := bnd (y4 + (1 : Int32)) fun x46 => k19 y1 y2 z0 x46 M

set_option maxRecDepth 100000 in
set_option maxHeartbeats 4000000 in
theorem l_X7_isNew_45 {G : GM} {p : Program} {l : Launch} {e : Env} {s : State} {m : MethodId} {args : Array Value} {below : List Frame} {meth : Method} {c : Code} (F : Fx G p l s m args meth c cX7_isNew RX7 5 (some .boolean)) (k19 : Int32 → Int32 → Int32 → Int32 → Mem → Option (Int32 × Mem)) (H19 : ∀ (y1 : Int32) (y2 : Int32) (y3 : Int32) (y4 : Int32) (M : Mem), Rf G p l e s m args below meth c 6 5 emI (k19 y1 y2 y3 y4 M) 19 [(0, .ref (gA G 24)), (1, .int y1), (2, .int y2), (3, .int y3), (4, .int y4)] [] M) (y1 : Int32) (y2 : Int32) (y4 : Int32) (z0 : Int32) (M : Mem) : Rf G p l e s m args below meth c 6 5 emI (f_X7_isNew_45 k19 y1 y2 y4 z0 M) 45 [(0, .ref (gA G 24)), (1, .int y1), (2, .int y2), (4, .int y4)] [.int z0] M := by
  unfold f_X7_isNew_45
  refine r_istore_n (ls' := [(3, .int z0), (0, .ref (gA G 24)), (1, .int y1), (2, .int y2), (4, .int y4)]) F dX7_isNew_45 rfl (by decide) rfl ?_
  refine r_iinc (ls' := fun q9 => [(4, .int q9), (3, .int z0), (0, .ref (gA G 24)), (1, .int y1), (2, .int y2)]) (k := 4) (v := y4 + (1 : Int32)) F dX7_isNew_46 rfl rfl (by decide) (fun _ => rfl) (fun x46 => ?_)
  refine r_goto (tgt := 19) F dX7_isNew_49 (by decide) ?_
  refine r_sub [2, 3, 4, 1, 0] rfl ?_
  exact H19 y1 y2 z0 x46 M

def f_X7_isNew_44 (k19 : Int32 → Int32 → Int32 → Int32 → Mem → Option (Int32 × Mem)) (y1 : Int32) (y2 : Int32) (y4 : Int32) (M : Mem) : Option (Int32 × Mem) := f_X7_isNew_45 k19 y1 y2 y4 (0 : Int32) M

set_option maxRecDepth 100000 in
set_option maxHeartbeats 4000000 in
theorem l_X7_isNew_44 {G : GM} {p : Program} {l : Launch} {e : Env} {s : State} {m : MethodId} {args : Array Value} {below : List Frame} {meth : Method} {c : Code} (F : Fx G p l s m args meth c cX7_isNew RX7 5 (some .boolean)) (k19 : Int32 → Int32 → Int32 → Int32 → Mem → Option (Int32 × Mem)) (H19 : ∀ (y1 : Int32) (y2 : Int32) (y3 : Int32) (y4 : Int32) (M : Mem), Rf G p l e s m args below meth c 6 5 emI (k19 y1 y2 y3 y4 M) 19 [(0, .ref (gA G 24)), (1, .int y1), (2, .int y2), (3, .int y3), (4, .int y4)] [] M) (y1 : Int32) (y2 : Int32) (y4 : Int32) (M : Mem) : Rf G p l e s m args below meth c 6 5 emI (f_X7_isNew_44 k19 y1 y2 y4 M) 44 [(0, .ref (gA G 24)), (1, .int y1), (2, .int y2), (4, .int y4)] [] M := by
  unfold f_X7_isNew_44
  refine r_iconst F dX7_isNew_44 (v := 0) (by decide) ?_
  refine r_sub [0, 1, 2, 3] rfl ?_
  exact l_X7_isNew_45 F k19 H19 y1 y2 y4 (0 : Int32) M

def f_X7_isNew_19 : Nat → Int32 → Int32 → Int32 → Int32 → Mem → Option (Int32 × Mem)
  | 0, _, _, _, _, _ => none
  | n + 1, y1, y2, y3, y4, M => if y2 ≤ y4 then (chk (isb y3) <| some (y3, M)) else (if y3 = 0 then (f_X7_isNew_44 (f_X7_isNew_19  n) y1 y2 y4 M) else (chk (inb y4 7) <| if (M.1 29 y4.toNatClampNeg) = y1 then (f_X7_isNew_44 (f_X7_isNew_19  n) y1 y2 y4 M) else (f_X7_isNew_45 (f_X7_isNew_19  n) y1 y2 y4 (1 : Int32) M)))

set_option maxRecDepth 100000 in
set_option maxHeartbeats 4000000 in
theorem l_X7_isNew_19 {G : GM} {p : Program} {l : Launch} {e : Env} {s : State} {m : MethodId} {args : Array Value} {below : List Frame} {meth : Method} {c : Code} (F : Fx G p l s m args meth c cX7_isNew RX7 5 (some .boolean)) : ∀ (n : Nat) (y1 : Int32) (y2 : Int32) (y3 : Int32) (y4 : Int32) (M : Mem), Rf G p l e s m args below meth c 6 5 emI (f_X7_isNew_19  n y1 y2 y3 y4 M) 19 [(0, .ref (gA G 24)), (1, .int y1), (2, .int y2), (3, .int y3), (4, .int y4)] [] M := by
  intro n
  induction n with
  | zero => intros; exact r_none
  | succ n ih =>
    intro y1 y2 y3 y4 M
    rw [f_X7_isNew_19]
    refine r_iload F 4 dX7_isNew_19 rfl ?_
    refine r_iload_n F 2 dX7_isNew_21 rfl rfl ?_
    refine r_icmp_ge (tgt := 52) F dX7_isNew_22 (by decide) (fun c1 => ?_) (fun c1 => ?_)
    · refine r_iload_n F 3 dX7_isNew_52 rfl rfl ?_
      refine r_chk (fun h2 => ?_)
      exact r_zret F rfl dX7_isNew_53 rfl (isb_or h2)
    · refine r_iload_n F 3 dX7_isNew_25 rfl rfl ?_
      refine r_if_eq (tgt := 44) F dX7_isNew_26 (by decide) (fun c3 => ?_) (fun c3 => ?_)
      · refine r_sub [0, 1, 2, 4] rfl ?_
        exact l_X7_isNew_44 F (f_X7_isNew_19  n) (fun q0 q1 q2 q3 M9 => ih q0 q1 q2 q3 M9) y1 y2 y4 M
      · refine r_aload_n F 0 dX7_isNew_29 rfl rfl ?_
        refine gf_X7_22 F dX7_isNew_30 (rfl : kd 24 = 7) ?_
        refine r_iload F 4 dX7_isNew_33 rfl ?_
        refine r_chk (fun h4 => ?_)
        refine r_iald F dX7_isNew_35 (rfl : kd 29 = 8) (rfl : al 29 = 7) h4 ?_
        refine r_iload_n F 1 dX7_isNew_36 rfl rfl ?_
        refine r_icmp_eq (tgt := 44) F dX7_isNew_37 (by decide) (fun c5 => ?_) (fun c5 => ?_)
        · refine r_sub [0, 1, 2, 4] rfl ?_
          exact l_X7_isNew_44 F (f_X7_isNew_19  n) (fun q0 q1 q2 q3 M9 => ih q0 q1 q2 q3 M9) y1 y2 y4 M
        · refine r_iconst F dX7_isNew_40 (v := 1) (by decide) ?_
          refine r_goto (tgt := 45) F dX7_isNew_41 (by decide) ?_
          refine r_sub [0, 1, 2, 4] rfl ?_
          exact l_X7_isNew_45 F (f_X7_isNew_19  n) (fun q0 q1 q2 q3 M9 => ih q0 q1 q2 q3 M9) y1 y2 y4 (1 : Int32) M

def f_X7_isNew_15 (y1 : Int32) (y2 : Int32) (z0 : Int32) (M : Mem) : Option (Int32 × Mem) := f_X7_isNew_19  FU y1 y2 z0 (0 : Int32) M

set_option maxRecDepth 100000 in
set_option maxHeartbeats 4000000 in
theorem l_X7_isNew_15 {G : GM} {p : Program} {l : Launch} {e : Env} {s : State} {m : MethodId} {args : Array Value} {below : List Frame} {meth : Method} {c : Code} (F : Fx G p l s m args meth c cX7_isNew RX7 5 (some .boolean)) (y1 : Int32) (y2 : Int32) (z0 : Int32) (M : Mem) : Rf G p l e s m args below meth c 6 5 emI (f_X7_isNew_15  y1 y2 z0 M) 15 [(0, .ref (gA G 24)), (1, .int y1), (2, .int y2)] [.int z0] M := by
  unfold f_X7_isNew_15
  refine r_istore_n (ls' := [(3, .int z0), (0, .ref (gA G 24)), (1, .int y1), (2, .int y2)]) F dX7_isNew_15 rfl (by decide) rfl ?_
  refine r_iconst F dX7_isNew_16 (v := 0) (by decide) ?_
  refine r_istore (ls' := [(4, .int (0 : Int32)), (3, .int z0), (0, .ref (gA G 24)), (1, .int y1), (2, .int y2)]) F dX7_isNew_17 (by decide) rfl ?_
  refine r_sub [2, 3, 4, 1, 0] rfl ?_
  exact l_X7_isNew_19 F   FU y1 y2 z0 (0 : Int32) M

def f_X7_isNew (a1 : Int32) (a2 : Int32) (M : Mem) : Option (Int32 × Mem) := chk (inb (0 : Int32) 7) <| if a1 ≤ (M.1 29 (0 : Int32).toNatClampNeg) then (f_X7_isNew_15  a1 a2 (0 : Int32) M) else (f_X7_isNew_15  a1 a2 (1 : Int32) M)

set_option maxRecDepth 100000 in
set_option maxHeartbeats 4000000 in
theorem b_X7_isNew {G : GM} {p : Program} {l : Launch} {e : Env} {s : State} {m : MethodId} {args : Array Value} {below : List Frame} {meth : Method} {c : Code} (F : Fx G p l s m args meth c cX7_isNew RX7 5 (some .boolean)) (a1 : Int32) (a2 : Int32) (M : Mem) : Rf G p l e s m args below meth c 6 5 emI (f_X7_isNew a1 a2 M) 0 [(0, .ref (gA G 24)), (1, .int a1), (2, .int a2)] [] M := by
  unfold f_X7_isNew
  refine r_iload_n F 1 dX7_isNew_0 rfl rfl ?_
  refine r_aload_n F 0 dX7_isNew_1 rfl rfl ?_
  refine gf_X7_22 F dX7_isNew_2 (rfl : kd 24 = 7) ?_
  refine r_iconst F dX7_isNew_5 (v := 0) (by decide) ?_
  refine r_chk (fun h1 => ?_)
  refine r_iald F dX7_isNew_6 (rfl : kd 29 = 8) (rfl : al 29 = 7) h1 ?_
  refine r_icmp_le (tgt := 14) F dX7_isNew_7 (by decide) (fun c2 => ?_) (fun c2 => ?_)
  · refine r_iconst F dX7_isNew_14 (v := 0) (by decide) ?_
    refine r_sub [0, 1, 2] rfl ?_
    exact l_X7_isNew_15 F   a1 a2 (0 : Int32) M
  · refine r_iconst F dX7_isNew_10 (v := 1) (by decide) ?_
    refine r_goto (tgt := 15) F dX7_isNew_11 (by decide) ?_
    refine r_sub [0, 1, 2] rfl ?_
    exact l_X7_isNew_15 F   a1 a2 (1 : Int32) M

set_option maxRecDepth 100000 in
set_option maxHeartbeats 4000000 in
theorem c_X7_isNew {l : Launch} {G : GM} (hl : l.stackTraces = false) (hG : GG G) (a1 : Int32) (a2 : Int32) (M : Mem) : ∀ r, f_X7_isNew a1 a2 M = some r → Ctr l G yX7_isNew (.code yX7_isNew cX7_isNew 5 (some .boolean) :: wsA) 6 [.ref (gA G 24), .int a1, .int a2] M (emI r) :=
  ctr_of (by decide) hl hG (Nat.le_of_ble_eq_true rfl) (fun p e s m args below meth c F => b_X7_isNew F a1 a2 M)

-- ===== X7_nextAt DrumTownsModel.nextAt(I)I =====
theorem yv_X7_nextAt : yV yX7_nextAt cX7_nextAt 3 (some .int) 1 := ⟨im_X7_nextAt, sl_X7_nextAt, ini_X7, cd_X7_nextAt, ⟨by decide, by decide, by decide +kernel⟩, by decide⟩

def f_X7_nextAt_52 (k9 : Int32 → Int32 → Mem → Option (Int32 × Mem)) (y1 : Int32) (y2 : Int32) (M : Mem) : Option (Int32 × Mem) := bnd (y2 + (1 : Int32)) fun x52 => k9 y1 x52 M

set_option maxRecDepth 100000 in
set_option maxHeartbeats 4000000 in
theorem l_X7_nextAt_52 {G : GM} {p : Program} {l : Launch} {e : Env} {s : State} {m : MethodId} {args : Array Value} {below : List Frame} {meth : Method} {c : Code} (F : Fx G p l s m args meth c cX7_nextAt RX7 3 (some .int)) (k9 : Int32 → Int32 → Mem → Option (Int32 × Mem)) (H9 : ∀ (y1 : Int32) (y2 : Int32) (M : Mem), Rf G p l e s m args below meth c 7 3 emI (k9 y1 y2 M) 9 [(0, .ref (gA G 24)), (1, .int y1), (2, .int y2)] [] M) (y1 : Int32) (y2 : Int32) (M : Mem) : Rf G p l e s m args below meth c 7 3 emI (f_X7_nextAt_52 k9 y1 y2 M) 52 [(0, .ref (gA G 24)), (1, .int y1), (2, .int y2)] [] M := by
  unfold f_X7_nextAt_52
  refine r_iinc (ls' := fun q9 => [(2, .int q9), (0, .ref (gA G 24)), (1, .int y1)]) (k := 2) (v := y2 + (1 : Int32)) F dX7_nextAt_52 rfl rfl (by decide) (fun _ => rfl) (fun x52 => ?_)
  refine r_goto (tgt := 9) F dX7_nextAt_55 (by decide) ?_
  refine r_sub [1, 2, 0] rfl ?_
  exact H9 y1 x52 M

def f_X7_nextAt_9 : Nat → Int32 → Int32 → Mem → Option (Int32 × Mem)
  | 0, _, _, _ => none
  | n + 1, y1, y2, M => chk (inb (423 : Int32) 3424) <| if (M.1 25 (423 : Int32).toNatClampNeg) ≤ y2 then (some ((-1 : Int32), M)) else (chk (inb (y1 - (1 : Int32)) 7) <| bn (f_X7_owes (M.1 29 (y1 - (1 : Int32)).toNatClampNeg) y2 M) fun r34 M34 => chk (inb r34 3424) <| if (M34.1 25 r34.toNatClampNeg) ≤ 0 then (f_X7_nextAt_52 (f_X7_nextAt_9  n) y1 y2 M34) else (bn (f_X7_isNew y2 y1 M34) fun r44 M44 => if r44 = 0 then (f_X7_nextAt_52 (f_X7_nextAt_9  n) y1 y2 M44) else (some (y2, M44))))

set_option maxRecDepth 100000 in
set_option maxHeartbeats 4000000 in
theorem l_X7_nextAt_9 {G : GM} {p : Program} {l : Launch} {e : Env} {s : State} {m : MethodId} {args : Array Value} {below : List Frame} {meth : Method} {c : Code} (F : Fx G p l s m args meth c cX7_nextAt RX7 3 (some .int)) : ∀ (n : Nat) (y1 : Int32) (y2 : Int32) (M : Mem), Rf G p l e s m args below meth c 7 3 emI (f_X7_nextAt_9  n y1 y2 M) 9 [(0, .ref (gA G 24)), (1, .int y1), (2, .int y2)] [] M := by
  intro n
  induction n with
  | zero => intros; exact r_none
  | succ n ih =>
    intro y1 y2 M
    rw [f_X7_nextAt_9]
    refine r_iload_n F 2 dX7_nextAt_9 rfl rfl ?_
    refine r_aload_n F 0 dX7_nextAt_10 rfl rfl ?_
    refine gf_X7_7 F dX7_nextAt_11 (rfl : kd 24 = 7) ?_
    refine r_sipush F dX7_nextAt_14 (v := 423) (by decide) ?_
    refine r_chk (fun h1 => ?_)
    refine r_iald F dX7_nextAt_17 (rfl : kd 25 = 8) (rfl : al 25 = 3424) h1 ?_
    refine r_icmp_ge (tgt := 58) F dX7_nextAt_18 (by decide) (fun c2 => ?_) (fun c2 => ?_)
    · refine r_iconst F dX7_nextAt_58 (v := -1) (by decide) ?_
      exact r_iret F rfl dX7_nextAt_59 rfl
    · refine r_aload_n F 0 dX7_nextAt_21 rfl rfl ?_
      refine gf_X7_7 F dX7_nextAt_22 (rfl : kd 24 = 7) ?_
      refine r_aload_n F 0 dX7_nextAt_25 rfl rfl ?_
      refine gf_X7_22 F dX7_nextAt_26 (rfl : kd 24 = 7) ?_
      refine r_iload_n F 1 dX7_nextAt_29 rfl rfl ?_
      refine r_iconst F dX7_nextAt_30 (v := 1) (by decide) ?_
      refine r_isub F dX7_nextAt_31 ?_
      refine r_chk (fun h3 => ?_)
      refine r_iald F dX7_nextAt_32 (rfl : kd 29 = 8) (rfl : al 29 = 7) h3 ?_
      refine r_iload_n F 2 dX7_nextAt_33 rfl rfl ?_
      refine r_cS (val := vI) (As := [.int (M.1 29 (y1 - (1 : Int32)).toNatClampNeg), .int y2]) (rest := [.ref (gA G 25)]) (fun q9 => .int q9 :: [.ref (gA G 25)]) F (c_X7_owes F.st F.gg (M.1 29 (y1 - (1 : Int32)).toNatClampNeg) y2 M) (fun _ _ => rfl) dX7_nextAt_34 ml_X7_123 ys_X7_owes rfl (by decide) rfl (Nat.le_of_ble_eq_true rfl) (fun _ => rfl) (fun r34 M34 => ?_)
      refine r_chk (fun h4 => ?_)
      refine r_iald F dX7_nextAt_37 (rfl : kd 25 = 8) (rfl : al 25 = 3424) h4 ?_
      refine r_if_le (tgt := 52) F dX7_nextAt_38 (by decide) (fun c5 => ?_) (fun c5 => ?_)
      · refine r_sub [0, 1, 2] rfl ?_
        exact l_X7_nextAt_52 F (f_X7_nextAt_9  n) (fun q0 q1 M9 => ih q0 q1 M9) y1 y2 M34
      · refine r_aload_n F 0 dX7_nextAt_41 rfl rfl ?_
        refine r_iload_n F 2 dX7_nextAt_42 rfl rfl ?_
        refine r_iload_n F 1 dX7_nextAt_43 rfl rfl ?_
        refine r_cV (val := vI) (As := [.int y2, .int y1]) (rest := []) (fun q9 => .int q9 :: []) F (c_X7_isNew F.st F.gg y2 y1 M34) (fun _ _ => rfl) dX7_nextAt_44 ml_X7_126 yv_X7_isNew (rfl : kd 24 = 7) (by decide) rfl rfl (by decide) rfl (Nat.le_of_ble_eq_true rfl) (fun _ => rfl) (fun r44 M44 => ?_)
        refine r_if_eq (tgt := 52) F dX7_nextAt_47 (by decide) (fun c6 => ?_) (fun c6 => ?_)
        · refine r_sub [0, 1, 2] rfl ?_
          exact l_X7_nextAt_52 F (f_X7_nextAt_9  n) (fun q0 q1 M9 => ih q0 q1 M9) y1 y2 M44
        · refine r_iload_n F 2 dX7_nextAt_50 rfl rfl ?_
          exact r_iret F rfl dX7_nextAt_51 rfl

def f_X7_nextAt (a1 : Int32) (M : Mem) : Option (Int32 × Mem) := chk (inb a1 7) <| bnd ((M.1 29 a1.toNatClampNeg) + (1 : Int32)) fun x8 => f_X7_nextAt_9  FU a1 x8 M

set_option maxRecDepth 100000 in
set_option maxHeartbeats 4000000 in
theorem b_X7_nextAt {G : GM} {p : Program} {l : Launch} {e : Env} {s : State} {m : MethodId} {args : Array Value} {below : List Frame} {meth : Method} {c : Code} (F : Fx G p l s m args meth c cX7_nextAt RX7 3 (some .int)) (a1 : Int32) (M : Mem) : Rf G p l e s m args below meth c 7 3 emI (f_X7_nextAt a1 M) 0 [(0, .ref (gA G 24)), (1, .int a1)] [] M := by
  unfold f_X7_nextAt
  refine r_aload_n F 0 dX7_nextAt_0 rfl rfl ?_
  refine gf_X7_22 F dX7_nextAt_1 (rfl : kd 24 = 7) ?_
  refine r_iload_n F 1 dX7_nextAt_4 rfl rfl ?_
  refine r_chk (fun h1 => ?_)
  refine r_iald F dX7_nextAt_5 (rfl : kd 29 = 8) (rfl : al 29 = 7) h1 ?_
  refine r_iconst F dX7_nextAt_6 (v := 1) (by decide) ?_
  refine r_iadd F dX7_nextAt_7 ?_
  refine r_bi (fun x8 => ?_)
  refine r_istore_n (ls' := [(2, .int x8), (0, .ref (gA G 24)), (1, .int a1)]) F dX7_nextAt_8 rfl (by decide) rfl ?_
  refine r_sub [1, 2, 0] rfl ?_
  exact l_X7_nextAt_9 F   FU a1 x8 M

set_option maxRecDepth 100000 in
set_option maxHeartbeats 4000000 in
theorem c_X7_nextAt {l : Launch} {G : GM} (hl : l.stackTraces = false) (hG : GG G) (a1 : Int32) (M : Mem) : ∀ r, f_X7_nextAt a1 M = some r → Ctr l G yX7_nextAt (.code yX7_nextAt cX7_nextAt 3 (some .int) :: wsA) 7 [.ref (gA G 24), .int a1] M (emI r) :=
  ctr_of (by decide) hl hG (Nat.le_of_ble_eq_true rfl) (fun p e s m args below meth c F => b_X7_nextAt F a1 M)

-- ===== X7_closes DrumTownsModel.closes(I)Z =====
theorem yv_X7_closes : yV yX7_closes cX7_closes 3 (some .boolean) 1 := ⟨im_X7_closes, sl_X7_closes, ini_X7, cd_X7_closes, ⟨by decide, by decide, by decide +kernel⟩, by decide⟩

def f_X7_closes_9 : Nat → Int32 → Int32 → Mem → Option (Int32 × Mem)
  | 0, _, _, _ => none
  | n + 1, y1, y2, M => if y2 ≤ 0 then (some ((0 : Int32), M)) else (bn (f_X7_nextAt y2 M) fun r20 M20 => chk (inb y2 7) <| bnd (mw M20 29 y2.toNatClampNeg r20) fun M23 => chk (inb y2 7) <| if (M23.1 29 y2.toNatClampNeg) = (-1 : Int32) then (bnd (y2 + (-1 : Int32)) fun x34 => f_X7_closes_9  n y1 x34 M23) else (if y1 ≤ (y2 + (1 : Int32)) then (chk (inb y2 7) <| chk (inb (0 : Int32) 7) <| bn (f_X7_owes (M23.1 29 y2.toNatClampNeg) (M23.1 29 (0 : Int32).toNatClampNeg) M23) fun r76 M76 => chk (inb r76 3424) <| if (M76.1 25 r76.toNatClampNeg) ≤ 0 then (f_X7_closes_9  n y1 y2 M76) else (some ((1 : Int32), M76))) else (bnd (y2 + (1 : Int32)) fun x47 => chk (inb x47 7) <| bnd (mw M23 29 x47.toNatClampNeg (-1 : Int32)) fun M56 => f_X7_closes_9  n y1 x47 M56)))

set_option maxRecDepth 100000 in
set_option maxHeartbeats 4000000 in
theorem l_X7_closes_9 {G : GM} {p : Program} {l : Launch} {e : Env} {s : State} {m : MethodId} {args : Array Value} {below : List Frame} {meth : Method} {c : Code} (F : Fx G p l s m args meth c cX7_closes RX7 3 (some .boolean)) : ∀ (n : Nat) (y1 : Int32) (y2 : Int32) (M : Mem), Rf G p l e s m args below meth c 8 3 emI (f_X7_closes_9  n y1 y2 M) 9 [(0, .ref (gA G 24)), (1, .int y1), (2, .int y2)] [] M := by
  intro n
  induction n with
  | zero => intros; exact r_none
  | succ n ih =>
    intro y1 y2 M
    rw [f_X7_closes_9]
    refine r_iload_n F 2 dX7_closes_9 rfl rfl ?_
    refine r_if_le (tgt := 85) F dX7_closes_10 (by decide) (fun c1 => ?_) (fun c1 => ?_)
    · refine r_iconst F dX7_closes_85 (v := 0) (by decide) ?_
      exact r_zret F rfl dX7_closes_86 rfl (by decide)
    · refine r_aload_n F 0 dX7_closes_13 rfl rfl ?_
      refine gf_X7_22 F dX7_closes_14 (rfl : kd 24 = 7) ?_
      refine r_iload_n F 2 dX7_closes_17 rfl rfl ?_
      refine r_aload_n F 0 dX7_closes_18 rfl rfl ?_
      refine r_iload_n F 2 dX7_closes_19 rfl rfl ?_
      refine r_cV (val := vI) (As := [.int y2]) (rest := [.int y2, .ref (gA G 29)]) (fun q9 => .int q9 :: [.int y2, .ref (gA G 29)]) F (c_X7_nextAt F.st F.gg y2 M) (fun _ _ => rfl) dX7_closes_20 ml_X7_129 yv_X7_nextAt (rfl : kd 24 = 7) (by decide) rfl rfl (by decide) rfl (Nat.le_of_ble_eq_true rfl) (fun _ => rfl) (fun r20 M20 => ?_)
      refine r_chk (fun h2 => ?_)
      refine r_iast F dX7_closes_23 (rfl : kd 29 = 8) (rfl : al 29 = 7) h2 (fun M23 => ?_)
      refine r_aload_n F 0 dX7_closes_24 rfl rfl ?_
      refine gf_X7_22 F dX7_closes_25 (rfl : kd 24 = 7) ?_
      refine r_iload_n F 2 dX7_closes_28 rfl rfl ?_
      refine r_chk (fun h3 => ?_)
      refine r_iald F dX7_closes_29 (rfl : kd 29 = 8) (rfl : al 29 = 7) h3 ?_
      refine r_iconst F dX7_closes_30 (v := -1) (by decide) ?_
      refine r_icmp_ne (tgt := 40) F dX7_closes_31 (by decide) (fun c4 => ?_) (fun c4 => ?_)
      · refine r_iinc (ls' := fun q9 => [(2, .int q9), (0, .ref (gA G 24)), (1, .int y1)]) (k := 2) (v := y2 + (-1 : Int32)) F dX7_closes_34 rfl rfl (by decide) (fun _ => rfl) (fun x34 => ?_)
        refine r_goto (tgt := 9) F dX7_closes_37 (by decide) ?_
        refine r_sub [1, 2, 0] rfl ?_
        exact ih y1 x34 M23
      · refine r_iload_n F 2 dX7_closes_40 rfl rfl ?_
        refine r_iconst F dX7_closes_41 (v := 1) (by decide) ?_
        refine r_iadd F dX7_closes_42 ?_
        refine r_iload_n F 1 dX7_closes_43 rfl rfl ?_
        refine r_icmp_ge (tgt := 60) F dX7_closes_44 (by decide) (fun c5 => ?_) (fun c5 => ?_)
        · refine r_aload_n F 0 dX7_closes_60 rfl rfl ?_
          refine gf_X7_7 F dX7_closes_61 (rfl : kd 24 = 7) ?_
          refine r_aload_n F 0 dX7_closes_64 rfl rfl ?_
          refine gf_X7_22 F dX7_closes_65 (rfl : kd 24 = 7) ?_
          refine r_iload_n F 2 dX7_closes_68 rfl rfl ?_
          refine r_chk (fun h6 => ?_)
          refine r_iald F dX7_closes_69 (rfl : kd 29 = 8) (rfl : al 29 = 7) h6 ?_
          refine r_aload_n F 0 dX7_closes_70 rfl rfl ?_
          refine gf_X7_22 F dX7_closes_71 (rfl : kd 24 = 7) ?_
          refine r_iconst F dX7_closes_74 (v := 0) (by decide) ?_
          refine r_chk (fun h7 => ?_)
          refine r_iald F dX7_closes_75 (rfl : kd 29 = 8) (rfl : al 29 = 7) h7 ?_
          refine r_cS (val := vI) (As := [.int (M23.1 29 y2.toNatClampNeg), .int (M23.1 29 (0 : Int32).toNatClampNeg)]) (rest := [.ref (gA G 25)]) (fun q9 => .int q9 :: [.ref (gA G 25)]) F (c_X7_owes F.st F.gg (M23.1 29 y2.toNatClampNeg) (M23.1 29 (0 : Int32).toNatClampNeg) M23) (fun _ _ => rfl) dX7_closes_76 ml_X7_123 ys_X7_owes rfl (by decide) rfl (Nat.le_of_ble_eq_true rfl) (fun _ => rfl) (fun r76 M76 => ?_)
          refine r_chk (fun h8 => ?_)
          refine r_iald F dX7_closes_79 (rfl : kd 25 = 8) (rfl : al 25 = 3424) h8 ?_
          refine r_if_le (tgt := 9) F dX7_closes_80 (by decide) (fun c9 => ?_) (fun c9 => ?_)
          · refine r_sub [0, 1, 2] rfl ?_
            exact ih y1 y2 M76
          · refine r_iconst F dX7_closes_83 (v := 1) (by decide) ?_
            exact r_zret F rfl dX7_closes_84 rfl (by decide)
        · refine r_iinc (ls' := fun q9 => [(2, .int q9), (0, .ref (gA G 24)), (1, .int y1)]) (k := 2) (v := y2 + (1 : Int32)) F dX7_closes_47 rfl rfl (by decide) (fun _ => rfl) (fun x47 => ?_)
          refine r_aload_n F 1 dX7_closes_50 rfl rfl ?_
          refine gf_X7_22 F dX7_closes_51 (rfl : kd 24 = 7) ?_
          refine r_iload_n F 0 dX7_closes_54 rfl rfl ?_
          refine r_iconst F dX7_closes_55 (v := -1) (by decide) ?_
          refine r_chk (fun h10 => ?_)
          refine r_iast F dX7_closes_56 (rfl : kd 29 = 8) (rfl : al 29 = 7) h10 (fun M56 => ?_)
          refine r_goto (tgt := 9) F dX7_closes_57 (by decide) ?_
          refine r_sub [1, 2, 0] rfl ?_
          exact ih y1 x47 M56

def f_X7_closes (a1 : Int32) (M : Mem) : Option (Int32 × Mem) := chk (inb (1 : Int32) 7) <| bnd (mw M 29 (1 : Int32).toNatClampNeg (-1 : Int32)) fun M8 => f_X7_closes_9  FU a1 (1 : Int32) M8

set_option maxRecDepth 100000 in
set_option maxHeartbeats 4000000 in
theorem b_X7_closes {G : GM} {p : Program} {l : Launch} {e : Env} {s : State} {m : MethodId} {args : Array Value} {below : List Frame} {meth : Method} {c : Code} (F : Fx G p l s m args meth c cX7_closes RX7 3 (some .boolean)) (a1 : Int32) (M : Mem) : Rf G p l e s m args below meth c 8 3 emI (f_X7_closes a1 M) 0 [(0, .ref (gA G 24)), (1, .int a1)] [] M := by
  unfold f_X7_closes
  refine r_iconst F dX7_closes_0 (v := 1) (by decide) ?_
  refine r_istore_n (ls' := [(2, .int (1 : Int32)), (0, .ref (gA G 24)), (1, .int a1)]) F dX7_closes_1 rfl (by decide) rfl ?_
  refine r_aload_n F 1 dX7_closes_2 rfl rfl ?_
  refine gf_X7_22 F dX7_closes_3 (rfl : kd 24 = 7) ?_
  refine r_iconst F dX7_closes_6 (v := 1) (by decide) ?_
  refine r_iconst F dX7_closes_7 (v := -1) (by decide) ?_
  refine r_chk (fun h1 => ?_)
  refine r_iast F dX7_closes_8 (rfl : kd 29 = 8) (rfl : al 29 = 7) h1 (fun M8 => ?_)
  refine r_sub [1, 2, 0] rfl ?_
  exact l_X7_closes_9 F   FU a1 (1 : Int32) M8

set_option maxRecDepth 100000 in
set_option maxHeartbeats 4000000 in
theorem c_X7_closes {l : Launch} {G : GM} (hl : l.stackTraces = false) (hG : GG G) (a1 : Int32) (M : Mem) : ∀ r, f_X7_closes a1 M = some r → Ctr l G yX7_closes (.code yX7_closes cX7_closes 3 (some .boolean) :: wsA) 8 [.ref (gA G 24), .int a1] M (emI r) :=
  ctr_of (by decide) hl hG (Nat.le_of_ble_eq_true rfl) (fun p e s m args below meth c F => b_X7_closes F a1 M)

-- ===== X7_owing DrumTownsModel.owing()I =====
theorem yv_X7_owing : yV yX7_owing cX7_owing 3 (some .int) 0 := ⟨im_X7_owing, sl_X7_owing, ini_X7, cd_X7_owing, ⟨by decide, by decide, by decide +kernel⟩, by decide⟩

def f_X7_owing_29 (k4 : Int32 → Int32 → Mem → Option (Int32 × Mem)) (y2 : Int32) (z0 : Int32) (z1 : Int32) (M : Mem) : Option (Int32 × Mem) := bnd (z0 + z1) fun x30 => bnd (y2 + (1 : Int32)) fun x31 => k4 x30 x31 M

set_option maxRecDepth 100000 in
set_option maxHeartbeats 4000000 in
theorem l_X7_owing_29 {G : GM} {p : Program} {l : Launch} {e : Env} {s : State} {m : MethodId} {args : Array Value} {below : List Frame} {meth : Method} {c : Code} (F : Fx G p l s m args meth c cX7_owing RX7 3 (some .int)) (k4 : Int32 → Int32 → Mem → Option (Int32 × Mem)) (H4 : ∀ (y1 : Int32) (y2 : Int32) (M : Mem), Rf G p l e s m args below meth c 6 3 emI (k4 y1 y2 M) 4 [(0, .ref (gA G 24)), (1, .int y1), (2, .int y2)] [] M) (y2 : Int32) (z0 : Int32) (z1 : Int32) (M : Mem) : Rf G p l e s m args below meth c 6 3 emI (f_X7_owing_29 k4 y2 z0 z1 M) 29 [(0, .ref (gA G 24)), (2, .int y2)] [.int z1, .int z0] M := by
  unfold f_X7_owing_29
  refine r_iadd F dX7_owing_29 ?_
  refine r_bi (fun x30 => ?_)
  refine r_istore_n (ls' := [(1, .int x30), (0, .ref (gA G 24)), (2, .int y2)]) F dX7_owing_30 rfl (by decide) rfl ?_
  refine r_iinc (ls' := fun q9 => [(2, .int q9), (1, .int x30), (0, .ref (gA G 24))]) (k := 2) (v := y2 + (1 : Int32)) F dX7_owing_31 rfl rfl (by decide) (fun _ => rfl) (fun x31 => ?_)
  refine r_goto (tgt := 4) F dX7_owing_34 (by decide) ?_
  refine r_sub [2, 1, 0] rfl ?_
  exact H4 x30 x31 M

def f_X7_owing_4 : Nat → Int32 → Int32 → Mem → Option (Int32 × Mem)
  | 0, _, _, _ => none
  | n + 1, y1, y2, M => if (36 : Int32) ≤ y2 then (some (y1, M)) else (chk (inb ((366 : Int32) + y2) 3424) <| if (M.1 25 ((366 : Int32) + y2).toNatClampNeg) ≤ 0 then (f_X7_owing_29 (f_X7_owing_4  n) y2 y1 (0 : Int32) M) else (f_X7_owing_29 (f_X7_owing_4  n) y2 y1 (1 : Int32) M))

set_option maxRecDepth 100000 in
set_option maxHeartbeats 4000000 in
theorem l_X7_owing_4 {G : GM} {p : Program} {l : Launch} {e : Env} {s : State} {m : MethodId} {args : Array Value} {below : List Frame} {meth : Method} {c : Code} (F : Fx G p l s m args meth c cX7_owing RX7 3 (some .int)) : ∀ (n : Nat) (y1 : Int32) (y2 : Int32) (M : Mem), Rf G p l e s m args below meth c 6 3 emI (f_X7_owing_4  n y1 y2 M) 4 [(0, .ref (gA G 24)), (1, .int y1), (2, .int y2)] [] M := by
  intro n
  induction n with
  | zero => intros; exact r_none
  | succ n ih =>
    intro y1 y2 M
    rw [f_X7_owing_4]
    refine r_iload_n F 2 dX7_owing_4 rfl rfl ?_
    refine r_bipush F dX7_owing_5 (v := 36) (by decide) ?_
    refine r_icmp_ge (tgt := 37) F dX7_owing_7 (by decide) (fun c1 => ?_) (fun c1 => ?_)
    · refine r_iload_n F 1 dX7_owing_37 rfl rfl ?_
      exact r_iret F rfl dX7_owing_38 rfl
    · refine r_iload_n F 1 dX7_owing_10 rfl rfl ?_
      refine r_aload_n F 0 dX7_owing_11 rfl rfl ?_
      refine gf_X7_7 F dX7_owing_12 (rfl : kd 24 = 7) ?_
      refine r_sipush F dX7_owing_15 (v := 366) (by decide) ?_
      refine r_iload_n F 2 dX7_owing_18 rfl rfl ?_
      refine r_iadd F dX7_owing_19 ?_
      refine r_chk (fun h2 => ?_)
      refine r_iald F dX7_owing_20 (rfl : kd 25 = 8) (rfl : al 25 = 3424) h2 ?_
      refine r_if_le (tgt := 28) F dX7_owing_21 (by decide) (fun c3 => ?_) (fun c3 => ?_)
      · refine r_iconst F dX7_owing_28 (v := 0) (by decide) ?_
        refine r_sub [0, 2] rfl ?_
        exact l_X7_owing_29 F (f_X7_owing_4  n) (fun q0 q1 M9 => ih q0 q1 M9) y2 y1 (0 : Int32) M
      · refine r_iconst F dX7_owing_24 (v := 1) (by decide) ?_
        refine r_goto (tgt := 29) F dX7_owing_25 (by decide) ?_
        refine r_sub [0, 2] rfl ?_
        exact l_X7_owing_29 F (f_X7_owing_4  n) (fun q0 q1 M9 => ih q0 q1 M9) y2 y1 (1 : Int32) M

def f_X7_owing  (M : Mem) : Option (Int32 × Mem) := f_X7_owing_4  FU (0 : Int32) (0 : Int32) M

set_option maxRecDepth 100000 in
set_option maxHeartbeats 4000000 in
theorem b_X7_owing {G : GM} {p : Program} {l : Launch} {e : Env} {s : State} {m : MethodId} {args : Array Value} {below : List Frame} {meth : Method} {c : Code} (F : Fx G p l s m args meth c cX7_owing RX7 3 (some .int))  (M : Mem) : Rf G p l e s m args below meth c 6 3 emI (f_X7_owing  M) 0 [(0, .ref (gA G 24))] [] M := by
  unfold f_X7_owing
  refine r_iconst F dX7_owing_0 (v := 0) (by decide) ?_
  refine r_istore_n (ls' := [(1, .int (0 : Int32)), (0, .ref (gA G 24))]) F dX7_owing_1 rfl (by decide) rfl ?_
  refine r_iconst F dX7_owing_2 (v := 0) (by decide) ?_
  refine r_istore_n (ls' := [(2, .int (0 : Int32)), (1, .int (0 : Int32)), (0, .ref (gA G 24))]) F dX7_owing_3 rfl (by decide) rfl ?_
  refine r_sub [2, 1, 0] rfl ?_
  exact l_X7_owing_4 F   FU (0 : Int32) (0 : Int32) M

set_option maxRecDepth 100000 in
set_option maxHeartbeats 4000000 in
theorem c_X7_owing {l : Launch} {G : GM} (hl : l.stackTraces = false) (hG : GG G)  (M : Mem) : ∀ r, f_X7_owing  M = some r → Ctr l G yX7_owing (.code yX7_owing cX7_owing 3 (some .int) :: wsA) 6 [.ref (gA G 24)] M (emI r) :=
  ctr_of (by decide) hl hG (Nat.le_of_ble_eq_true rfl) (fun p e s m args below meth c F => b_X7_owing F  M)

-- ===== X7_sumOf DrumTownsModel.sumOf(I)I =====
theorem yv_X7_sumOf : yV yX7_sumOf cX7_sumOf 4 (some .int) 1 := ⟨im_X7_sumOf, sl_X7_sumOf, ini_X7, cd_X7_sumOf, ⟨by decide, by decide, by decide +kernel⟩, by decide⟩

def f_X7_sumOf_4 : Nat → Int32 → Int32 → Int32 → Mem → Option (Int32 × Mem)
  | 0, _, _, _, _ => none
  | n + 1, y1, y2, y3, M => chk (inb (423 : Int32) 3424) <| if (M.1 25 (423 : Int32).toNatClampNeg) ≤ y3 then (some (y2, M)) else (bn (f_X7_townOf y3 y1 M) fun r20 M20 => bnd (y2 + r20) fun x24 => bnd (y3 + (1 : Int32)) fun x25 => f_X7_sumOf_4  n y1 x24 x25 M20)

set_option maxRecDepth 100000 in
set_option maxHeartbeats 4000000 in
theorem l_X7_sumOf_4 {G : GM} {p : Program} {l : Launch} {e : Env} {s : State} {m : MethodId} {args : Array Value} {below : List Frame} {meth : Method} {c : Code} (F : Fx G p l s m args meth c cX7_sumOf RX7 4 (some .int)) : ∀ (n : Nat) (y1 : Int32) (y2 : Int32) (y3 : Int32) (M : Mem), Rf G p l e s m args below meth c 9 4 emI (f_X7_sumOf_4  n y1 y2 y3 M) 4 [(0, .ref (gA G 24)), (1, .int y1), (2, .int y2), (3, .int y3)] [] M := by
  intro n
  induction n with
  | zero => intros; exact r_none
  | succ n ih =>
    intro y1 y2 y3 M
    rw [f_X7_sumOf_4]
    refine r_iload_n F 3 dX7_sumOf_4 rfl rfl ?_
    refine r_aload_n F 0 dX7_sumOf_5 rfl rfl ?_
    refine gf_X7_7 F dX7_sumOf_6 (rfl : kd 24 = 7) ?_
    refine r_sipush F dX7_sumOf_9 (v := 423) (by decide) ?_
    refine r_chk (fun h1 => ?_)
    refine r_iald F dX7_sumOf_12 (rfl : kd 25 = 8) (rfl : al 25 = 3424) h1 ?_
    refine r_icmp_ge (tgt := 31) F dX7_sumOf_13 (by decide) (fun c2 => ?_) (fun c2 => ?_)
    · refine r_iload_n F 2 dX7_sumOf_31 rfl rfl ?_
      exact r_iret F rfl dX7_sumOf_32 rfl
    · refine r_iload_n F 2 dX7_sumOf_16 rfl rfl ?_
      refine r_aload_n F 0 dX7_sumOf_17 rfl rfl ?_
      refine r_iload_n F 3 dX7_sumOf_18 rfl rfl ?_
      refine r_iload_n F 1 dX7_sumOf_19 rfl rfl ?_
      refine r_cV (val := vI) (As := [.int y3, .int y1]) (rest := [.int y2]) (fun q9 => .int q9 :: [.int y2]) F (c_X7_townOf F.st F.gg y3 y1 M) (fun _ _ => rfl) dX7_sumOf_20 ml_X7_181 yv_X7_townOf (rfl : kd 24 = 7) (by decide) rfl rfl (by decide) rfl (Nat.le_of_ble_eq_true rfl) (fun _ => rfl) (fun r20 M20 => ?_)
      refine r_iadd F dX7_sumOf_23 ?_
      refine r_bi (fun x24 => ?_)
      refine r_istore_n (ls' := [(2, .int x24), (0, .ref (gA G 24)), (1, .int y1), (3, .int y3)]) F dX7_sumOf_24 rfl (by decide) rfl ?_
      refine r_iinc (ls' := fun q9 => [(3, .int q9), (2, .int x24), (0, .ref (gA G 24)), (1, .int y1)]) (k := 3) (v := y3 + (1 : Int32)) F dX7_sumOf_25 rfl rfl (by decide) (fun _ => rfl) (fun x25 => ?_)
      refine r_goto (tgt := 4) F dX7_sumOf_28 (by decide) ?_
      refine r_sub [2, 3, 1, 0] rfl ?_
      exact ih y1 x24 x25 M20

def f_X7_sumOf (a1 : Int32) (M : Mem) : Option (Int32 × Mem) := f_X7_sumOf_4  FU a1 (0 : Int32) (0 : Int32) M

set_option maxRecDepth 100000 in
set_option maxHeartbeats 4000000 in
theorem b_X7_sumOf {G : GM} {p : Program} {l : Launch} {e : Env} {s : State} {m : MethodId} {args : Array Value} {below : List Frame} {meth : Method} {c : Code} (F : Fx G p l s m args meth c cX7_sumOf RX7 4 (some .int)) (a1 : Int32) (M : Mem) : Rf G p l e s m args below meth c 9 4 emI (f_X7_sumOf a1 M) 0 [(0, .ref (gA G 24)), (1, .int a1)] [] M := by
  unfold f_X7_sumOf
  refine r_iconst F dX7_sumOf_0 (v := 0) (by decide) ?_
  refine r_istore_n (ls' := [(2, .int (0 : Int32)), (0, .ref (gA G 24)), (1, .int a1)]) F dX7_sumOf_1 rfl (by decide) rfl ?_
  refine r_iconst F dX7_sumOf_2 (v := 0) (by decide) ?_
  refine r_istore_n (ls' := [(3, .int (0 : Int32)), (2, .int (0 : Int32)), (0, .ref (gA G 24)), (1, .int a1)]) F dX7_sumOf_3 rfl (by decide) rfl ?_
  refine r_sub [2, 3, 1, 0] rfl ?_
  exact l_X7_sumOf_4 F   FU a1 (0 : Int32) (0 : Int32) M

set_option maxRecDepth 100000 in
set_option maxHeartbeats 4000000 in
theorem c_X7_sumOf {l : Launch} {G : GM} (hl : l.stackTraces = false) (hG : GG G) (a1 : Int32) (M : Mem) : ∀ r, f_X7_sumOf a1 M = some r → Ctr l G yX7_sumOf (.code yX7_sumOf cX7_sumOf 4 (some .int) :: wsA) 9 [.ref (gA G 24), .int a1] M (emI r) :=
  ctr_of (by decide) hl hG (Nat.le_of_ble_eq_true rfl) (fun p e s m args below meth c F => b_X7_sumOf F a1 M)

-- ===== X7_countOf DrumTownsModel.countOf(I)I =====
theorem yv_X7_countOf : yV yX7_countOf cX7_countOf 2 (some .int) 1 := ⟨im_X7_countOf, sl_X7_countOf, ini_X7, cd_X7_countOf, ⟨by decide, by decide, by decide +kernel⟩, by decide⟩

def f_X7_countOf (a1 : Int32) (M : Mem) : Option (Int32 × Mem) := if a1 = 0 then (chk (inb (423 : Int32) 3424) <| some ((M.1 25 (423 : Int32).toNatClampNeg), M)) else (if a1 = 1 then (bn (f_X7_sumOf (0 : Int32) M) fun r67 M67 => bn (f_X7_sumOf (1 : Int32) M67) fun r72 M72 => some ((r67 + r72), M72)) else (if a1 = 2 then (bn (f_X7_sumOf (0 : Int32) M) fun r79 M79 => some (r79, M79)) else (if a1 = 3 then (bn (f_X7_sumOf (6 : Int32) M) fun r86 M86 => some (r86, M86)) else (if a1 = 4 then (bn (f_X7_owing M) fun r91 M91 => some (r91, M91)) else (if a1 = 5 then (chk (inb (424 : Int32) 3424) <| some ((M.1 25 (424 : Int32).toNatClampNeg), M)) else (if a1 = 6 then (chk (inb (425 : Int32) 3424) <| some ((M.1 25 (425 : Int32).toNatClampNeg), M)) else (if a1 = 7 then (chk (inb (426 : Int32) 3424) <| some ((M.1 25 (426 : Int32).toNatClampNeg), M)) else (if a1 = 8 then (chk (inb (427 : Int32) 3424) <| some ((M.1 25 (427 : Int32).toNatClampNeg), M)) else (if a1 = 9 then (bn (f_X7_sumOf (3 : Int32) M) fun r133 M133 => some (r133, M133)) else (some ((M.1 24 1), M)))))))))))

set_option maxRecDepth 100000 in
set_option maxHeartbeats 4000000 in
theorem b_X7_countOf {G : GM} {p : Program} {l : Launch} {e : Env} {s : State} {m : MethodId} {args : Array Value} {below : List Frame} {meth : Method} {c : Code} (F : Fx G p l s m args meth c cX7_countOf RX7 2 (some .int)) (a1 : Int32) (M : Mem) : Rf G p l e s m args below meth c 10 2 emI (f_X7_countOf a1 M) 0 [(0, .ref (gA G 24)), (1, .int a1)] [] M := by
  unfold f_X7_countOf
  refine r_iload_n F 1 dX7_countOf_0 rfl rfl ?_
  refine r_ite (fun c1 => ?_) (fun c1 => ?_)
  · refine r_tabIn (tgt := 56) F dX7_countOf_1 c1 (by decide) (by decide) rfl (by decide) ?_
    refine r_aload_n F 0 dX7_countOf_56 rfl rfl ?_
    refine gf_X7_7 F dX7_countOf_57 (rfl : kd 24 = 7) ?_
    refine r_sipush F dX7_countOf_60 (v := 423) (by decide) ?_
    refine r_chk (fun h2 => ?_)
    refine r_iald F dX7_countOf_63 (rfl : kd 25 = 8) (rfl : al 25 = 3424) h2 ?_
    exact r_iret F rfl dX7_countOf_64 rfl
  refine r_ite (fun c3 => ?_) (fun c3 => ?_)
  · refine r_tabIn (tgt := 65) F dX7_countOf_1 c3 (by decide) (by decide) rfl (by decide) ?_
    refine r_aload_n F 0 dX7_countOf_65 rfl rfl ?_
    refine r_iconst F dX7_countOf_66 (v := 0) (by decide) ?_
    refine r_cV (val := vI) (As := [.int (0 : Int32)]) (rest := []) (fun q9 => .int q9 :: []) F (c_X7_sumOf F.st F.gg (0 : Int32) M) (fun _ _ => rfl) dX7_countOf_67 ml_X7_187 yv_X7_sumOf (rfl : kd 24 = 7) (by decide) rfl rfl (by decide) rfl (Nat.le_of_ble_eq_true rfl) (fun _ => rfl) (fun r67 M67 => ?_)
    refine r_aload_n F 0 dX7_countOf_70 rfl rfl ?_
    refine r_iconst F dX7_countOf_71 (v := 1) (by decide) ?_
    refine r_cV (val := vI) (As := [.int (1 : Int32)]) (rest := [.int r67]) (fun q9 => .int q9 :: [.int r67]) F (c_X7_sumOf F.st F.gg (1 : Int32) M67) (fun _ _ => rfl) dX7_countOf_72 ml_X7_187 yv_X7_sumOf (rfl : kd 24 = 7) (by decide) rfl rfl (by decide) rfl (Nat.le_of_ble_eq_true rfl) (fun _ => rfl) (fun r72 M72 => ?_)
    refine r_iadd F dX7_countOf_75 ?_
    exact r_iret F rfl dX7_countOf_76 rfl
  refine r_ite (fun c4 => ?_) (fun c4 => ?_)
  · refine r_tabIn (tgt := 77) F dX7_countOf_1 c4 (by decide) (by decide) rfl (by decide) ?_
    refine r_aload_n F 0 dX7_countOf_77 rfl rfl ?_
    refine r_iconst F dX7_countOf_78 (v := 0) (by decide) ?_
    refine r_cV (val := vI) (As := [.int (0 : Int32)]) (rest := []) (fun q9 => .int q9 :: []) F (c_X7_sumOf F.st F.gg (0 : Int32) M) (fun _ _ => rfl) dX7_countOf_79 ml_X7_187 yv_X7_sumOf (rfl : kd 24 = 7) (by decide) rfl rfl (by decide) rfl (Nat.le_of_ble_eq_true rfl) (fun _ => rfl) (fun r79 M79 => ?_)
    exact r_iret F rfl dX7_countOf_82 rfl
  refine r_ite (fun c5 => ?_) (fun c5 => ?_)
  · refine r_tabIn (tgt := 83) F dX7_countOf_1 c5 (by decide) (by decide) rfl (by decide) ?_
    refine r_aload_n F 0 dX7_countOf_83 rfl rfl ?_
    refine r_bipush F dX7_countOf_84 (v := 6) (by decide) ?_
    refine r_cV (val := vI) (As := [.int (6 : Int32)]) (rest := []) (fun q9 => .int q9 :: []) F (c_X7_sumOf F.st F.gg (6 : Int32) M) (fun _ _ => rfl) dX7_countOf_86 ml_X7_187 yv_X7_sumOf (rfl : kd 24 = 7) (by decide) rfl rfl (by decide) rfl (Nat.le_of_ble_eq_true rfl) (fun _ => rfl) (fun r86 M86 => ?_)
    exact r_iret F rfl dX7_countOf_89 rfl
  refine r_ite (fun c6 => ?_) (fun c6 => ?_)
  · refine r_tabIn (tgt := 90) F dX7_countOf_1 c6 (by decide) (by decide) rfl (by decide) ?_
    refine r_aload_n F 0 dX7_countOf_90 rfl rfl ?_
    refine r_cV (val := vI) (As := []) (rest := []) (fun q9 => .int q9 :: []) F (c_X7_owing F.st F.gg  M) (fun _ _ => rfl) dX7_countOf_91 ml_X7_190 yv_X7_owing (rfl : kd 24 = 7) (by decide) rfl rfl (by decide) rfl (Nat.le_of_ble_eq_true rfl) (fun _ => rfl) (fun r91 M91 => ?_)
    exact r_iret F rfl dX7_countOf_94 rfl
  refine r_ite (fun c7 => ?_) (fun c7 => ?_)
  · refine r_tabIn (tgt := 95) F dX7_countOf_1 c7 (by decide) (by decide) rfl (by decide) ?_
    refine r_aload_n F 0 dX7_countOf_95 rfl rfl ?_
    refine gf_X7_7 F dX7_countOf_96 (rfl : kd 24 = 7) ?_
    refine r_sipush F dX7_countOf_99 (v := 424) (by decide) ?_
    refine r_chk (fun h8 => ?_)
    refine r_iald F dX7_countOf_102 (rfl : kd 25 = 8) (rfl : al 25 = 3424) h8 ?_
    exact r_iret F rfl dX7_countOf_103 rfl
  refine r_ite (fun c9 => ?_) (fun c9 => ?_)
  · refine r_tabIn (tgt := 104) F dX7_countOf_1 c9 (by decide) (by decide) rfl (by decide) ?_
    refine r_aload_n F 0 dX7_countOf_104 rfl rfl ?_
    refine gf_X7_7 F dX7_countOf_105 (rfl : kd 24 = 7) ?_
    refine r_sipush F dX7_countOf_108 (v := 425) (by decide) ?_
    refine r_chk (fun h10 => ?_)
    refine r_iald F dX7_countOf_111 (rfl : kd 25 = 8) (rfl : al 25 = 3424) h10 ?_
    exact r_iret F rfl dX7_countOf_112 rfl
  refine r_ite (fun c11 => ?_) (fun c11 => ?_)
  · refine r_tabIn (tgt := 113) F dX7_countOf_1 c11 (by decide) (by decide) rfl (by decide) ?_
    refine r_aload_n F 0 dX7_countOf_113 rfl rfl ?_
    refine gf_X7_7 F dX7_countOf_114 (rfl : kd 24 = 7) ?_
    refine r_sipush F dX7_countOf_117 (v := 426) (by decide) ?_
    refine r_chk (fun h12 => ?_)
    refine r_iald F dX7_countOf_120 (rfl : kd 25 = 8) (rfl : al 25 = 3424) h12 ?_
    exact r_iret F rfl dX7_countOf_121 rfl
  refine r_ite (fun c13 => ?_) (fun c13 => ?_)
  · refine r_tabIn (tgt := 122) F dX7_countOf_1 c13 (by decide) (by decide) rfl (by decide) ?_
    refine r_aload_n F 0 dX7_countOf_122 rfl rfl ?_
    refine gf_X7_7 F dX7_countOf_123 (rfl : kd 24 = 7) ?_
    refine r_sipush F dX7_countOf_126 (v := 427) (by decide) ?_
    refine r_chk (fun h14 => ?_)
    refine r_iald F dX7_countOf_129 (rfl : kd 25 = 8) (rfl : al 25 = 3424) h14 ?_
    exact r_iret F rfl dX7_countOf_130 rfl
  refine r_ite (fun c15 => ?_) (fun c15 => ?_)
  · refine r_tabIn (tgt := 131) F dX7_countOf_1 c15 (by decide) (by decide) rfl (by decide) ?_
    refine r_aload_n F 0 dX7_countOf_131 rfl rfl ?_
    refine r_iconst F dX7_countOf_132 (v := 3) (by decide) ?_
    refine r_cV (val := vI) (As := [.int (3 : Int32)]) (rest := []) (fun q9 => .int q9 :: []) F (c_X7_sumOf F.st F.gg (3 : Int32) M) (fun _ _ => rfl) dX7_countOf_133 ml_X7_187 yv_X7_sumOf (rfl : kd 24 = 7) (by decide) rfl rfl (by decide) rfl (Nat.le_of_ble_eq_true rfl) (fun _ => rfl) (fun r133 M133 => ?_)
    exact r_iret F rfl dX7_countOf_136 rfl
  refine r_tabOut (tgt := 137) F dX7_countOf_1 (by have n0 := lv_neT (a := 0) c1 (by decide); have n1 := lv_neT (a := 1) c3 (by decide); have n2 := lv_neT (a := 2) c4 (by decide); have n3 := lv_neT (a := 3) c5 (by decide); have n4 := lv_neT (a := 4) c6 (by decide); have n5 := lv_neT (a := 5) c7 (by decide); have n6 := lv_neT (a := 6) c9 (by decide); have n7 := lv_neT (a := 7) c11 (by decide); have n8 := lv_neT (a := 8) c13 (by decide); have n9 := lv_neT (a := 9) c15 (by decide); omega) (by decide) ?_
  refine r_aload_n F 0 dX7_countOf_137 rfl rfl ?_
  refine gf_X7_49 F dX7_countOf_138 (rfl : kd 24 = 7) ?_
  exact r_iret F rfl dX7_countOf_141 rfl

set_option maxRecDepth 100000 in
set_option maxHeartbeats 4000000 in
theorem c_X7_countOf {l : Launch} {G : GM} (hl : l.stackTraces = false) (hG : GG G) (a1 : Int32) (M : Mem) : ∀ r, f_X7_countOf a1 M = some r → Ctr l G yX7_countOf (.code yX7_countOf cX7_countOf 2 (some .int) :: wsA) 10 [.ref (gA G 24), .int a1] M (emI r) :=
  ctr_of (by decide) hl hG (Nat.le_of_ble_eq_true rfl) (fun p e s m args below meth c F => b_X7_countOf F a1 M)

-- ===== X7_count DrumTownsModel.count(I)I =====
theorem yv_X7_count : yV yX7_count cX7_count 2 (some .int) 1 := ⟨im_X7_count, sl_X7_count, ini_X7, cd_X7_count, ⟨by decide, by decide, by decide +kernel⟩, by decide⟩

def f_X7_count_35 (z0 : Int32) (M : Mem) : Option (Int32 × Mem) := some (z0, M)

set_option maxRecDepth 100000 in
set_option maxHeartbeats 4000000 in
theorem l_X7_count_35 {G : GM} {p : Program} {l : Launch} {e : Env} {s : State} {m : MethodId} {args : Array Value} {below : List Frame} {meth : Method} {c : Code} (F : Fx G p l s m args meth c cX7_count RX7 2 (some .int)) (z0 : Int32) (M : Mem) : Rf G p l e s m args below meth c 11 2 emI (f_X7_count_35  z0 M) 35 [] [.int z0] M := by
  unfold f_X7_count_35
  exact r_iret F rfl dX7_count_35 rfl

def f_X7_count_16 (y1 : Int32) (z1 : Int32) (M : Mem) : Option (Int32 × Mem) := bnd (mw M 24 2 z1) fun M16 => if (M16.1 24 2) = 0 then (bn (f_X7_countOf y1 M16) fun r28 M28 => f_X7_count_35  r28 M28) else (f_X7_count_35  (0 : Int32) M16)

set_option maxRecDepth 100000 in
set_option maxHeartbeats 4000000 in
theorem l_X7_count_16 {G : GM} {p : Program} {l : Launch} {e : Env} {s : State} {m : MethodId} {args : Array Value} {below : List Frame} {meth : Method} {c : Code} (F : Fx G p l s m args meth c cX7_count RX7 2 (some .int)) (y1 : Int32) (z1 : Int32) (M : Mem) : Rf G p l e s m args below meth c 11 2 emI (f_X7_count_16  y1 z1 M) 16 [(0, .ref (gA G 24)), (1, .int y1)] [.int z1, .ref (gA G 24)] M := by
  unfold f_X7_count_16
  refine pf_X7_37 F dX7_count_16 (rfl : kd 24 = 7) (fun M16 => ?_)
  refine r_aload_n F 0 dX7_count_19 rfl rfl ?_
  refine gf_X7_37 F dX7_count_20 (rfl : kd 24 = 7) ?_
  refine r_if_ne (tgt := 34) F dX7_count_23 (by decide) (fun c1 => ?_) (fun c1 => ?_)
  · refine r_aload_n F 0 dX7_count_26 rfl rfl ?_
    refine r_iload_n F 1 dX7_count_27 rfl rfl ?_
    refine r_cV (val := vI) (As := [.int y1]) (rest := []) (fun q9 => .int q9 :: []) F (c_X7_countOf F.st F.gg y1 M16) (fun _ _ => rfl) dX7_count_28 ml_X7_193 yv_X7_countOf (rfl : kd 24 = 7) (by decide) rfl rfl (by decide) rfl (Nat.le_of_ble_eq_true rfl) (fun _ => rfl) (fun r28 M28 => ?_)
    refine r_goto (tgt := 35) F dX7_count_31 (by decide) ?_
    refine r_sub [] rfl ?_
    exact l_X7_count_35 F   r28 M28
  · refine r_iconst F dX7_count_34 (v := 0) (by decide) ?_
    refine r_sub [] rfl ?_
    exact l_X7_count_35 F   (0 : Int32) M16

def f_X7_count (a1 : Int32) (M : Mem) : Option (Int32 × Mem) := bn (f_X7_in a1 (0 : Int32) (10 : Int32) M) fun r5 M5 => if r5 = 0 then (f_X7_count_16  a1 (1 : Int32) M5) else (f_X7_count_16  a1 (0 : Int32) M5)

set_option maxRecDepth 100000 in
set_option maxHeartbeats 4000000 in
theorem b_X7_count {G : GM} {p : Program} {l : Launch} {e : Env} {s : State} {m : MethodId} {args : Array Value} {below : List Frame} {meth : Method} {c : Code} (F : Fx G p l s m args meth c cX7_count RX7 2 (some .int)) (a1 : Int32) (M : Mem) : Rf G p l e s m args below meth c 11 2 emI (f_X7_count a1 M) 0 [(0, .ref (gA G 24)), (1, .int a1)] [] M := by
  unfold f_X7_count
  refine r_aload_n F 0 dX7_count_0 rfl rfl ?_
  refine r_iload_n F 1 dX7_count_1 rfl rfl ?_
  refine r_iconst F dX7_count_2 (v := 0) (by decide) ?_
  refine r_bipush F dX7_count_3 (v := 10) (by decide) ?_
  refine r_cS (val := vI) (As := [.int a1, .int (0 : Int32), .int (10 : Int32)]) (rest := [.ref (gA G 24)]) (fun q9 => .int q9 :: [.ref (gA G 24)]) F (c_X7_in F.st F.gg a1 (0 : Int32) (10 : Int32) M) (fun _ _ => rfl) dX7_count_5 ml_X7_41 ys_X7_in rfl (by decide) rfl (Nat.le_of_ble_eq_true rfl) (fun _ => rfl) (fun r5 M5 => ?_)
  refine r_if_eq (tgt := 15) F dX7_count_8 (by decide) (fun c1 => ?_) (fun c1 => ?_)
  · refine r_iconst F dX7_count_15 (v := 1) (by decide) ?_
    refine r_sub [0, 1] rfl ?_
    exact l_X7_count_16 F   a1 (1 : Int32) M5
  · refine r_iconst F dX7_count_11 (v := 0) (by decide) ?_
    refine r_goto (tgt := 16) F dX7_count_12 (by decide) ?_
    refine r_sub [0, 1] rfl ?_
    exact l_X7_count_16 F   a1 (0 : Int32) M5

set_option maxRecDepth 100000 in
set_option maxHeartbeats 4000000 in
theorem c_X7_count {l : Launch} {G : GM} (hl : l.stackTraces = false) (hG : GG G) (a1 : Int32) (M : Mem) : ∀ r, f_X7_count a1 M = some r → Ctr l G yX7_count (.code yX7_count cX7_count 2 (some .int) :: wsA) 11 [.ref (gA G 24), .int a1] M (emI r) :=
  ctr_of (by decide) hl hG (Nat.le_of_ble_eq_true rfl) (fun p e s m args below meth c F => b_X7_count F a1 M)

