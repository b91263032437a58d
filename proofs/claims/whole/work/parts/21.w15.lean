-- ===== X7_stepOf DrumTownsModel.stepOf(III)I =====
theorem yv_X7_stepOf : yV yX7_stepOf cX7_stepOf 4 (some .int) 3 := ⟨im_X7_stepOf, sl_X7_stepOf, ini_X7, cd_X7_stepOf, ⟨by decide, by decide, by decide +kernel⟩, by decide⟩

def f_X7_stepOf_21 (y1 : Int32) (y2 : Int32) (z1 : Int32) (M : Mem) : Option (Int32 × Mem) := bn (f_X7_at z1 y1 y2 M) fun r23 M23 => chk (inb r23 3424) <| some ((M23.1 25 r23.toNatClampNeg), M23)

set_option maxRecDepth 100000 in
set_option maxHeartbeats 4000000 in
theorem l_X7_stepOf_21 {G : GM} {p : Program} {l : Launch} {e : Env} {s : State} {m : MethodId} {args : Array Value} {below : List Frame} {meth : Method} {c : Code} (F : Fx G p l s m args meth c cX7_stepOf RX7 4 (some .int)) (y1 : Int32) (y2 : Int32) (z1 : Int32) (M : Mem) : Rf G p l e s m args below meth c 10 4 emI (f_X7_stepOf_21  y1 y2 z1 M) 21 [(1, .int y1), (2, .int y2)] [.int z1, .ref (gA G 25)] M := by
  unfold f_X7_stepOf_21
  refine r_iload_n F 0 dX7_stepOf_21 rfl rfl ?_
  refine r_iload_n F 1 dX7_stepOf_22 rfl rfl ?_
  refine r_cS (val := vI) (As := [.int z1, .int y1, .int y2]) (rest := [.ref (gA G 25)]) (fun q9 => .int q9 :: [.ref (gA G 25)]) F (c_X7_at F.st F.gg z1 y1 y2 M) (fun _ _ => rfl) dX7_stepOf_23 ml_X7_56 ys_X7_at rfl (by decide) rfl (Nat.le_of_ble_eq_true rfl) (fun _ => rfl) (fun r23 M23 => ?_)
  refine r_chk (fun h1 => ?_)
  refine r_iald F dX7_stepOf_26 (rfl : kd 25 = 8) (rfl : al 25 = 3424) h1 ?_
  exact r_iret F rfl dX7_stepOf_27 rfl

def f_X7_stepOf (a1 : Int32) (a2 : Int32) (a3 : Int32) (M : Mem) : Option (Int32 × Mem) := if (2 : Int32) ≤ a3 then (bn (f_X7_tryPlaying a1 M) fun _ M30 => chk (inb a2 24) <| some ((M30.1 28 a2.toNatClampNeg), M30)) else (if a3 = 0 then (f_X7_stepOf_21  a1 a2 (6 : Int32) M) else (f_X7_stepOf_21  a1 a2 (150 : Int32) M))

set_option maxRecDepth 100000 in
set_option maxHeartbeats 4000000 in
theorem b_X7_stepOf {G : GM} {p : Program} {l : Launch} {e : Env} {s : State} {m : MethodId} {args : Array Value} {below : List Frame} {meth : Method} {c : Code} (F : Fx G p l s m args meth c cX7_stepOf RX7 4 (some .int)) (a1 : Int32) (a2 : Int32) (a3 : Int32) (M : Mem) : Rf G p l e s m args below meth c 10 4 emI (f_X7_stepOf a1 a2 a3 M) 0 [(0, .ref (gA G 24)), (1, .int a1), (2, .int a2), (3, .int a3)] [] M := by
  unfold f_X7_stepOf
  refine r_iload_n F 3 dX7_stepOf_0 rfl rfl ?_
  refine r_iconst F dX7_stepOf_1 (v := 2) (by decide) ?_
  refine r_icmp_ge (tgt := 28) F dX7_stepOf_2 (by decide) (fun c1 => ?_) (fun c1 => ?_)
  · refine r_aload_n F 0 dX7_stepOf_28 rfl rfl ?_
    refine r_iload_n F 1 dX7_stepOf_29 rfl rfl ?_
    refine r_cV (val := vU) (As := [.int a1]) (rest := []) (fun _ => []) F (c_X7_tryPlaying F.st F.gg a1 M) (fun _ _ => rfl) dX7_stepOf_30 ml_X7_103 yv_X7_tryPlaying (rfl : kd 24 = 7) (by decide) rfl rfl (by decide) rfl (Nat.le_of_ble_eq_true rfl) (fun _ => rfl) (fun _ M30 => ?_)
    refine r_aload_n F 0 dX7_stepOf_33 rfl rfl ?_
    refine gf_X7_19 F dX7_stepOf_34 (rfl : kd 24 = 7) ?_
    refine r_iload_n F 2 dX7_stepOf_37 rfl rfl ?_
    refine r_chk (fun h2 => ?_)
    refine r_iald F dX7_stepOf_38 (rfl : kd 28 = 8) (rfl : al 28 = 24) h2 ?_
    exact r_iret F rfl dX7_stepOf_39 rfl
  · refine r_aload_n F 0 dX7_stepOf_5 rfl rfl ?_
    refine gf_X7_7 F dX7_stepOf_6 (rfl : kd 24 = 7) ?_
    refine r_iload_n F 3 dX7_stepOf_9 rfl rfl ?_
    refine r_if_ne (tgt := 18) F dX7_stepOf_10 (by decide) (fun c3 => ?_) (fun c3 => ?_)
    · refine r_bipush F dX7_stepOf_13 (v := 6) (by decide) ?_
      refine r_goto (tgt := 21) F dX7_stepOf_15 (by decide) ?_
      refine r_sub [1, 2] rfl ?_
      exact l_X7_stepOf_21 F   a1 a2 (6 : Int32) M
    · refine r_sipush F dX7_stepOf_18 (v := 150) (by decide) ?_
      refine r_sub [1, 2] rfl ?_
      exact l_X7_stepOf_21 F   a1 a2 (150 : Int32) M

set_option maxRecDepth 100000 in
set_option maxHeartbeats 4000000 in
theorem c_X7_stepOf {l : Launch} {G : GM} (hl : l.stackTraces = false) (hG : GG G) (a1 : Int32) (a2 : Int32) (a3 : Int32) (M : Mem) : ∀ r, f_X7_stepOf a1 a2 a3 M = some r → Ctr l G yX7_stepOf (.code yX7_stepOf cX7_stepOf 4 (some .int) :: wsA) 10 [.ref (gA G 24), .int a1, .int a2, .int a3] M (emI r) :=
  ctr_of (by decide) hl hG (Nat.le_of_ble_eq_true rfl) (fun p e s m args below meth c F => b_X7_stepOf F a1 a2 a3 M)

-- ===== X7_step DrumTownsModel.step(III)I =====
theorem yv_X7_step : yV yX7_step cX7_step 4 (some .int) 3 := ⟨im_X7_step, sl_X7_step, ini_X7, cd_X7_step, ⟨by decide, by decide, by decide +kernel⟩, by decide⟩

def f_X7_step_50 (z0 : Int32) (M : Mem) : Option (Int32 × Mem) := some (z0, M)

set_option maxRecDepth 100000 in
set_option maxHeartbeats 4000000 in
theorem l_X7_step_50 {G : GM} {p : Program} {l : Launch} {e : Env} {s : State} {m : MethodId} {args : Array Value} {below : List Frame} {meth : Method} {c : Code} (F : Fx G p l s m args meth c cX7_step RX7 4 (some .int)) (z0 : Int32) (M : Mem) : Rf G p l e s m args below meth c 11 4 emI (f_X7_step_50  z0 M) 50 [] [.int z0] M := by
  unfold f_X7_step_50
  exact r_iret F rfl dX7_step_50 rfl

def f_X7_step_29 (y1 : Int32) (y2 : Int32) (y3 : Int32) (z1 : Int32) (M : Mem) : Option (Int32 × Mem) := bnd (mw M 24 2 z1) fun M29 => if (M29.1 24 2) = 0 then (bn (f_X7_stepOf y1 y2 y3 M29) fun r43 M43 => f_X7_step_50  r43 M43) else (f_X7_step_50  (0 : Int32) M29)

set_option maxRecDepth 100000 in
set_option maxHeartbeats 4000000 in
theorem l_X7_step_29 {G : GM} {p : Program} {l : Launch} {e : Env} {s : State} {m : MethodId} {args : Array Value} {below : List Frame} {meth : Method} {c : Code} (F : Fx G p l s m args meth c cX7_step RX7 4 (some .int)) (y1 : Int32) (y2 : Int32) (y3 : Int32) (z1 : Int32) (M : Mem) : Rf G p l e s m args below meth c 11 4 emI (f_X7_step_29  y1 y2 y3 z1 M) 29 [(0, .ref (gA G 24)), (1, .int y1), (2, .int y2), (3, .int y3)] [.int z1, .ref (gA G 24)] M := by
  unfold f_X7_step_29
  refine pf_X7_37 F dX7_step_29 (rfl : kd 24 = 7) (fun M29 => ?_)
  refine r_aload_n F 0 dX7_step_32 rfl rfl ?_
  refine gf_X7_37 F dX7_step_33 (rfl : kd 24 = 7) ?_
  refine r_if_ne (tgt := 49) F dX7_step_36 (by decide) (fun c1 => ?_) (fun c1 => ?_)
  · refine r_aload_n F 0 dX7_step_39 rfl rfl ?_
    refine r_iload_n F 1 dX7_step_40 rfl rfl ?_
    refine r_iload_n F 2 dX7_step_41 rfl rfl ?_
    refine r_iload_n F 3 dX7_step_42 rfl rfl ?_
    refine r_cV (val := vI) (As := [.int y1, .int y2, .int y3]) (rest := []) (fun q9 => .int q9 :: []) F (c_X7_stepOf F.st F.gg y1 y2 y3 M29) (fun _ _ => rfl) dX7_step_43 ml_X7_184 yv_X7_stepOf (rfl : kd 24 = 7) (by decide) rfl rfl (by decide) rfl (Nat.le_of_ble_eq_true rfl) (fun _ => rfl) (fun r43 M43 => ?_)
    refine r_goto (tgt := 50) F dX7_step_46 (by decide) ?_
    refine r_sub [] rfl ?_
    exact l_X7_step_50 F   r43 M43
  · refine r_iconst F dX7_step_49 (v := 0) (by decide) ?_
    refine r_sub [] rfl ?_
    exact l_X7_step_50 F   (0 : Int32) M29

def f_X7_step (a1 : Int32) (a2 : Int32) (a3 : Int32) (M : Mem) : Option (Int32 × Mem) := bn (f_X7_isPlace a1 a2 (0 : Int32) M) fun r5 M5 => if r5 = 0 then (f_X7_step_29  a1 a2 a3 (1 : Int32) M5) else (bn (f_X7_in a3 (0 : Int32) (2 : Int32) M5) fun r18 M18 => if r18 = 0 then (f_X7_step_29  a1 a2 a3 (2 : Int32) M18) else (f_X7_step_29  a1 a2 a3 (0 : Int32) M18))

set_option maxRecDepth 100000 in
set_option maxHeartbeats 4000000 in
theorem b_X7_step {G : GM} {p : Program} {l : Launch} {e : Env} {s : State} {m : MethodId} {args : Array Value} {below : List Frame} {meth : Method} {c : Code} (F : Fx G p l s m args meth c cX7_step RX7 4 (some .int)) (a1 : Int32) (a2 : Int32) (a3 : Int32) (M : Mem) : Rf G p l e s m args below meth c 11 4 emI (f_X7_step a1 a2 a3 M) 0 [(0, .ref (gA G 24)), (1, .int a1), (2, .int a2), (3, .int a3)] [] M := by
  unfold f_X7_step
  refine r_aload_n F 0 dX7_step_0 rfl rfl ?_
  refine r_aload_n F 0 dX7_step_1 rfl rfl ?_
  refine r_iload_n F 1 dX7_step_2 rfl rfl ?_
  refine r_iload_n F 2 dX7_step_3 rfl rfl ?_
  refine r_iconst F dX7_step_4 (v := 0) (by decide) ?_
  refine r_cV (val := vI) (As := [.int a1, .int a2, .int (0 : Int32)]) (rest := [.ref (gA G 24)]) (fun q9 => .int q9 :: [.ref (gA G 24)]) F (c_X7_isPlace F.st F.gg a1 a2 (0 : Int32) M) (fun _ _ => rfl) dX7_step_5 ml_X7_67 yv_X7_isPlace (rfl : kd 24 = 7) (by decide) rfl rfl (by decide) rfl (Nat.le_of_ble_eq_true rfl) (fun _ => rfl) (fun r5 M5 => ?_)
  refine r_if_ne (tgt := 15) F dX7_step_8 (by decide) (fun c1 => ?_) (fun c1 => ?_)
  · refine r_iconst F dX7_step_11 (v := 1) (by decide) ?_
    refine r_goto (tgt := 29) F dX7_step_12 (by decide) ?_
    refine r_sub [0, 1, 2, 3] rfl ?_
    exact l_X7_step_29 F   a1 a2 a3 (1 : Int32) M5
  · refine r_iload_n F 3 dX7_step_15 rfl rfl ?_
    refine r_iconst F dX7_step_16 (v := 0) (by decide) ?_
    refine r_iconst F dX7_step_17 (v := 2) (by decide) ?_
    refine r_cS (val := vI) (As := [.int a3, .int (0 : Int32), .int (2 : Int32)]) (rest := [.ref (gA G 24)]) (fun q9 => .int q9 :: [.ref (gA G 24)]) F (c_X7_in F.st F.gg a3 (0 : Int32) (2 : Int32) M5) (fun _ _ => rfl) dX7_step_18 ml_X7_41 ys_X7_in rfl (by decide) rfl (Nat.le_of_ble_eq_true rfl) (fun _ => rfl) (fun r18 M18 => ?_)
    refine r_if_ne (tgt := 28) F dX7_step_21 (by decide) (fun c2 => ?_) (fun c2 => ?_)
    · refine r_iconst F dX7_step_24 (v := 2) (by decide) ?_
      refine r_goto (tgt := 29) F dX7_step_25 (by decide) ?_
      refine r_sub [0, 1, 2, 3] rfl ?_
      exact l_X7_step_29 F   a1 a2 a3 (2 : Int32) M18
    · refine r_iconst F dX7_step_28 (v := 0) (by decide) ?_
      refine r_sub [0, 1, 2, 3] rfl ?_
      exact l_X7_step_29 F   a1 a2 a3 (0 : Int32) M18

set_option maxRecDepth 100000 in
set_option maxHeartbeats 4000000 in
theorem c_X7_step {l : Launch} {G : GM} (hl : l.stackTraces = false) (hG : GG G) (a1 : Int32) (a2 : Int32) (a3 : Int32) (M : Mem) : ∀ r, f_X7_step a1 a2 a3 M = some r → Ctr l G yX7_step (.code yX7_step cX7_step 4 (some .int) :: wsA) 11 [.ref (gA G 24), .int a1, .int a2, .int a3] M (emI r) :=
  ctr_of (by decide) hl hG (Nat.le_of_ble_eq_true rfl) (fun p e s m args below meth c F => b_X7_step F a1 a2 a3 M)

-- ===== X7_thrown DrumTownsModel.thrown()I =====
theorem yv_X7_thrown : yV yX7_thrown cX7_thrown 1 (some .int) 0 := ⟨im_X7_thrown, sl_X7_thrown, ini_X7, cd_X7_thrown, ⟨by decide, by decide, by decide +kernel⟩, by decide⟩

def f_X7_thrown  (M : Mem) : Option (Int32 × Mem) := some ((M.1 24 2), M)

set_option maxRecDepth 100000 in
set_option maxHeartbeats 4000000 in
theorem b_X7_thrown {G : GM} {p : Program} {l : Launch} {e : Env} {s : State} {m : MethodId} {args : Array Value} {below : List Frame} {meth : Method} {c : Code} (F : Fx G p l s m args meth c cX7_thrown RX7 1 (some .int))  (M : Mem) : Rf G p l e s m args below meth c 6 1 emI (f_X7_thrown  M) 0 [(0, .ref (gA G 24))] [] M := by
  unfold f_X7_thrown
  refine r_aload_n F 0 dX7_thrown_0 rfl rfl ?_
  refine gf_X7_37 F dX7_thrown_1 (rfl : kd 24 = 7) ?_
  exact r_iret F rfl dX7_thrown_4 rfl

set_option maxRecDepth 100000 in
set_option maxHeartbeats 4000000 in
theorem c_X7_thrown {l : Launch} {G : GM} (hl : l.stackTraces = false) (hG : GG G)  (M : Mem) : ∀ r, f_X7_thrown  M = some r → Ctr l G yX7_thrown (.code yX7_thrown cX7_thrown 1 (some .int) :: wsA) 6 [.ref (gA G 24)] M (emI r) :=
  ctr_of (by decide) hl hG (Nat.le_of_ble_eq_true rfl) (fun p e s m args below meth c F => b_X7_thrown F  M)

-- ===== X7_town DrumTownsModel.town(II)I =====
theorem yv_X7_town : yV yX7_town cX7_town 3 (some .int) 2 := ⟨im_X7_town, sl_X7_town, ini_X7, cd_X7_town, ⟨by decide, by decide, by decide +kernel⟩, by decide⟩

def f_X7_town_48 (z0 : Int32) (M : Mem) : Option (Int32 × Mem) := some (z0, M)

set_option maxRecDepth 100000 in
set_option maxHeartbeats 4000000 in
theorem l_X7_town_48 {G : GM} {p : Program} {l : Launch} {e : Env} {s : State} {m : MethodId} {args : Array Value} {below : List Frame} {meth : Method} {c : Code} (F : Fx G p l s m args meth c cX7_town RX7 3 (some .int)) (z0 : Int32) (M : Mem) : Rf G p l e s m args below meth c 9 3 emI (f_X7_town_48  z0 M) 48 [] [.int z0] M := by
  unfold f_X7_town_48
  exact r_iret F rfl dX7_town_48 rfl

def f_X7_town_28 (y1 : Int32) (y2 : Int32) (z1 : Int32) (M : Mem) : Option (Int32 × Mem) := bnd (mw M 24 2 z1) fun M28 => if (M28.1 24 2) = 0 then (bn (f_X7_townOf y1 y2 M28) fun r41 M41 => f_X7_town_48  r41 M41) else (f_X7_town_48  (0 : Int32) M28)

set_option maxRecDepth 100000 in
set_option maxHeartbeats 4000000 in
theorem l_X7_town_28 {G : GM} {p : Program} {l : Launch} {e : Env} {s : State} {m : MethodId} {args : Array Value} {below : List Frame} {meth : Method} {c : Code} (F : Fx G p l s m args meth c cX7_town RX7 3 (some .int)) (y1 : Int32) (y2 : Int32) (z1 : Int32) (M : Mem) : Rf G p l e s m args below meth c 9 3 emI (f_X7_town_28  y1 y2 z1 M) 28 [(0, .ref (gA G 24)), (1, .int y1), (2, .int y2)] [.int z1, .ref (gA G 24)] M := by
  unfold f_X7_town_28
  refine pf_X7_37 F dX7_town_28 (rfl : kd 24 = 7) (fun M28 => ?_)
  refine r_aload_n F 0 dX7_town_31 rfl rfl ?_
  refine gf_X7_37 F dX7_town_32 (rfl : kd 24 = 7) ?_
  refine r_if_ne (tgt := 47) F dX7_town_35 (by decide) (fun c1 => ?_) (fun c1 => ?_)
  · refine r_aload_n F 0 dX7_town_38 rfl rfl ?_
    refine r_iload_n F 1 dX7_town_39 rfl rfl ?_
    refine r_iload_n F 2 dX7_town_40 rfl rfl ?_
    refine r_cV (val := vI) (As := [.int y1, .int y2]) (rest := []) (fun q9 => .int q9 :: []) F (c_X7_townOf F.st F.gg y1 y2 M28) (fun _ _ => rfl) dX7_town_41 ml_X7_181 yv_X7_townOf (rfl : kd 24 = 7) (by decide) rfl rfl (by decide) rfl (Nat.le_of_ble_eq_true rfl) (fun _ => rfl) (fun r41 M41 => ?_)
    refine r_goto (tgt := 48) F dX7_town_44 (by decide) ?_
    refine r_sub [] rfl ?_
    exact l_X7_town_48 F   r41 M41
  · refine r_iconst F dX7_town_47 (v := 0) (by decide) ?_
    refine r_sub [] rfl ?_
    exact l_X7_town_48 F   (0 : Int32) M28

def f_X7_town (a1 : Int32) (a2 : Int32) (M : Mem) : Option (Int32 × Mem) := bn (f_X7_isTown a1 M) fun r3 M3 => if r3 = 0 then (f_X7_town_28  a1 a2 (1 : Int32) M3) else (bn (f_X7_in a2 (0 : Int32) (11 : Int32) M3) fun r17 M17 => if r17 = 0 then (f_X7_town_28  a1 a2 (2 : Int32) M17) else (f_X7_town_28  a1 a2 (0 : Int32) M17))

set_option maxRecDepth 100000 in
set_option maxHeartbeats 4000000 in
theorem b_X7_town {G : GM} {p : Program} {l : Launch} {e : Env} {s : State} {m : MethodId} {args : Array Value} {below : List Frame} {meth : Method} {c : Code} (F : Fx G p l s m args meth c cX7_town RX7 3 (some .int)) (a1 : Int32) (a2 : Int32) (M : Mem) : Rf G p l e s m args below meth c 9 3 emI (f_X7_town a1 a2 M) 0 [(0, .ref (gA G 24)), (1, .int a1), (2, .int a2)] [] M := by
  unfold f_X7_town
  refine r_aload_n F 0 dX7_town_0 rfl rfl ?_
  refine r_aload_n F 0 dX7_town_1 rfl rfl ?_
  refine r_iload_n F 1 dX7_town_2 rfl rfl ?_
  refine r_cV (val := vI) (As := [.int a1]) (rest := [.ref (gA G 24)]) (fun q9 => .int q9 :: [.ref (gA G 24)]) F (c_X7_isTown F.st F.gg a1 M) (fun _ _ => rfl) dX7_town_3 ml_X7_45 yv_X7_isTown (rfl : kd 24 = 7) (by decide) rfl rfl (by decide) rfl (Nat.le_of_ble_eq_true rfl) (fun _ => rfl) (fun r3 M3 => ?_)
  refine r_if_ne (tgt := 13) F dX7_town_6 (by decide) (fun c1 => ?_) (fun c1 => ?_)
  · refine r_iconst F dX7_town_9 (v := 1) (by decide) ?_
    refine r_goto (tgt := 28) F dX7_town_10 (by decide) ?_
    refine r_sub [0, 1, 2] rfl ?_
    exact l_X7_town_28 F   a1 a2 (1 : Int32) M3
  · refine r_iload_n F 2 dX7_town_13 rfl rfl ?_
    refine r_iconst F dX7_town_14 (v := 0) (by decide) ?_
    refine r_bipush F dX7_town_15 (v := 11) (by decide) ?_
    refine r_cS (val := vI) (As := [.int a2, .int (0 : Int32), .int (11 : Int32)]) (rest := [.ref (gA G 24)]) (fun q9 => .int q9 :: [.ref (gA G 24)]) F (c_X7_in F.st F.gg a2 (0 : Int32) (11 : Int32) M3) (fun _ _ => rfl) dX7_town_17 ml_X7_41 ys_X7_in rfl (by decide) rfl (Nat.le_of_ble_eq_true rfl) (fun _ => rfl) (fun r17 M17 => ?_)
    refine r_if_ne (tgt := 27) F dX7_town_20 (by decide) (fun c2 => ?_) (fun c2 => ?_)
    · refine r_iconst F dX7_town_23 (v := 2) (by decide) ?_
      refine r_goto (tgt := 28) F dX7_town_24 (by decide) ?_
      refine r_sub [0, 1, 2] rfl ?_
      exact l_X7_town_28 F   a1 a2 (2 : Int32) M17
    · refine r_iconst F dX7_town_27 (v := 0) (by decide) ?_
      refine r_sub [0, 1, 2] rfl ?_
      exact l_X7_town_28 F   a1 a2 (0 : Int32) M17

set_option maxRecDepth 100000 in
set_option maxHeartbeats 4000000 in
theorem c_X7_town {l : Launch} {G : GM} (hl : l.stackTraces = false) (hG : GG G) (a1 : Int32) (a2 : Int32) (M : Mem) : ∀ r, f_X7_town a1 a2 M = some r → Ctr l G yX7_town (.code yX7_town cX7_town 3 (some .int) :: wsA) 9 [.ref (gA G 24), .int a1, .int a2] M (emI r) :=
  ctr_of (by decide) hl hG (Nat.le_of_ble_eq_true rfl) (fun p e s m args below meth c F => b_X7_town F a1 a2 M)

-- ===== X7_trade DrumTownsModel.trade(II)I =====
theorem yv_X7_trade : yV yX7_trade cX7_trade 5 (some .int) 2 := ⟨im_X7_trade, sl_X7_trade, ini_X7, cd_X7_trade, ⟨by decide, by decide, by decide +kernel⟩, by decide⟩

def f_X7_trade_49 : Nat → Int32 → Int32 → Int32 → Mem → Option (Int32 × Mem)
  | 0, _, _, _, _ => none
  | n + 1, y1, y2, y3, M => if (24 : Int32) ≤ y3 then (bn (f_X7_rightOf y1 y1 (0 : Int32) M) fun r117 M117 => bn (f_X7_rightOf y2 y2 (0 : Int32) M117) fun r124 M124 => some ((r117 + r124), M124)) else (bn (f_X7_at (6 : Int32) y1 y3 M) fun r63 M63 => chk (inb r63 3424) <| bnd (M63.1 25 r63.toNatClampNeg) fun x67 => bn (f_X7_at (6 : Int32) y1 y3 M63) fun r77 M77 => bn (f_X7_at (6 : Int32) y2 y3 M77) fun r88 M88 => chk (inb r88 3424) <| chk (inb r77 3424) <| bnd (mw M88 25 r77.toNatClampNeg (M88.1 25 r88.toNatClampNeg)) fun M92 => bn (f_X7_at (6 : Int32) y2 y3 M92) fun r101 M101 => chk (inb r101 3424) <| bnd (mw M101 25 r101.toNatClampNeg x67) fun M106 => bnd (y3 + (1 : Int32)) fun x107 => f_X7_trade_49  n y1 y2 x107 M106)

set_option maxRecDepth 100000 in
set_option maxHeartbeats 4000000 in
theorem l_X7_trade_49 {G : GM} {p : Program} {l : Launch} {e : Env} {s : State} {m : MethodId} {args : Array Value} {below : List Frame} {meth : Method} {c : Code} (F : Fx G p l s m args meth c cX7_trade RX7 5 (some .int)) : ∀ (n : Nat) (y1 : Int32) (y2 : Int32) (y3 : Int32) (M : Mem), Rf G p l e s m args below meth c 8 5 emI (f_X7_trade_49  n y1 y2 y3 M) 49 [(0, .ref (gA G 24)), (1, .int y1), (2, .int y2), (3, .int y3)] [] M := by
  intro n
  induction n with
  | zero => intros; exact r_none
  | succ n ih =>
    intro y1 y2 y3 M
    rw [f_X7_trade_49]
    refine r_iload_n F 3 dX7_trade_49 rfl rfl ?_
    refine r_bipush F dX7_trade_50 (v := 24) (by decide) ?_
    refine r_icmp_ge (tgt := 113) F dX7_trade_52 (by decide) (fun c1 => ?_) (fun c1 => ?_)
    · refine r_aload_n F 0 dX7_trade_113 rfl rfl ?_
      refine r_iload_n F 1 dX7_trade_114 rfl rfl ?_
      refine r_iload_n F 1 dX7_trade_115 rfl rfl ?_
      refine r_iconst F dX7_trade_116 (v := 0) (by decide) ?_
      refine r_cV (val := vI) (As := [.int y1, .int y1, .int (0 : Int32)]) (rest := []) (fun q9 => .int q9 :: []) F (c_X7_rightOf F.st F.gg y1 y1 (0 : Int32) M) (fun _ _ => rfl) dX7_trade_117 ml_X7_78 yv_X7_rightOf (rfl : kd 24 = 7) (by decide) rfl rfl (by decide) rfl (Nat.le_of_ble_eq_true rfl) (fun _ => rfl) (fun r117 M117 => ?_)
      refine r_aload_n F 0 dX7_trade_120 rfl rfl ?_
      refine r_iload_n F 2 dX7_trade_121 rfl rfl ?_
      refine r_iload_n F 2 dX7_trade_122 rfl rfl ?_
      refine r_iconst F dX7_trade_123 (v := 0) (by decide) ?_
      refine r_cV (val := vI) (As := [.int y2, .int y2, .int (0 : Int32)]) (rest := [.int r117]) (fun q9 => .int q9 :: [.int r117]) F (c_X7_rightOf F.st F.gg y2 y2 (0 : Int32) M117) (fun _ _ => rfl) dX7_trade_124 ml_X7_78 yv_X7_rightOf (rfl : kd 24 = 7) (by decide) rfl rfl (by decide) rfl (Nat.le_of_ble_eq_true rfl) (fun _ => rfl) (fun r124 M124 => ?_)
      refine r_iadd F dX7_trade_127 ?_
      exact r_iret F rfl dX7_trade_128 rfl
    · refine r_aload_n F 0 dX7_trade_55 rfl rfl ?_
      refine gf_X7_7 F dX7_trade_56 (rfl : kd 24 = 7) ?_
      refine r_bipush F dX7_trade_59 (v := 6) (by decide) ?_
      refine r_iload_n F 1 dX7_trade_61 rfl rfl ?_
      refine r_iload_n F 3 dX7_trade_62 rfl rfl ?_
      refine r_cS (val := vI) (As := [.int (6 : Int32), .int y1, .int y3]) (rest := [.ref (gA G 25)]) (fun q9 => .int q9 :: [.ref (gA G 25)]) F (c_X7_at F.st F.gg (6 : Int32) y1 y3 M) (fun _ _ => rfl) dX7_trade_63 ml_X7_56 ys_X7_at rfl (by decide) rfl (Nat.le_of_ble_eq_true rfl) (fun _ => rfl) (fun r63 M63 => ?_)
      refine r_chk (fun h2 => ?_)
      refine r_iald F dX7_trade_66 (rfl : kd 25 = 8) (rfl : al 25 = 3424) h2 ?_
      refine r_bi (fun x67 => ?_)
      refine r_istore (ls' := [(4, .int x67), (0, .ref (gA G 24)), (1, .int y1), (2, .int y2), (3, .int y3)]) F dX7_trade_67 (by decide) rfl ?_
      refine r_aload_n F 1 dX7_trade_69 rfl rfl ?_
      refine gf_X7_7 F dX7_trade_70 (rfl : kd 24 = 7) ?_
      refine r_bipush F dX7_trade_73 (v := 6) (by decide) ?_
      refine r_iload_n F 2 dX7_trade_75 rfl rfl ?_
      refine r_iload_n F 4 dX7_trade_76 rfl rfl ?_
      refine r_cS (val := vI) (As := [.int (6 : Int32), .int y1, .int y3]) (rest := [.ref (gA G 25)]) (fun q9 => .int q9 :: [.ref (gA G 25)]) F (c_X7_at F.st F.gg (6 : Int32) y1 y3 M63) (fun _ _ => rfl) dX7_trade_77 ml_X7_56 ys_X7_at rfl (by decide) rfl (Nat.le_of_ble_eq_true rfl) (fun _ => rfl) (fun r77 M77 => ?_)
      refine r_aload_n F 1 dX7_trade_80 rfl rfl ?_
      refine gf_X7_7 F dX7_trade_81 (rfl : kd 24 = 7) ?_
      refine r_bipush F dX7_trade_84 (v := 6) (by decide) ?_
      refine r_iload_n F 3 dX7_trade_86 rfl rfl ?_
      refine r_iload_n F 4 dX7_trade_87 rfl rfl ?_
      refine r_cS (val := vI) (As := [.int (6 : Int32), .int y2, .int y3]) (rest := [.ref (gA G 25), .int r77, .ref (gA G 25)]) (fun q9 => .int q9 :: [.ref (gA G 25), .int r77, .ref (gA G 25)]) F (c_X7_at F.st F.gg (6 : Int32) y2 y3 M77) (fun _ _ => rfl) dX7_trade_88 ml_X7_56 ys_X7_at rfl (by decide) rfl (Nat.le_of_ble_eq_true rfl) (fun _ => rfl) (fun r88 M88 => ?_)
      refine r_chk (fun h3 => ?_)
      refine r_iald F dX7_trade_91 (rfl : kd 25 = 8) (rfl : al 25 = 3424) h3 ?_
      refine r_chk (fun h4 => ?_)
      refine r_iast F dX7_trade_92 (rfl : kd 25 = 8) (rfl : al 25 = 3424) h4 (fun M92 => ?_)
      refine r_aload_n F 1 dX7_trade_93 rfl rfl ?_
      refine gf_X7_7 F dX7_trade_94 (rfl : kd 24 = 7) ?_
      refine r_bipush F dX7_trade_97 (v := 6) (by decide) ?_
      refine r_iload_n F 3 dX7_trade_99 rfl rfl ?_
      refine r_iload_n F 4 dX7_trade_100 rfl rfl ?_
      refine r_cS (val := vI) (As := [.int (6 : Int32), .int y2, .int y3]) (rest := [.ref (gA G 25)]) (fun q9 => .int q9 :: [.ref (gA G 25)]) F (c_X7_at F.st F.gg (6 : Int32) y2 y3 M92) (fun _ _ => rfl) dX7_trade_101 ml_X7_56 ys_X7_at rfl (by decide) rfl (Nat.le_of_ble_eq_true rfl) (fun _ => rfl) (fun r101 M101 => ?_)
      refine r_iload F 0 dX7_trade_104 rfl ?_
      refine r_chk (fun h5 => ?_)
      refine r_iast F dX7_trade_106 (rfl : kd 25 = 8) (rfl : al 25 = 3424) h5 (fun M106 => ?_)
      refine r_iinc (ls' := fun q9 => [(3, .int q9), (4, .int x67), (0, .ref (gA G 24)), (1, .int y1), (2, .int y2)]) (k := 4) (v := y3 + (1 : Int32)) F dX7_trade_107 rfl rfl (by decide) (fun _ => rfl) (fun x107 => ?_)
      refine r_goto (tgt := 49) F dX7_trade_110 (by decide) ?_
      refine r_sub [2, 3, 4, 0] rfl ?_
      exact ih y1 y2 x107 M106

def f_X7_trade_31 (y1 : Int32) (y2 : Int32) (z1 : Int32) (M : Mem) : Option (Int32 × Mem) := bnd (mw M 24 2 z1) fun M31 => if (M31.1 24 2) = 0 then (bn (f_X7_keep M31) fun _ M44 => f_X7_trade_49  FU y1 y2 (0 : Int32) M44) else (some ((0 : Int32), M31))

set_option maxRecDepth 100000 in
set_option maxHeartbeats 4000000 in
theorem l_X7_trade_31 {G : GM} {p : Program} {l : Launch} {e : Env} {s : State} {m : MethodId} {args : Array Value} {below : List Frame} {meth : Method} {c : Code} (F : Fx G p l s m args meth c cX7_trade RX7 5 (some .int)) (y1 : Int32) (y2 : Int32) (z1 : Int32) (M : Mem) : Rf G p l e s m args below meth c 8 5 emI (f_X7_trade_31  y1 y2 z1 M) 31 [(0, .ref (gA G 24)), (1, .int y1), (2, .int y2)] [.int z1, .ref (gA G 24)] M := by
  unfold f_X7_trade_31
  refine pf_X7_37 F dX7_trade_31 (rfl : kd 24 = 7) (fun M31 => ?_)
  refine r_aload_n F 0 dX7_trade_34 rfl rfl ?_
  refine gf_X7_37 F dX7_trade_35 (rfl : kd 24 = 7) ?_
  refine r_if_eq (tgt := 43) F dX7_trade_38 (by decide) (fun c1 => ?_) (fun c1 => ?_)
  · refine r_aload_n F 0 dX7_trade_43 rfl rfl ?_
    refine r_cV (val := vU) (As := []) (rest := []) (fun _ => []) F (c_X7_keep F.st F.gg  M31) (fun _ _ => rfl) dX7_trade_44 ml_X7_64 yv_X7_keep (rfl : kd 24 = 7) (by decide) rfl rfl (by decide) rfl (Nat.le_of_ble_eq_true rfl) (fun _ => rfl) (fun _ M44 => ?_)
    refine r_iconst F dX7_trade_47 (v := 0) (by decide) ?_
    refine r_istore_n (ls' := [(3, .int (0 : Int32)), (0, .ref (gA G 24)), (1, .int y1), (2, .int y2)]) F dX7_trade_48 rfl (by decide) rfl ?_
    refine r_sub [1, 2, 3, 0] rfl ?_
    exact l_X7_trade_49 F   FU y1 y2 (0 : Int32) M44
  · refine r_iconst F dX7_trade_41 (v := 0) (by decide) ?_
    exact r_iret F rfl dX7_trade_42 rfl

def f_X7_trade_17 (y1 : Int32) (y2 : Int32) (M : Mem) : Option (Int32 × Mem) := f_X7_trade_31  y1 y2 (1 : Int32) M

set_option maxRecDepth 100000 in
set_option maxHeartbeats 4000000 in
theorem l_X7_trade_17 {G : GM} {p : Program} {l : Launch} {e : Env} {s : State} {m : MethodId} {args : Array Value} {below : List Frame} {meth : Method} {c : Code} (F : Fx G p l s m args meth c cX7_trade RX7 5 (some .int)) (y1 : Int32) (y2 : Int32) (M : Mem) : Rf G p l e s m args below meth c 8 5 emI (f_X7_trade_17  y1 y2 M) 17 [(0, .ref (gA G 24)), (1, .int y1), (2, .int y2)] [.ref (gA G 24)] M := by
  unfold f_X7_trade_17
  refine r_iconst F dX7_trade_17 (v := 1) (by decide) ?_
  refine r_goto (tgt := 31) F dX7_trade_18 (by decide) ?_
  refine r_sub [0, 1, 2] rfl ?_
  exact l_X7_trade_31 F   y1 y2 (1 : Int32) M

def f_X7_trade (a1 : Int32) (a2 : Int32) (M : Mem) : Option (Int32 × Mem) := bn (f_X7_isTown a1 M) fun r3 M3 => if r3 = 0 then (f_X7_trade_17  a1 a2 M3) else (bn (f_X7_isTown a2 M3) fun r11 M11 => if r11 = 0 then (f_X7_trade_17  a1 a2 M11) else (if a1 = a2 then (f_X7_trade_31  a1 a2 (2 : Int32) M11) else (f_X7_trade_31  a1 a2 (0 : Int32) M11)))

set_option maxRecDepth 100000 in
set_option maxHeartbeats 4000000 in
theorem b_X7_trade {G : GM} {p : Program} {l : Launch} {e : Env} {s : State} {m : MethodId} {args : Array Value} {below : List Frame} {meth : Method} {c : Code} (F : Fx G p l s m args meth c cX7_trade RX7 5 (some .int)) (a1 : Int32) (a2 : Int32) (M : Mem) : Rf G p l e s m args below meth c 8 5 emI (f_X7_trade a1 a2 M) 0 [(0, .ref (gA G 24)), (1, .int a1), (2, .int a2)] [] M := by
  unfold f_X7_trade
  refine r_aload_n F 0 dX7_trade_0 rfl rfl ?_
  refine r_aload_n F 0 dX7_trade_1 rfl rfl ?_
  refine r_iload_n F 1 dX7_trade_2 rfl rfl ?_
  refine r_cV (val := vI) (As := [.int a1]) (rest := [.ref (gA G 24)]) (fun q9 => .int q9 :: [.ref (gA G 24)]) F (c_X7_isTown F.st F.gg a1 M) (fun _ _ => rfl) dX7_trade_3 ml_X7_45 yv_X7_isTown (rfl : kd 24 = 7) (by decide) rfl rfl (by decide) rfl (Nat.le_of_ble_eq_true rfl) (fun _ => rfl) (fun r3 M3 => ?_)
  refine r_if_eq (tgt := 17) F dX7_trade_6 (by decide) (fun c1 => ?_) (fun c1 => ?_)
  · refine r_sub [0, 1, 2] rfl ?_
    exact l_X7_trade_17 F   a1 a2 M3
  · refine r_aload_n F 0 dX7_trade_9 rfl rfl ?_
    refine r_iload_n F 2 dX7_trade_10 rfl rfl ?_
    refine r_cV (val := vI) (As := [.int a2]) (rest := [.ref (gA G 24)]) (fun q9 => .int q9 :: [.ref (gA G 24)]) F (c_X7_isTown F.st F.gg a2 M3) (fun _ _ => rfl) dX7_trade_11 ml_X7_45 yv_X7_isTown (rfl : kd 24 = 7) (by decide) rfl rfl (by decide) rfl (Nat.le_of_ble_eq_true rfl) (fun _ => rfl) (fun r11 M11 => ?_)
    refine r_if_ne (tgt := 21) F dX7_trade_14 (by decide) (fun c2 => ?_) (fun c2 => ?_)
    · refine r_sub [0, 1, 2] rfl ?_
      exact l_X7_trade_17 F   a1 a2 M11
    · refine r_iload_n F 1 dX7_trade_21 rfl rfl ?_
      refine r_iload_n F 2 dX7_trade_22 rfl rfl ?_
      refine r_icmp_ne (tgt := 30) F dX7_trade_23 (by decide) (fun c3 => ?_) (fun c3 => ?_)
      · refine r_iconst F dX7_trade_26 (v := 2) (by decide) ?_
        refine r_goto (tgt := 31) F dX7_trade_27 (by decide) ?_
        refine r_sub [0, 1, 2] rfl ?_
        exact l_X7_trade_31 F   a1 a2 (2 : Int32) M11
      · refine r_iconst F dX7_trade_30 (v := 0) (by decide) ?_
        refine r_sub [0, 1, 2] rfl ?_
        exact l_X7_trade_31 F   a1 a2 (0 : Int32) M11

set_option maxRecDepth 100000 in
set_option maxHeartbeats 4000000 in
theorem c_X7_trade {l : Launch} {G : GM} (hl : l.stackTraces = false) (hG : GG G) (a1 : Int32) (a2 : Int32) (M : Mem) : ∀ r, f_X7_trade a1 a2 M = some r → Ctr l G yX7_trade (.code yX7_trade cX7_trade 5 (some .int) :: wsA) 8 [.ref (gA G 24), .int a1, .int a2] M (emI r) :=
  ctr_of (by decide) hl hG (Nat.le_of_ble_eq_true rfl) (fun p e s m args below meth c F => b_X7_trade F a1 a2 M)

-- ===== X7_turn DrumTownsModel.turn(II)I =====
theorem yv_X7_turn : yV yX7_turn cX7_turn 5 (some .int) 2 := ⟨im_X7_turn, sl_X7_turn, ini_X7, cd_X7_turn, ⟨by decide, by decide, by decide +kernel⟩, by decide⟩

def f_X7_turn_56 : Nat → Int32 → Int32 → Int32 → Int32 → Mem → Option (Int32 × Mem)
  | 0, _, _, _, _, _ => none
  | n + 1, y1, y2, y3, y4, M => if (24 : Int32) ≤ y4 then (bn (f_X7_rightOf y1 y1 (0 : Int32) M) fun r106 M106 => some (r106, M106)) else (bn (f_X7_at (6 : Int32) y1 ((y4 + y2) - (y4 + y2) / (24 : Int32) * (24 : Int32)) M) fun r77 M77 => bn (f_X7_at (6 : Int32) y1 y4 M77) fun r90 M90 => chk (inb (y3 + r90) 3424) <| chk (inb r77 3424) <| bnd (mw M90 25 r77.toNatClampNeg (M90.1 25 (y3 + r90).toNatClampNeg)) fun M95 => bnd (y4 + (1 : Int32)) fun x96 => f_X7_turn_56  n y1 y2 y3 x96 M95)

set_option maxRecDepth 100000 in
set_option maxHeartbeats 4000000 in
theorem l_X7_turn_56 {G : GM} {p : Program} {l : Launch} {e : Env} {s : State} {m : MethodId} {args : Array Value} {below : List Frame} {meth : Method} {c : Code} (F : Fx G p l s m args meth c cX7_turn RX7 5 (some .int)) : ∀ (n : Nat) (y1 : Int32) (y2 : Int32) (y3 : Int32) (y4 : Int32) (M : Mem), Rf G p l e s m args below meth c 8 5 emI (f_X7_turn_56  n y1 y2 y3 y4 M) 56 [(0, .ref (gA G 24)), (1, .int y1), (2, .int y2), (3, .int y3), (4, .int y4)] [] M := by
  intro n
  induction n with
  | zero => intros; exact r_none
  | succ n ih =>
    intro y1 y2 y3 y4 M
    rw [f_X7_turn_56]
    refine r_iload F 4 dX7_turn_56 rfl ?_
    refine r_bipush F dX7_turn_58 (v := 24) (by decide) ?_
    refine r_icmp_ge (tgt := 102) F dX7_turn_60 (by decide) (fun c1 => ?_) (fun c1 => ?_)
    · refine r_aload_n F 0 dX7_turn_102 rfl rfl ?_
      refine r_iload_n F 1 dX7_turn_103 rfl rfl ?_
      refine r_iload_n F 1 dX7_turn_104 rfl rfl ?_
      refine r_iconst F dX7_turn_105 (v := 0) (by decide) ?_
      refine r_cV (val := vI) (As := [.int y1, .int y1, .int (0 : Int32)]) (rest := []) (fun q9 => .int q9 :: []) F (c_X7_rightOf F.st F.gg y1 y1 (0 : Int32) M) (fun _ _ => rfl) dX7_turn_106 ml_X7_78 yv_X7_rightOf (rfl : kd 24 = 7) (by decide) rfl rfl (by decide) rfl (Nat.le_of_ble_eq_true rfl) (fun _ => rfl) (fun r106 M106 => ?_)
      exact r_iret F rfl dX7_turn_109 rfl
    · refine r_aload_n F 0 dX7_turn_63 rfl rfl ?_
      refine gf_X7_7 F dX7_turn_64 (rfl : kd 24 = 7) ?_
      refine r_bipush F dX7_turn_67 (v := 6) (by decide) ?_
      refine r_iload_n F 1 dX7_turn_69 rfl rfl ?_
      refine r_iload F 4 dX7_turn_70 rfl ?_
      refine r_iload_n F 2 dX7_turn_72 rfl rfl ?_
      refine r_iadd F dX7_turn_73 ?_
      refine r_bipush F dX7_turn_74 (v := 24) (by decide) ?_
      refine r_irem F dX7_turn_76 (by decide) ?_
      refine r_cS (val := vI) (As := [.int (6 : Int32), .int y1, .int ((y4 + y2) - (y4 + y2) / (24 : Int32) * (24 : Int32))]) (rest := [.ref (gA G 25)]) (fun q9 => .int q9 :: [.ref (gA G 25)]) F (c_X7_at F.st F.gg (6 : Int32) y1 ((y4 + y2) - (y4 + y2) / (24 : Int32) * (24 : Int32)) M) (fun _ _ => rfl) dX7_turn_77 ml_X7_56 ys_X7_at rfl (by decide) rfl (Nat.le_of_ble_eq_true rfl) (fun _ => rfl) (fun r77 M77 => ?_)
      refine r_aload_n F 0 dX7_turn_80 rfl rfl ?_
      refine gf_X7_7 F dX7_turn_81 (rfl : kd 24 = 7) ?_
      refine r_iload_n F 3 dX7_turn_84 rfl rfl ?_
      refine r_bipush F dX7_turn_85 (v := 6) (by decide) ?_
      refine r_iload_n F 1 dX7_turn_87 rfl rfl ?_
      refine r_iload F 4 dX7_turn_88 rfl ?_
      refine r_cS (val := vI) (As := [.int (6 : Int32), .int y1, .int y4]) (rest := [.int y3, .ref (gA G 25), .int r77, .ref (gA G 25)]) (fun q9 => .int q9 :: [.int y3, .ref (gA G 25), .int r77, .ref (gA G 25)]) F (c_X7_at F.st F.gg (6 : Int32) y1 y4 M77) (fun _ _ => rfl) dX7_turn_90 ml_X7_56 ys_X7_at rfl (by decide) rfl (Nat.le_of_ble_eq_true rfl) (fun _ => rfl) (fun r90 M90 => ?_)
      refine r_iadd F dX7_turn_93 ?_
      refine r_chk (fun h2 => ?_)
      refine r_iald F dX7_turn_94 (rfl : kd 25 = 8) (rfl : al 25 = 3424) h2 ?_
      refine r_chk (fun h3 => ?_)
      refine r_iast F dX7_turn_95 (rfl : kd 25 = 8) (rfl : al 25 = 3424) h3 (fun M95 => ?_)
      refine r_iinc (ls' := fun q9 => [(4, .int q9), (0, .ref (gA G 24)), (1, .int y1), (2, .int y2), (3, .int y3)]) (k := 4) (v := y4 + (1 : Int32)) F dX7_turn_96 rfl rfl (by decide) (fun _ => rfl) (fun x96 => ?_)
      refine r_goto (tgt := 56) F dX7_turn_99 (by decide) ?_
      refine r_sub [1, 2, 3, 4, 0] rfl ?_
      exact ih y1 y2 y3 x96 M95

def f_X7_turn_28 (y1 : Int32) (y2 : Int32) (z1 : Int32) (M : Mem) : Option (Int32 × Mem) := bnd (mw M 24 2 z1) fun M28 => if (M28.1 24 2) = 0 then (bn (f_X7_keep M28) fun _ M41 => bnd ((428 : Int32) * (M41.1 24 1)) fun x52 => f_X7_turn_56  FU y1 y2 x52 (0 : Int32) M41) else (some ((0 : Int32), M28))

set_option maxRecDepth 100000 in
set_option maxHeartbeats 4000000 in
theorem l_X7_turn_28 {G : GM} {p : Program} {l : Launch} {e : Env} {s : State} {m : MethodId} {args : Array Value} {below : List Frame} {meth : Method} {c : Code} (F : Fx G p l s m args meth c cX7_turn RX7 5 (some .int)) (y1 : Int32) (y2 : Int32) (z1 : Int32) (M : Mem) : Rf G p l e s m args below meth c 8 5 emI (f_X7_turn_28  y1 y2 z1 M) 28 [(0, .ref (gA G 24)), (1, .int y1), (2, .int y2)] [.int z1, .ref (gA G 24)] M := by
  unfold f_X7_turn_28
  refine pf_X7_37 F dX7_turn_28 (rfl : kd 24 = 7) (fun M28 => ?_)
  refine r_aload_n F 0 dX7_turn_31 rfl rfl ?_
  refine gf_X7_37 F dX7_turn_32 (rfl : kd 24 = 7) ?_
  refine r_if_eq (tgt := 40) F dX7_turn_35 (by decide) (fun c1 => ?_) (fun c1 => ?_)
  · refine r_aload_n F 0 dX7_turn_40 rfl rfl ?_
    refine r_cV (val := vU) (As := []) (rest := []) (fun _ => []) F (c_X7_keep F.st F.gg  M28) (fun _ _ => rfl) dX7_turn_41 ml_X7_64 yv_X7_keep (rfl : kd 24 = 7) (by decide) rfl rfl (by decide) rfl (Nat.le_of_ble_eq_true rfl) (fun _ => rfl) (fun _ M41 => ?_)
    refine r_sipush F dX7_turn_44 (v := 428) (by decide) ?_
    refine r_aload_n F 0 dX7_turn_47 rfl rfl ?_
    refine gf_X7_49 F dX7_turn_48 (rfl : kd 24 = 7) ?_
    refine r_imul F dX7_turn_51 ?_
    refine r_bi (fun x52 => ?_)
    refine r_istore_n (ls' := [(3, .int x52), (0, .ref (gA G 24)), (1, .int y1), (2, .int y2)]) F dX7_turn_52 rfl (by decide) rfl ?_
    refine r_iconst F dX7_turn_53 (v := 0) (by decide) ?_
    refine r_istore (ls' := [(4, .int (0 : Int32)), (3, .int x52), (0, .ref (gA G 24)), (1, .int y1), (2, .int y2)]) F dX7_turn_54 (by decide) rfl ?_
    refine r_sub [2, 3, 4, 1, 0] rfl ?_
    exact l_X7_turn_56 F   FU y1 y2 x52 (0 : Int32) M41
  · refine r_iconst F dX7_turn_38 (v := 0) (by decide) ?_
    exact r_iret F rfl dX7_turn_39 rfl

def f_X7_turn (a1 : Int32) (a2 : Int32) (M : Mem) : Option (Int32 × Mem) := bn (f_X7_isTown a1 M) fun r3 M3 => if r3 = 0 then (f_X7_turn_28  a1 a2 (1 : Int32) M3) else (bn (f_X7_in a2 (0 : Int32) (23 : Int32) M3) fun r17 M17 => if r17 = 0 then (f_X7_turn_28  a1 a2 (2 : Int32) M17) else (f_X7_turn_28  a1 a2 (0 : Int32) M17))

set_option maxRecDepth 100000 in
set_option maxHeartbeats 4000000 in
theorem b_X7_turn {G : GM} {p : Program} {l : Launch} {e : Env} {s : State} {m : MethodId} {args : Array Value} {below : List Frame} {meth : Method} {c : Code} (F : Fx G p l s m args meth c cX7_turn RX7 5 (some .int)) (a1 : Int32) (a2 : Int32) (M : Mem) : Rf G p l e s m args below meth c 8 5 emI (f_X7_turn a1 a2 M) 0 [(0, .ref (gA G 24)), (1, .int a1), (2, .int a2)] [] M := by
  unfold f_X7_turn
  refine r_aload_n F 0 dX7_turn_0 rfl rfl ?_
  refine r_aload_n F 0 dX7_turn_1 rfl rfl ?_
  refine r_iload_n F 1 dX7_turn_2 rfl rfl ?_
  refine r_cV (val := vI) (As := [.int a1]) (rest := [.ref (gA G 24)]) (fun q9 => .int q9 :: [.ref (gA G 24)]) F (c_X7_isTown F.st F.gg a1 M) (fun _ _ => rfl) dX7_turn_3 ml_X7_45 yv_X7_isTown (rfl : kd 24 = 7) (by decide) rfl rfl (by decide) rfl (Nat.le_of_ble_eq_true rfl) (fun _ => rfl) (fun r3 M3 => ?_)
  refine r_if_ne (tgt := 13) F dX7_turn_6 (by decide) (fun c1 => ?_) (fun c1 => ?_)
  · refine r_iconst F dX7_turn_9 (v := 1) (by decide) ?_
    refine r_goto (tgt := 28) F dX7_turn_10 (by decide) ?_
    refine r_sub [0, 1, 2] rfl ?_
    exact l_X7_turn_28 F   a1 a2 (1 : Int32) M3
  · refine r_iload_n F 2 dX7_turn_13 rfl rfl ?_
    refine r_iconst F dX7_turn_14 (v := 0) (by decide) ?_
    refine r_bipush F dX7_turn_15 (v := 23) (by decide) ?_
    refine r_cS (val := vI) (As := [.int a2, .int (0 : Int32), .int (23 : Int32)]) (rest := [.ref (gA G 24)]) (fun q9 => .int q9 :: [.ref (gA G 24)]) F (c_X7_in F.st F.gg a2 (0 : Int32) (23 : Int32) M3) (fun _ _ => rfl) dX7_turn_17 ml_X7_41 ys_X7_in rfl (by decide) rfl (Nat.le_of_ble_eq_true rfl) (fun _ => rfl) (fun r17 M17 => ?_)
    refine r_if_ne (tgt := 27) F dX7_turn_20 (by decide) (fun c2 => ?_) (fun c2 => ?_)
    · refine r_iconst F dX7_turn_23 (v := 2) (by decide) ?_
      refine r_goto (tgt := 28) F dX7_turn_24 (by decide) ?_
      refine r_sub [0, 1, 2] rfl ?_
      exact l_X7_turn_28 F   a1 a2 (2 : Int32) M17
    · refine r_iconst F dX7_turn_27 (v := 0) (by decide) ?_
      refine r_sub [0, 1, 2] rfl ?_
      exact l_X7_turn_28 F   a1 a2 (0 : Int32) M17

set_option maxRecDepth 100000 in
set_option maxHeartbeats 4000000 in
theorem c_X7_turn {l : Launch} {G : GM} (hl : l.stackTraces = false) (hG : GG G) (a1 : Int32) (a2 : Int32) (M : Mem) : ∀ r, f_X7_turn a1 a2 M = some r → Ctr l G yX7_turn (.code yX7_turn cX7_turn 5 (some .int) :: wsA) 8 [.ref (gA G 24), .int a1, .int a2] M (emI r) :=
  ctr_of (by decide) hl hG (Nat.le_of_ble_eq_true rfl) (fun p e s m args below meth c F => b_X7_turn F a1 a2 M)

-- ===== X7_undo DrumTownsModel.undo()I =====
theorem yv_X7_undo : yV yX7_undo cX7_undo 1 (some .int) 0 := ⟨im_X7_undo, sl_X7_undo, ini_X7, cd_X7_undo, ⟨by decide, by decide, by decide +kernel⟩, by decide⟩

def f_X7_undo_13 (z1 : Int32) (M : Mem) : Option (Int32 × Mem) := bnd (mw M 24 2 z1) fun M13 => if (M13.1 24 2) = 0 then (bnd (mw M13 24 1 ((M13.1 24 1) - (1 : Int32))) fun M32 => bn (f_X7_copy ((428 : Int32) + ((428 : Int32) * (M32.1 24 1))) (0 : Int32) M32) fun _ M49 => some ((M49.1 24 1), M49)) else (some ((0 : Int32), M13))

set_option maxRecDepth 100000 in
set_option maxHeartbeats 4000000 in
theorem l_X7_undo_13 {G : GM} {p : Program} {l : Launch} {e : Env} {s : State} {m : MethodId} {args : Array Value} {below : List Frame} {meth : Method} {c : Code} (F : Fx G p l s m args meth c cX7_undo RX7 1 (some .int)) (z1 : Int32) (M : Mem) : Rf G p l e s m args below meth c 7 1 emI (f_X7_undo_13  z1 M) 13 [(0, .ref (gA G 24))] [.int z1, .ref (gA G 24)] M := by
  unfold f_X7_undo_13
  refine pf_X7_37 F dX7_undo_13 (rfl : kd 24 = 7) (fun M13 => ?_)
  refine r_aload_n F 0 dX7_undo_16 rfl rfl ?_
  refine gf_X7_37 F dX7_undo_17 (rfl : kd 24 = 7) ?_
  refine r_if_eq (tgt := 25) F dX7_undo_20 (by decide) (fun c1 => ?_) (fun c1 => ?_)
  · refine r_aload_n F 0 dX7_undo_25 rfl rfl ?_
    refine r_dup F dX7_undo_26 rfl ?_
    refine gf_X7_49 F dX7_undo_27 (rfl : kd 24 = 7) ?_
    refine r_iconst F dX7_undo_30 (v := 1) (by decide) ?_
    refine r_isub F dX7_undo_31 ?_
    refine pf_X7_49 F dX7_undo_32 (rfl : kd 24 = 7) (fun M32 => ?_)
    refine r_aload_n F 0 dX7_undo_35 rfl rfl ?_
    refine r_sipush F dX7_undo_36 (v := 428) (by decide) ?_
    refine r_sipush F dX7_undo_39 (v := 428) (by decide) ?_
    refine r_aload_n F 0 dX7_undo_42 rfl rfl ?_
    refine gf_X7_49 F dX7_undo_43 (rfl : kd 24 = 7) ?_
    refine r_imul F dX7_undo_46 ?_
    refine r_iadd F dX7_undo_47 ?_
    refine r_iconst F dX7_undo_48 (v := 0) (by decide) ?_
    refine r_cV (val := vU) (As := [.int ((428 : Int32) + ((428 : Int32) * (M32.1 24 1))), .int (0 : Int32)]) (rest := []) (fun _ => []) F (c_X7_copy F.st F.gg ((428 : Int32) + ((428 : Int32) * (M32.1 24 1))) (0 : Int32) M32) (fun _ _ => rfl) dX7_undo_49 ml_X7_52 yv_X7_copy (rfl : kd 24 = 7) (by decide) rfl rfl (by decide) rfl (Nat.le_of_ble_eq_true rfl) (fun _ => rfl) (fun _ M49 => ?_)
    refine r_aload_n F 0 dX7_undo_52 rfl rfl ?_
    refine gf_X7_49 F dX7_undo_53 (rfl : kd 24 = 7) ?_
    exact r_iret F rfl dX7_undo_56 rfl
  · refine r_iconst F dX7_undo_23 (v := 0) (by decide) ?_
    exact r_iret F rfl dX7_undo_24 rfl

def f_X7_undo  (M : Mem) : Option (Int32 × Mem) := if (M.1 24 1) = 0 then (f_X7_undo_13  (1 : Int32) M) else (f_X7_undo_13  (0 : Int32) M)

set_option maxRecDepth 100000 in
set_option maxHeartbeats 4000000 in
theorem b_X7_undo {G : GM} {p : Program} {l : Launch} {e : Env} {s : State} {m : MethodId} {args : Array Value} {below : List Frame} {meth : Method} {c : Code} (F : Fx G p l s m args meth c cX7_undo RX7 1 (some .int))  (M : Mem) : Rf G p l e s m args below meth c 7 1 emI (f_X7_undo  M) 0 [(0, .ref (gA G 24))] [] M := by
  unfold f_X7_undo
  refine r_aload_n F 0 dX7_undo_0 rfl rfl ?_
  refine r_aload_n F 0 dX7_undo_1 rfl rfl ?_
  refine gf_X7_49 F dX7_undo_2 (rfl : kd 24 = 7) ?_
  refine r_if_ne (tgt := 12) F dX7_undo_5 (by decide) (fun c1 => ?_) (fun c1 => ?_)
  · refine r_iconst F dX7_undo_8 (v := 1) (by decide) ?_
    refine r_goto (tgt := 13) F dX7_undo_9 (by decide) ?_
    refine r_sub [0] rfl ?_
    exact l_X7_undo_13 F   (1 : Int32) M
  · refine r_iconst F dX7_undo_12 (v := 0) (by decide) ?_
    refine r_sub [0] rfl ?_
    exact l_X7_undo_13 F   (0 : Int32) M

set_option maxRecDepth 100000 in
set_option maxHeartbeats 4000000 in
theorem c_X7_undo {l : Launch} {G : GM} (hl : l.stackTraces = false) (hG : GG G)  (M : Mem) : ∀ r, f_X7_undo  M = some r → Ctr l G yX7_undo (.code yX7_undo cX7_undo 1 (some .int) :: wsA) 7 [.ref (gA G 24)] M (emI r) :=
  ctr_of (by decide) hl hG (Nat.le_of_ble_eq_true rfl) (fun p e s m args below meth c F => b_X7_undo F  M)

-- ===== X7_wear DrumTownsModel.wear(II)I =====
theorem yv_X7_wear : yV yX7_wear cX7_wear 3 (some .int) 2 := ⟨im_X7_wear, sl_X7_wear, ini_X7, cd_X7_wear, ⟨by decide, by decide, by decide +kernel⟩, by decide⟩

def f_X7_wear_45 (z0 : Int32) (M : Mem) : Option (Int32 × Mem) := some (z0, M)

set_option maxRecDepth 100000 in
set_option maxHeartbeats 4000000 in
theorem l_X7_wear_45 {G : GM} {p : Program} {l : Launch} {e : Env} {s : State} {m : MethodId} {args : Array Value} {below : List Frame} {meth : Method} {c : Code} (F : Fx G p l s m args meth c cX7_wear RX7 3 (some .int)) (z0 : Int32) (M : Mem) : Rf G p l e s m args below meth c 9 3 emI (f_X7_wear_45  z0 M) 45 [] [.int z0] M := by
  unfold f_X7_wear_45
  exact r_iret F rfl dX7_wear_45 rfl

def f_X7_wear_16 (y1 : Int32) (y2 : Int32) (z1 : Int32) (M : Mem) : Option (Int32 × Mem) := bnd (mw M 24 2 z1) fun M16 => if (M16.1 24 2) = 0 then (chk (inb (((294 : Int32) + ((12 : Int32) * y1)) + y2) 3424) <| f_X7_wear_45  (M16.1 25 (((294 : Int32) + ((12 : Int32) * y1)) + y2).toNatClampNeg) M16) else (f_X7_wear_45  (0 : Int32) M16)

set_option maxRecDepth 100000 in
set_option maxHeartbeats 4000000 in
theorem l_X7_wear_16 {G : GM} {p : Program} {l : Launch} {e : Env} {s : State} {m : MethodId} {args : Array Value} {below : List Frame} {meth : Method} {c : Code} (F : Fx G p l s m args meth c cX7_wear RX7 3 (some .int)) (y1 : Int32) (y2 : Int32) (z1 : Int32) (M : Mem) : Rf G p l e s m args below meth c 9 3 emI (f_X7_wear_16  y1 y2 z1 M) 16 [(0, .ref (gA G 24)), (1, .int y1), (2, .int y2)] [.int z1, .ref (gA G 24)] M := by
  unfold f_X7_wear_16
  refine pf_X7_37 F dX7_wear_16 (rfl : kd 24 = 7) (fun M16 => ?_)
  refine r_aload_n F 0 dX7_wear_19 rfl rfl ?_
  refine gf_X7_37 F dX7_wear_20 (rfl : kd 24 = 7) ?_
  refine r_if_ne (tgt := 44) F dX7_wear_23 (by decide) (fun c1 => ?_) (fun c1 => ?_)
  · refine r_aload_n F 0 dX7_wear_26 rfl rfl ?_
    refine gf_X7_7 F dX7_wear_27 (rfl : kd 24 = 7) ?_
    refine r_sipush F dX7_wear_30 (v := 294) (by decide) ?_
    refine r_bipush F dX7_wear_33 (v := 12) (by decide) ?_
    refine r_iload_n F 1 dX7_wear_35 rfl rfl ?_
    refine r_imul F dX7_wear_36 ?_
    refine r_iadd F dX7_wear_37 ?_
    refine r_iload_n F 2 dX7_wear_38 rfl rfl ?_
    refine r_iadd F dX7_wear_39 ?_
    refine r_chk (fun h2 => ?_)
    refine r_iald F dX7_wear_40 (rfl : kd 25 = 8) (rfl : al 25 = 3424) h2 ?_
    refine r_goto (tgt := 45) F dX7_wear_41 (by decide) ?_
    refine r_sub [] rfl ?_
    exact l_X7_wear_45 F   (M16.1 25 (((294 : Int32) + ((12 : Int32) * y1)) + y2).toNatClampNeg) M16
  · refine r_iconst F dX7_wear_44 (v := 0) (by decide) ?_
    refine r_sub [] rfl ?_
    exact l_X7_wear_45 F   (0 : Int32) M16

def f_X7_wear (a1 : Int32) (a2 : Int32) (M : Mem) : Option (Int32 × Mem) := bn (f_X7_isPlace a1 (0 : Int32) a2 M) fun r5 M5 => if r5 = 0 then (f_X7_wear_16  a1 a2 (1 : Int32) M5) else (f_X7_wear_16  a1 a2 (0 : Int32) M5)

set_option maxRecDepth 100000 in
set_option maxHeartbeats 4000000 in
theorem b_X7_wear {G : GM} {p : Program} {l : Launch} {e : Env} {s : State} {m : MethodId} {args : Array Value} {below : List Frame} {meth : Method} {c : Code} (F : Fx G p l s m args meth c cX7_wear RX7 3 (some .int)) (a1 : Int32) (a2 : Int32) (M : Mem) : Rf G p l e s m args below meth c 9 3 emI (f_X7_wear a1 a2 M) 0 [(0, .ref (gA G 24)), (1, .int a1), (2, .int a2)] [] M := by
  unfold f_X7_wear
  refine r_aload_n F 0 dX7_wear_0 rfl rfl ?_
  refine r_aload_n F 0 dX7_wear_1 rfl rfl ?_
  refine r_iload_n F 1 dX7_wear_2 rfl rfl ?_
  refine r_iconst F dX7_wear_3 (v := 0) (by decide) ?_
  refine r_iload_n F 2 dX7_wear_4 rfl rfl ?_
  refine r_cV (val := vI) (As := [.int a1, .int (0 : Int32), .int a2]) (rest := [.ref (gA G 24)]) (fun q9 => .int q9 :: [.ref (gA G 24)]) F (c_X7_isPlace F.st F.gg a1 (0 : Int32) a2 M) (fun _ _ => rfl) dX7_wear_5 ml_X7_67 yv_X7_isPlace (rfl : kd 24 = 7) (by decide) rfl rfl (by decide) rfl (Nat.le_of_ble_eq_true rfl) (fun _ => rfl) (fun r5 M5 => ?_)
  refine r_if_eq (tgt := 15) F dX7_wear_8 (by decide) (fun c1 => ?_) (fun c1 => ?_)
  · refine r_iconst F dX7_wear_15 (v := 1) (by decide) ?_
    refine r_sub [0, 1, 2] rfl ?_
    exact l_X7_wear_16 F   a1 a2 (1 : Int32) M5
  · refine r_iconst F dX7_wear_11 (v := 0) (by decide) ?_
    refine r_goto (tgt := 16) F dX7_wear_12 (by decide) ?_
    refine r_sub [0, 1, 2] rfl ?_
    exact l_X7_wear_16 F   a1 a2 (0 : Int32) M5

set_option maxRecDepth 100000 in
set_option maxHeartbeats 4000000 in
theorem c_X7_wear {l : Launch} {G : GM} (hl : l.stackTraces = false) (hG : GG G) (a1 : Int32) (a2 : Int32) (M : Mem) : ∀ r, f_X7_wear a1 a2 M = some r → Ctr l G yX7_wear (.code yX7_wear cX7_wear 3 (some .int) :: wsA) 9 [.ref (gA G 24), .int a1, .int a2] M (emI r) :=
  ctr_of (by decide) hl hG (Nat.le_of_ble_eq_true rfl) (fun p e s m args below meth c F => b_X7_wear F a1 a2 M)

