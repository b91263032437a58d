-- ===== X6_checkSetting DrumTowns.checkSetting(I)V =====
theorem ys_X6_checkSetting : yS yX6_checkSetting cX6_checkSetting 1 none 1 := ⟨sc_X6_checkSetting, ini_X6, cd_X6_checkSetting, ⟨by decide, by decide, by decide +kernel⟩, by decide⟩

def f_X6_checkSetting_9  (M : Mem) : Option ((Unit ⊕ String) × Mem) := some (.inr exI, M)

set_option maxRecDepth 100000 in
set_option maxHeartbeats 4000000 in
theorem l_X6_checkSetting_9 {G : GM} {p : Program} {l : Launch} {e : Env} {s : State} {m : MethodId} {args : Array Value} {below : List Frame} {meth : Method} {c : Code} (F : Fx G p l s m args meth c cX6_checkSetting RX6 1 none)  (M : Mem) : Rf G p l e s m args below meth c 6 1 (emT vU) (f_X6_checkSetting_9   M) 9 [] [] M := by
  unfold f_X6_checkSetting_9
  exact r_throwW F atI cl_X6_355 ini_IndexOutOfBoundsException (by decide : (364, "there is no such setting") ∈ strW) dX6_checkSetting_9 dX6_checkSetting_12 dX6_checkSetting_13 dX6_checkSetting_16 dX6_checkSetting_19 (by decide) (Nat.le_of_ble_eq_true rfl)

def f_X6_checkSetting (a0 : Int32) (M : Mem) : Option ((Unit ⊕ String) × Mem) := if a0 < 0 then (f_X6_checkSetting_9   M) else (if a0 < (3 : Int32) then (some (.inl (), M)) else (f_X6_checkSetting_9   M))

set_option maxRecDepth 100000 in
set_option maxHeartbeats 4000000 in
theorem b_X6_checkSetting {G : GM} {p : Program} {l : Launch} {e : Env} {s : State} {m : MethodId} {args : Array Value} {below : List Frame} {meth : Method} {c : Code} (F : Fx G p l s m args meth c cX6_checkSetting RX6 1 none) (a0 : Int32) (M : Mem) : Rf G p l e s m args below meth c 6 1 (emT vU) (f_X6_checkSetting a0 M) 0 [(0, .int a0)] [] M := by
  unfold f_X6_checkSetting
  refine r_iload_n F 0 dX6_checkSetting_0 rfl rfl ?_
  refine r_if_lt (tgt := 9) F dX6_checkSetting_1 (by decide) (fun c1 => ?_) (fun c1 => ?_)
  · refine r_sub [] rfl ?_
    exact l_X6_checkSetting_9 F    M
  · refine r_iload_n F 0 dX6_checkSetting_4 rfl rfl ?_
    refine r_iconst F dX6_checkSetting_5 (v := 3) (by decide) ?_
    refine r_icmp_lt (tgt := 20) F dX6_checkSetting_6 (by decide) (fun c2 => ?_) (fun c2 => ?_)
    · exact r_vret F rfl dX6_checkSetting_20 rfl
    · refine r_sub [] rfl ?_
      exact l_X6_checkSetting_9 F    M

set_option maxRecDepth 100000 in
set_option maxHeartbeats 4000000 in
theorem c_X6_checkSetting {l : Launch} {G : GM} (hl : l.stackTraces = false) (hG : GG G) (a0 : Int32) (M : Mem) : ∀ r, f_X6_checkSetting a0 M = some r → Ctr l G yX6_checkSetting (.code yX6_checkSetting cX6_checkSetting 1 none :: wsA) 6 [.int a0] M ((emT vU) r) :=
  ctr_of (by decide) hl hG (Nat.le_of_ble_eq_true rfl) (fun p e s m args below meth c F => b_X6_checkSetting F a0 M)

-- ===== X6_file DrumTowns.file(II)I =====
theorem yv_X6_file : yV yX6_file cX6_file 4 (some .int) 2 := ⟨im_X6_file, sl_X6_file, ini_X6, cd_X6_file, ⟨by decide, by decide, by decide +kernel⟩, by decide⟩

def f_X6_file (a1 : Int32) (a2 : Int32) (M : Mem) : Option ((Int32 ⊕ String) × Mem) := bt (f_X6_checkTown a1 M) fun _ M2 => bt (f_X6_checkTooth a2 M2) fun _ M6 => bn (f_X6_saveState M6) fun _ M10 => chk (inb a1 6) <| bnd (tw 35 a1) fun b21 => chk (inb a2 12) <| bnd (M10.1 (b21 + 3) a2.toNatClampNeg) fun x27 => chk (inb a1 6) <| bnd (tw 35 a1) fun b36 => chk (inb a2 12) <| bnd (mw M10 (b36 + 3) a2.toNatClampNeg (0 : Int32)) fun M42 => some (.inl x27, M42)

set_option maxRecDepth 100000 in
set_option maxHeartbeats 4000000 in
theorem b_X6_file {G : GM} {p : Program} {l : Launch} {e : Env} {s : State} {m : MethodId} {args : Array Value} {below : List Frame} {meth : Method} {c : Code} (F : Fx G p l s m args meth c cX6_file RX6 4 (some .int)) (a1 : Int32) (a2 : Int32) (M : Mem) : Rf G p l e s m args below meth c 10 4 (emT vI) (f_X6_file a1 a2 M) 0 [(0, .ref (gA G 0)), (1, .int a1), (2, .int a2)] [] M := by
  unfold f_X6_file
  refine r_aload_n F 0 dX6_file_0 rfl rfl ?_
  refine r_iload_n F 1 dX6_file_1 rfl rfl ?_
  refine r_tV (val := vU) (As := [.int a1]) (rest := []) (fun _ => []) F (c_X6_checkTown F.st F.gg a1 M) dX6_file_2 ml_X6_120 yv_X6_checkTown (rfl : kd 0 = 0) (by decide) rfl rfl (by decide) rfl (Nat.le_of_ble_eq_true rfl) (fun _ => rfl) (fun _ M2 => ?_)
  refine r_iload_n F 2 dX6_file_5 rfl rfl ?_
  refine r_tS (val := vU) (As := [.int a2]) (rest := []) (fun _ => []) F (c_X6_checkTooth F.st F.gg a2 M2) dX6_file_6 ml_X6_139 ys_X6_checkTooth rfl (by decide) rfl (Nat.le_of_ble_eq_true rfl) (fun _ => rfl) (fun _ M6 => ?_)
  refine r_aload_n F 0 dX6_file_9 rfl rfl ?_
  refine r_cV (val := vU) (As := []) (rest := []) (fun _ => []) F (c_X6_saveState F.st F.gg  M6) (fun _ _ => rfl) dX6_file_10 ml_X6_73 yv_X6_saveState (rfl : kd 0 = 0) (by decide) rfl rfl (by decide) rfl (Nat.le_of_ble_eq_true rfl) (fun _ => rfl) (fun _ M10 => ?_)
  refine r_aload_n F 0 dX6_file_13 rfl rfl ?_
  refine gf_X6_10 F dX6_file_14 (rfl : kd 0 = 0) ?_
  refine gf_X6_76 F dX6_file_17 (rfl : kd 34 = 1) ?_
  refine r_iload_n F 1 dX6_file_20 rfl rfl ?_
  refine r_chk (fun h1 => ?_)
  refine r_aaldT F dX6_file_21 (rfl : kd 35 = 9) h1 ?_
  refine r_br (kTw' (rfl : kd 35 = 9) h1) (fun b21 k21 => ?_)
  refine gf_X6_142 F dX6_file_22 k21 ?_
  refine r_iload_n F 2 dX6_file_25 rfl rfl ?_
  refine r_chk (fun h2 => ?_)
  refine r_iald F dX6_file_26 (kTw k21) (aTw k21) h2 ?_
  refine r_bi (fun x27 => ?_)
  refine r_istore_n (ls' := [(3, .int x27), (0, .ref (gA G 0)), (1, .int a1), (2, .int a2)]) F dX6_file_27 rfl (by decide) rfl ?_
  refine r_aload_n F 1 dX6_file_28 rfl rfl ?_
  refine gf_X6_10 F dX6_file_29 (rfl : kd 0 = 0) ?_
  refine gf_X6_76 F dX6_file_32 (rfl : kd 34 = 1) ?_
  refine r_iload_n F 2 dX6_file_35 rfl rfl ?_
  refine r_chk (fun h3 => ?_)
  refine r_aaldT F dX6_file_36 (rfl : kd 35 = 9) h3 ?_
  refine r_br (kTw' (rfl : kd 35 = 9) h3) (fun b36 k36 => ?_)
  refine gf_X6_142 F dX6_file_37 k36 ?_
  refine r_iload_n F 3 dX6_file_40 rfl rfl ?_
  refine r_iconst F dX6_file_41 (v := 0) (by decide) ?_
  refine r_chk (fun h4 => ?_)
  refine r_iast F dX6_file_42 (kTw k36) (aTw k36) h4 (fun M42 => ?_)
  refine r_iload_n F 0 dX6_file_43 rfl rfl ?_
  exact r_iret F rfl dX6_file_44 rfl

set_option maxRecDepth 100000 in
set_option maxHeartbeats 4000000 in
theorem c_X6_file {l : Launch} {G : GM} (hl : l.stackTraces = false) (hG : GG G) (a1 : Int32) (a2 : Int32) (M : Mem) : ∀ r, f_X6_file a1 a2 M = some r → Ctr l G yX6_file (.code yX6_file cX6_file 4 (some .int) :: wsA) 10 [.ref (gA G 0), .int a1, .int a2] M ((emT vI) r) :=
  ctr_of (by decide) hl hG (Nat.le_of_ble_eq_true rfl) (fun p e s m args below meth c F => b_X6_file F a1 a2 M)

-- ===== X6_learn DrumTowns.learn(I)I =====
theorem yv_X6_learn : yV yX6_learn cX6_learn 3 (some .int) 1 := ⟨im_X6_learn, sl_X6_learn, ini_X6, cd_X6_learn, ⟨by decide, by decide, by decide +kernel⟩, by decide⟩

def f_X6_learn_32  (M : Mem) : Option ((Int32 ⊕ String) × Mem) := some (.inr exA, M)

set_option maxRecDepth 100000 in
set_option maxHeartbeats 4000000 in
theorem l_X6_learn_32 {G : GM} {p : Program} {l : Launch} {e : Env} {s : State} {m : MethodId} {args : Array Value} {below : List Frame} {meth : Method} {c : Code} (F : Fx G p l s m args meth c cX6_learn RX6 3 (some .int))  (M : Mem) : Rf G p l e s m args below meth c 10 3 (emT vI) (f_X6_learn_32   M) 32 [] [] M := by
  unfold f_X6_learn_32
  exact r_throw F atA cl_X6_52 ini_IllegalArgumentException (by decide : (202, "the buffer is not a complete tune") ∈ strW) dX6_learn_32 dX6_learn_35 dX6_learn_36 dX6_learn_38 dX6_learn_41 (by decide) (Nat.le_of_ble_eq_true rfl)

def f_X6_learn (a1 : Int32) (M : Mem) : Option ((Int32 ⊕ String) × Mem) := bt (f_X6_checkTown a1 M) fun _ M2 => bn (f_X5_readAll M2) fun r9 M9 => if r9 < (M9.1 2 1) then (f_X6_learn_32   M9) else (bn (f_X5_isComplete M9) fun r26 M26 => if r26 = 0 then (f_X6_learn_32   M26) else (bn (f_X6_saveState M26) fun _ M43 => chk (inb a1 6) <| bnd (tw 35 a1) fun b54 => bn (f_X6_copyRow 4 (b54 + 2) M43) fun _ M67 => bnd (mw M67 2 1 (0 : Int32)) fun M75 => bn (f_X6_sizeOf (b54 + 2) M75) fun r82 M82 => some (.inl r82, M82)))

set_option maxRecDepth 100000 in
set_option maxHeartbeats 4000000 in
theorem b_X6_learn {G : GM} {p : Program} {l : Launch} {e : Env} {s : State} {m : MethodId} {args : Array Value} {below : List Frame} {meth : Method} {c : Code} (F : Fx G p l s m args meth c cX6_learn RX6 3 (some .int)) (a1 : Int32) (M : Mem) : Rf G p l e s m args below meth c 10 3 (emT vI) (f_X6_learn a1 M) 0 [(0, .ref (gA G 0)), (1, .int a1)] [] M := by
  unfold f_X6_learn
  refine r_aload_n F 0 dX6_learn_0 rfl rfl ?_
  refine r_iload_n F 1 dX6_learn_1 rfl rfl ?_
  refine r_tV (val := vU) (As := [.int a1]) (rest := []) (fun _ => []) F (c_X6_checkTown F.st F.gg a1 M) dX6_learn_2 ml_X6_120 yv_X6_checkTown (rfl : kd 0 = 0) (by decide) rfl rfl (by decide) rfl (Nat.le_of_ble_eq_true rfl) (fun _ => rfl) (fun _ M2 => ?_)
  refine r_aload_n F 0 dX6_learn_5 rfl rfl ?_
  refine gf_X6_23 F dX6_learn_6 (rfl : kd 0 = 0) ?_
  refine r_cVN (val := vI) (As := []) (rest := []) (fun q9 => .int q9 :: []) F (c_X5_readAll F.st F.gg  M2) (fun _ _ => rfl) dX6_learn_9 mn_X6_195 yv_X5_readAll (rfl : kd 2 = 6) (by decide) rfl rfl (by decide) rfl (Nat.le_of_ble_eq_true rfl) (fun _ => rfl) (fun r9 M9 => ?_)
  refine r_aload_n F 0 dX6_learn_12 rfl rfl ?_
  refine gf_X6_23 F dX6_learn_13 (rfl : kd 0 = 0) ?_
  refine gf_X6_189 F dX6_learn_16 (rfl : kd 2 = 6) ?_
  refine r_icmp_lt (tgt := 32) F dX6_learn_19 (by decide) (fun c1 => ?_) (fun c1 => ?_)
  · refine r_sub [] rfl ?_
    exact l_X6_learn_32 F    M9
  · refine r_aload_n F 0 dX6_learn_22 rfl rfl ?_
    refine gf_X6_23 F dX6_learn_23 (rfl : kd 0 = 0) ?_
    refine r_cVN (val := vI) (As := []) (rest := []) (fun q9 => .int q9 :: []) F (c_X5_isComplete F.st F.gg  M9) (fun _ _ => rfl) dX6_learn_26 mn_X6_198 yv_X5_isComplete (rfl : kd 2 = 6) (by decide) rfl rfl (by decide) rfl (Nat.le_of_ble_eq_true rfl) (fun _ => rfl) (fun r26 M26 => ?_)
    refine r_if_ne (tgt := 42) F dX6_learn_29 (by decide) (fun c2 => ?_) (fun c2 => ?_)
    · refine r_sub [] rfl ?_
      exact l_X6_learn_32 F    M26
    · refine r_aload_n F 0 dX6_learn_42 rfl rfl ?_
      refine r_cV (val := vU) (As := []) (rest := []) (fun _ => []) F (c_X6_saveState F.st F.gg  M26) (fun _ _ => rfl) dX6_learn_43 ml_X6_73 yv_X6_saveState (rfl : kd 0 = 0) (by decide) rfl rfl (by decide) rfl (Nat.le_of_ble_eq_true rfl) (fun _ => rfl) (fun _ M43 => ?_)
      refine r_aload_n F 0 dX6_learn_46 rfl rfl ?_
      refine gf_X6_10 F dX6_learn_47 (rfl : kd 0 = 0) ?_
      refine gf_X6_76 F dX6_learn_50 (rfl : kd 34 = 1) ?_
      refine r_iload_n F 1 dX6_learn_53 rfl rfl ?_
      refine r_chk (fun h3 => ?_)
      refine r_aaldT F dX6_learn_54 (rfl : kd 35 = 9) h3 ?_
      refine r_br (kTw' (rfl : kd 35 = 9) h3) (fun b54 k54 => ?_)
      refine r_astore_n (ls' := [(2, .ref (gA G b54)), (0, .ref (gA G 0)), (1, .int a1)]) F dX6_learn_55 rfl (by decide) rfl ?_
      refine r_aload_n F 1 dX6_learn_56 rfl rfl ?_
      refine gf_X6_23 F dX6_learn_57 (rfl : kd 0 = 0) ?_
      refine gf_X6_204 F dX6_learn_60 (rfl : kd 2 = 6) ?_
      refine r_aload_n F 0 dX6_learn_63 rfl rfl ?_
      refine gf_X6_207 F dX6_learn_64 k54 ?_
      refine r_cS (val := vU) (As := [.ref (gA G 4), .ref (gA G (b54 + 2))]) (rest := []) (fun _ => []) F (c_X6_copyRow F.st F.gg 4 (b54 + 2) M43) (fun _ _ => rfl) dX6_learn_67 ml_X6_135 ys_X6_copyRow rfl (by decide) rfl (Nat.le_of_ble_eq_true rfl) (fun _ => rfl) (fun _ M67 => ?_)
      refine r_aload_n F 1 dX6_learn_70 rfl rfl ?_
      refine gf_X6_23 F dX6_learn_71 (rfl : kd 0 = 0) ?_
      refine r_iconst F dX6_learn_74 (v := 0) (by decide) ?_
      refine pf_X6_189 F dX6_learn_75 (rfl : kd 2 = 6) (fun M75 => ?_)
      refine r_aload_n F 0 dX6_learn_78 rfl rfl ?_
      refine gf_X6_207 F dX6_learn_79 k54 ?_
      refine r_cS (val := vI) (As := [.ref (gA G (b54 + 2))]) (rest := []) (fun q9 => .int q9 :: []) F (c_X6_sizeOf F.st F.gg (b54 + 2) M75) (fun _ _ => rfl) dX6_learn_82 ml_X6_112 ys_X6_sizeOf rfl (by decide) rfl (Nat.le_of_ble_eq_true rfl) (fun _ => rfl) (fun r82 M82 => ?_)
      exact r_iret F rfl dX6_learn_85 rfl

set_option maxRecDepth 100000 in
set_option maxHeartbeats 4000000 in
theorem c_X6_learn {l : Launch} {G : GM} (hl : l.stackTraces = false) (hG : GG G) (a1 : Int32) (M : Mem) : ∀ r, f_X6_learn a1 M = some r → Ctr l G yX6_learn (.code yX6_learn cX6_learn 3 (some .int) :: wsA) 10 [.ref (gA G 0), .int a1] M ((emT vI) r) :=
  ctr_of (by decide) hl hG (Nat.le_of_ble_eq_true rfl) (fun p e s m args below meth c F => b_X6_learn F a1 M)

-- ===== X6_lend DrumTowns.lend(III)I =====
theorem yv_X6_lend : yV yX6_lend cX6_lend 4 (some .int) 3 := ⟨im_X6_lend, sl_X6_lend, ini_X6, cd_X6_lend, ⟨by decide, by decide, by decide +kernel⟩, by decide⟩

def f_X6_lend (a1 : Int32) (a2 : Int32) (a3 : Int32) (M : Mem) : Option ((Int32 ⊕ String) × Mem) := bt (f_X6_checkTown a1 M) fun _ M2 => bt (f_X6_checkTown a2 M2) fun _ M7 => bt (f_X6_checkDifferent a1 a2 M7) fun _ M12 => bt (f_X6_checkGiven a3 M12) fun _ M16 => bt (f_X6_checkBoxes a1 a2 a3 M16) fun _ M23 => bn (f_X6_saveState M23) fun _ M27 => bn (f_X0_carry 34 a1 a2 a3 M27) fun _ M37 => chk (inb a2 6) <| bnd (rw' 37 a2) fun b48 => chk (inb a1 6) <| chk (inb a1 6) <| bnd (mw M37 b48 a1.toNatClampNeg ((M37.1 b48 a1.toNatClampNeg) + a3)) fun M54 => bnd (mw M54 34 4 ((M54.1 34 4) + a3)) fun M65 => chk (inb a2 6) <| bnd (rw' 37 a2) fun b76 => chk (inb a1 6) <| some (.inl (M65.1 b76 a1.toNatClampNeg), M65)

set_option maxRecDepth 100000 in
set_option maxHeartbeats 4000000 in
theorem b_X6_lend {G : GM} {p : Program} {l : Launch} {e : Env} {s : State} {m : MethodId} {args : Array Value} {below : List Frame} {meth : Method} {c : Code} (F : Fx G p l s m args meth c cX6_lend RX6 4 (some .int)) (a1 : Int32) (a2 : Int32) (a3 : Int32) (M : Mem) : Rf G p l e s m args below meth c 10 4 (emT vI) (f_X6_lend a1 a2 a3 M) 0 [(0, .ref (gA G 0)), (1, .int a1), (2, .int a2), (3, .int a3)] [] M := by
  unfold f_X6_lend
  refine r_aload_n F 0 dX6_lend_0 rfl rfl ?_
  refine r_iload_n F 1 dX6_lend_1 rfl rfl ?_
  refine r_tV (val := vU) (As := [.int a1]) (rest := []) (fun _ => []) F (c_X6_checkTown F.st F.gg a1 M) dX6_lend_2 ml_X6_120 yv_X6_checkTown (rfl : kd 0 = 0) (by decide) rfl rfl (by decide) rfl (Nat.le_of_ble_eq_true rfl) (fun _ => rfl) (fun _ M2 => ?_)
  refine r_aload_n F 0 dX6_lend_5 rfl rfl ?_
  refine r_iload_n F 2 dX6_lend_6 rfl rfl ?_
  refine r_tV (val := vU) (As := [.int a2]) (rest := []) (fun _ => []) F (c_X6_checkTown F.st F.gg a2 M2) dX6_lend_7 ml_X6_120 yv_X6_checkTown (rfl : kd 0 = 0) (by decide) rfl rfl (by decide) rfl (Nat.le_of_ble_eq_true rfl) (fun _ => rfl) (fun _ M7 => ?_)
  refine r_iload_n F 1 dX6_lend_10 rfl rfl ?_
  refine r_iload_n F 2 dX6_lend_11 rfl rfl ?_
  refine r_tS (val := vU) (As := [.int a1, .int a2]) (rest := []) (fun _ => []) F (c_X6_checkDifferent F.st F.gg a1 a2 M7) dX6_lend_12 ml_X6_123 ys_X6_checkDifferent rfl (by decide) rfl (Nat.le_of_ble_eq_true rfl) (fun _ => rfl) (fun _ M12 => ?_)
  refine r_iload_n F 3 dX6_lend_15 rfl rfl ?_
  refine r_tS (val := vU) (As := [.int a3]) (rest := []) (fun _ => []) F (c_X6_checkGiven F.st F.gg a3 M12) dX6_lend_16 ml_X6_155 ys_X6_checkGiven rfl (by decide) rfl (Nat.le_of_ble_eq_true rfl) (fun _ => rfl) (fun _ M16 => ?_)
  refine r_aload_n F 0 dX6_lend_19 rfl rfl ?_
  refine r_iload_n F 1 dX6_lend_20 rfl rfl ?_
  refine r_iload_n F 2 dX6_lend_21 rfl rfl ?_
  refine r_iload_n F 3 dX6_lend_22 rfl rfl ?_
  refine r_tV (val := vU) (As := [.int a1, .int a2, .int a3]) (rest := []) (fun _ => []) F (c_X6_checkBoxes F.st F.gg a1 a2 a3 M16) dX6_lend_23 ml_X6_158 yv_X6_checkBoxes (rfl : kd 0 = 0) (by decide) rfl rfl (by decide) rfl (Nat.le_of_ble_eq_true rfl) (fun _ => rfl) (fun _ M23 => ?_)
  refine r_aload_n F 0 dX6_lend_26 rfl rfl ?_
  refine r_cV (val := vU) (As := []) (rest := []) (fun _ => []) F (c_X6_saveState F.st F.gg  M23) (fun _ _ => rfl) dX6_lend_27 ml_X6_73 yv_X6_saveState (rfl : kd 0 = 0) (by decide) rfl rfl (by decide) rfl (Nat.le_of_ble_eq_true rfl) (fun _ => rfl) (fun _ M27 => ?_)
  refine r_aload_n F 0 dX6_lend_30 rfl rfl ?_
  refine gf_X6_10 F dX6_lend_31 (rfl : kd 0 = 0) ?_
  refine r_iload_n F 1 dX6_lend_34 rfl rfl ?_
  refine r_iload_n F 2 dX6_lend_35 rfl rfl ?_
  refine r_iload_n F 3 dX6_lend_36 rfl rfl ?_
  refine r_cVN (val := vU) (As := [.int a1, .int a2, .int a3]) (rest := []) (fun _ => []) F (c_X0_carry F.st F.gg 34 a1 a2 a3 M27) (fun _ _ => rfl) dX6_lend_37 mn_X6_161 yv_X0_carry (rfl : kd 34 = 1) (by decide) rfl rfl (by decide) rfl (Nat.le_of_ble_eq_true rfl) (fun _ => rfl) (fun _ M37 => ?_)
  refine r_aload_n F 0 dX6_lend_40 rfl rfl ?_
  refine gf_X6_10 F dX6_lend_41 (rfl : kd 0 = 0) ?_
  refine gf_X6_164 F dX6_lend_44 (rfl : kd 34 = 1) ?_
  refine r_iload_n F 2 dX6_lend_47 rfl rfl ?_
  refine r_chk (fun h1 => ?_)
  refine r_aaldR F dX6_lend_48 (rfl : kd 37 = 11) h1 ?_
  refine r_bra (kRw (rfl : kd 37 = 11) h1) (aRw (rfl : kd 37 = 11) h1) (fun b48 k48 k48a => ?_)
  refine r_iload_n F 1 dX6_lend_49 rfl rfl ?_
  refine r_dup2 F dX6_lend_50 rfl rfl ?_
  refine r_chk (fun h2 => ?_)
  refine r_iald F dX6_lend_51 k48 k48a h2 ?_
  refine r_iload_n F 3 dX6_lend_52 rfl rfl ?_
  refine r_iadd F dX6_lend_53 ?_
  refine r_chk (fun h3 => ?_)
  refine r_iast F dX6_lend_54 k48 k48a h3 (fun M54 => ?_)
  refine r_aload_n F 0 dX6_lend_55 rfl rfl ?_
  refine gf_X6_10 F dX6_lend_56 (rfl : kd 0 = 0) ?_
  refine r_dup F dX6_lend_59 rfl ?_
  refine gf_X6_168 F dX6_lend_60 (rfl : kd 34 = 1) ?_
  refine r_iload_n F 3 dX6_lend_63 rfl rfl ?_
  refine r_iadd F dX6_lend_64 ?_
  refine pf_X6_168 F dX6_lend_65 (rfl : kd 34 = 1) (fun M65 => ?_)
  refine r_aload_n F 0 dX6_lend_68 rfl rfl ?_
  refine gf_X6_10 F dX6_lend_69 (rfl : kd 0 = 0) ?_
  refine gf_X6_164 F dX6_lend_72 (rfl : kd 34 = 1) ?_
  refine r_iload_n F 2 dX6_lend_75 rfl rfl ?_
  refine r_chk (fun h4 => ?_)
  refine r_aaldR F dX6_lend_76 (rfl : kd 37 = 11) h4 ?_
  refine r_bra (kRw (rfl : kd 37 = 11) h4) (aRw (rfl : kd 37 = 11) h4) (fun b76 k76 k76a => ?_)
  refine r_iload_n F 1 dX6_lend_77 rfl rfl ?_
  refine r_chk (fun h5 => ?_)
  refine r_iald F dX6_lend_78 k76 k76a h5 ?_
  exact r_iret F rfl dX6_lend_79 rfl

set_option maxRecDepth 100000 in
set_option maxHeartbeats 4000000 in
theorem c_X6_lend {l : Launch} {G : GM} (hl : l.stackTraces = false) (hG : GG G) (a1 : Int32) (a2 : Int32) (a3 : Int32) (M : Mem) : ∀ r, f_X6_lend a1 a2 a3 M = some r → Ctr l G yX6_lend (.code yX6_lend cX6_lend 4 (some .int) :: wsA) 10 [.ref (gA G 0), .int a1, .int a2, .int a3] M ((emT vI) r) :=
  ctr_of (by decide) hl hG (Nat.le_of_ble_eq_true rfl) (fun p e s m args below meth c F => b_X6_lend F a1 a2 a3 M)

-- ===== X6_move DrumTowns.move(IIII)I =====
theorem yv_X6_move : yV yX6_move cX6_move 7 (some .int) 4 := ⟨im_X6_move, sl_X6_move, ini_X6, cd_X6_move, ⟨by decide, by decide, by decide +kernel⟩, by decide⟩

def f_X6_move (a1 : Int32) (a2 : Int32) (a3 : Int32) (a4 : Int32) (M : Mem) : Option ((Int32 ⊕ String) × Mem) := bt (f_X6_checkPlace a1 a3 a4 M) fun _ M5 => bt (f_X6_checkTown a2 M5) fun _ M10 => bt (f_X6_checkDifferent a1 a2 M10) fun _ M15 => chk (inb a1 6) <| bnd (tw 35 a1) fun b26 => chk (inb a2 6) <| bnd (tw 35 a2) fun b37 => bn (f_X3_hasPin b26 a3 a4 M15) fun r45 M45 => if r45 = 0 then (some (.inr exS, M45)) else (bn (f_X3_hasPin b37 a3 a4 M45) fun r66 M66 => if r66 = 0 then (bn (f_X6_saveState M66) fun _ M83 => chk (inb a3 24) <| chk (inb a3 24) <| bnd (mw M83 (b26 + 1) a3.toNatClampNeg ((M83.1 (b26 + 1) a3.toNatClampNeg) &&& (((1 : Int32) <<< (a4 &&& 31)) ^^^ (-1 : Int32)))) fun M101 => chk (inb a3 24) <| chk (inb a3 24) <| bnd (mw M101 (b37 + 1) a3.toNatClampNeg ((M101.1 (b37 + 1) a3.toNatClampNeg) ||| ((1 : Int32) <<< (a4 &&& 31)))) fun M115 => bn (f_X6_sizeOf (b37 + 1) M115) fun r121 M121 => some (.inl r121, M121)) else (some (.inr exS, M66)))

set_option maxRecDepth 100000 in
set_option maxHeartbeats 4000000 in
theorem b_X6_move {G : GM} {p : Program} {l : Launch} {e : Env} {s : State} {m : MethodId} {args : Array Value} {below : List Frame} {meth : Method} {c : Code} (F : Fx G p l s m args meth c cX6_move RX6 7 (some .int)) (a1 : Int32) (a2 : Int32) (a3 : Int32) (a4 : Int32) (M : Mem) : Rf G p l e s m args below meth c 10 7 (emT vI) (f_X6_move a1 a2 a3 a4 M) 0 [(0, .ref (gA G 0)), (1, .int a1), (2, .int a2), (3, .int a3), (4, .int a4)] [] M := by
  unfold f_X6_move
  refine r_aload_n F 0 dX6_move_0 rfl rfl ?_
  refine r_iload_n F 1 dX6_move_1 rfl rfl ?_
  refine r_iload_n F 3 dX6_move_2 rfl rfl ?_
  refine r_iload F 4 dX6_move_3 rfl ?_
  refine r_tV (val := vU) (As := [.int a1, .int a3, .int a4]) (rest := []) (fun _ => []) F (c_X6_checkPlace F.st F.gg a1 a3 a4 M) dX6_move_5 ml_X6_97 yv_X6_checkPlace (rfl : kd 0 = 0) (by decide) rfl rfl (by decide) rfl (Nat.le_of_ble_eq_true rfl) (fun _ => rfl) (fun _ M5 => ?_)
  refine r_aload_n F 0 dX6_move_8 rfl rfl ?_
  refine r_iload_n F 2 dX6_move_9 rfl rfl ?_
  refine r_tV (val := vU) (As := [.int a2]) (rest := []) (fun _ => []) F (c_X6_checkTown F.st F.gg a2 M5) dX6_move_10 ml_X6_120 yv_X6_checkTown (rfl : kd 0 = 0) (by decide) rfl rfl (by decide) rfl (Nat.le_of_ble_eq_true rfl) (fun _ => rfl) (fun _ M10 => ?_)
  refine r_iload_n F 1 dX6_move_13 rfl rfl ?_
  refine r_iload_n F 2 dX6_move_14 rfl rfl ?_
  refine r_tS (val := vU) (As := [.int a1, .int a2]) (rest := []) (fun _ => []) F (c_X6_checkDifferent F.st F.gg a1 a2 M10) dX6_move_15 ml_X6_123 ys_X6_checkDifferent rfl (by decide) rfl (Nat.le_of_ble_eq_true rfl) (fun _ => rfl) (fun _ M15 => ?_)
  refine r_aload_n F 0 dX6_move_18 rfl rfl ?_
  refine gf_X6_10 F dX6_move_19 (rfl : kd 0 = 0) ?_
  refine gf_X6_76 F dX6_move_22 (rfl : kd 34 = 1) ?_
  refine r_iload_n F 1 dX6_move_25 rfl rfl ?_
  refine r_chk (fun h1 => ?_)
  refine r_aaldT F dX6_move_26 (rfl : kd 35 = 9) h1 ?_
  refine r_br (kTw' (rfl : kd 35 = 9) h1) (fun b26 k26 => ?_)
  refine r_astore (ls' := [(5, .ref (gA G b26)), (0, .ref (gA G 0)), (1, .int a1), (2, .int a2), (3, .int a3), (4, .int a4)]) F dX6_move_27 (by decide) rfl ?_
  refine r_aload_n F 1 dX6_move_29 rfl rfl ?_
  refine gf_X6_10 F dX6_move_30 (rfl : kd 0 = 0) ?_
  refine gf_X6_76 F dX6_move_33 (rfl : kd 34 = 1) ?_
  refine r_iload_n F 3 dX6_move_36 rfl rfl ?_
  refine r_chk (fun h2 => ?_)
  refine r_aaldT F dX6_move_37 (rfl : kd 35 = 9) h2 ?_
  refine r_br (kTw' (rfl : kd 35 = 9) h2) (fun b37 k37 => ?_)
  refine r_astore (ls' := [(6, .ref (gA G b37)), (5, .ref (gA G b26)), (0, .ref (gA G 0)), (1, .int a1), (2, .int a2), (3, .int a3), (4, .int a4)]) F dX6_move_38 (by decide) rfl ?_
  refine r_aload F 1 dX6_move_40 rfl ?_
  refine r_iload_n F 5 dX6_move_42 rfl rfl ?_
  refine r_iload F 6 dX6_move_43 rfl ?_
  refine r_cVN (val := vI) (As := [.int a3, .int a4]) (rest := []) (fun q9 => .int q9 :: []) F (c_X3_hasPin F.st F.gg b26 a3 a4 M15) (fun _ _ => rfl) dX6_move_45 mn_X6_101 yv_X3_hasPin k26 (by decide) rfl rfl (by decide) rfl (Nat.le_of_ble_eq_true rfl) (fun _ => rfl) (fun r45 M45 => ?_)
  refine r_if_ne (tgt := 61) F dX6_move_48 (by decide) (fun c3 => ?_) (fun c3 => ?_)
  · exact r_throw F atS cl_X6_63 ini_IllegalStateException (by decide : (116, "there is no pin") ∈ strW) dX6_move_51 dX6_move_54 dX6_move_55 dX6_move_57 dX6_move_60 (by decide) (Nat.le_of_ble_eq_true rfl)
  · refine r_aload F 0 dX6_move_61 rfl ?_
    refine r_iload_n F 5 dX6_move_63 rfl rfl ?_
    refine r_iload F 6 dX6_move_64 rfl ?_
    refine r_cVN (val := vI) (As := [.int a3, .int a4]) (rest := []) (fun q9 => .int q9 :: []) F (c_X3_hasPin F.st F.gg b37 a3 a4 M45) (fun _ _ => rfl) dX6_move_66 mn_X6_101 yv_X3_hasPin k37 (by decide) rfl rfl (by decide) rfl (Nat.le_of_ble_eq_true rfl) (fun _ => rfl) (fun r66 M66 => ?_)
    refine r_if_eq (tgt := 82) F dX6_move_69 (by decide) (fun c4 => ?_) (fun c4 => ?_)
    · refine r_aload_n F 2 dX6_move_82 rfl rfl ?_
      refine r_cV (val := vU) (As := []) (rest := []) (fun _ => []) F (c_X6_saveState F.st F.gg  M66) (fun _ _ => rfl) dX6_move_83 ml_X6_73 yv_X6_saveState (rfl : kd 0 = 0) (by decide) rfl rfl (by decide) rfl (Nat.le_of_ble_eq_true rfl) (fun _ => rfl) (fun _ M83 => ?_)
      refine r_aload F 1 dX6_move_86 rfl ?_
      refine gf_X6_109 F dX6_move_88 k26 ?_
      refine r_iload_n F 5 dX6_move_91 rfl rfl ?_
      refine r_dup2 F dX6_move_92 rfl rfl ?_
      refine r_chk (fun h5 => ?_)
      refine r_iald F dX6_move_93 (kTd k26) (aTd k26) h5 ?_
      refine r_iconst F dX6_move_94 (v := 1) (by decide) ?_
      refine r_iload F 6 dX6_move_95 rfl ?_
      refine r_ishl F dX6_move_97 ?_
      refine r_iconst F dX6_move_98 (v := -1) (by decide) ?_
      refine r_ixor F dX6_move_99 ?_
      refine r_iand F dX6_move_100 ?_
      refine r_chk (fun h6 => ?_)
      refine r_iast F dX6_move_101 (kTd k26) (aTd k26) h6 (fun M101 => ?_)
      refine r_aload F 0 dX6_move_102 rfl ?_
      refine gf_X6_109 F dX6_move_104 k37 ?_
      refine r_iload_n F 5 dX6_move_107 rfl rfl ?_
      refine r_dup2 F dX6_move_108 rfl rfl ?_
      refine r_chk (fun h7 => ?_)
      refine r_iald F dX6_move_109 (kTd k37) (aTd k37) h7 ?_
      refine r_iconst F dX6_move_110 (v := 1) (by decide) ?_
      refine r_iload F 6 dX6_move_111 rfl ?_
      refine r_ishl F dX6_move_113 ?_
      refine r_ior F dX6_move_114 ?_
      refine r_chk (fun h8 => ?_)
      refine r_iast F dX6_move_115 (kTd k37) (aTd k37) h8 (fun M115 => ?_)
      refine r_aload F 0 dX6_move_116 rfl ?_
      refine gf_X6_109 F dX6_move_118 k37 ?_
      refine r_cS (val := vI) (As := [.ref (gA G (b37 + 1))]) (rest := []) (fun q9 => .int q9 :: []) F (c_X6_sizeOf F.st F.gg (b37 + 1) M115) (fun _ _ => rfl) dX6_move_121 ml_X6_112 ys_X6_sizeOf rfl (by decide) rfl (Nat.le_of_ble_eq_true rfl) (fun _ => rfl) (fun r121 M121 => ?_)
      exact r_iret F rfl dX6_move_124 rfl
    · exact r_throw F atS cl_X6_63 ini_IllegalStateException (by decide : (127, "there is a pin in the other drum") ∈ strW) dX6_move_72 dX6_move_75 dX6_move_76 dX6_move_78 dX6_move_81 (by decide) (Nat.le_of_ble_eq_true rfl)

set_option maxRecDepth 100000 in
set_option maxHeartbeats 4000000 in
theorem c_X6_move {l : Launch} {G : GM} (hl : l.stackTraces = false) (hG : GG G) (a1 : Int32) (a2 : Int32) (a3 : Int32) (a4 : Int32) (M : Mem) : ∀ r, f_X6_move a1 a2 a3 a4 M = some r → Ctr l G yX6_move (.code yX6_move cX6_move 7 (some .int) :: wsA) 10 [.ref (gA G 0), .int a1, .int a2, .int a3, .int a4] M ((emT vI) r) :=
  ctr_of (by decide) hl hG (Nat.le_of_ble_eq_true rfl) (fun p e s m args below meth c F => b_X6_move F a1 a2 a3 a4 M)

-- ===== X6_pull DrumTowns.pull(III)I =====
theorem yv_X6_pull : yV yX6_pull cX6_pull 5 (some .int) 3 := ⟨im_X6_pull, sl_X6_pull, ini_X6, cd_X6_pull, ⟨by decide, by decide, by decide +kernel⟩, by decide⟩

def f_X6_pull (a1 : Int32) (a2 : Int32) (a3 : Int32) (M : Mem) : Option ((Int32 ⊕ String) × Mem) := bt (f_X6_checkPlace a1 a2 a3 M) fun _ M4 => chk (inb a1 6) <| bnd (tw 35 a1) fun b15 => bn (f_X3_hasPin b15 a2 a3 M4) fun r22 M22 => if r22 = 0 then (some (.inr exS, M22)) else (chk (inb (2 : Int32) 3) <| if (M22.1 b15 0) < (M22.1 36 (2 : Int32).toNatClampNeg) then (bn (f_X6_saveState M22) fun _ M66 => chk (inb a2 24) <| chk (inb a2 24) <| bnd (mw M66 (b15 + 1) a2.toNatClampNeg ((M66.1 (b15 + 1) a2.toNatClampNeg) &&& (((1 : Int32) <<< (a3 &&& 31)) ^^^ (-1 : Int32)))) fun M83 => bnd (mw M83 b15 0 ((M83.1 b15 0) + (1 : Int32))) fun M92 => some (.inl (M92.1 b15 0), M92)) else (some (.inr exS, M22)))

set_option maxRecDepth 100000 in
set_option maxHeartbeats 4000000 in
theorem b_X6_pull {G : GM} {p : Program} {l : Launch} {e : Env} {s : State} {m : MethodId} {args : Array Value} {below : List Frame} {meth : Method} {c : Code} (F : Fx G p l s m args meth c cX6_pull RX6 5 (some .int)) (a1 : Int32) (a2 : Int32) (a3 : Int32) (M : Mem) : Rf G p l e s m args below meth c 10 5 (emT vI) (f_X6_pull a1 a2 a3 M) 0 [(0, .ref (gA G 0)), (1, .int a1), (2, .int a2), (3, .int a3)] [] M := by
  unfold f_X6_pull
  refine r_aload_n F 0 dX6_pull_0 rfl rfl ?_
  refine r_iload_n F 1 dX6_pull_1 rfl rfl ?_
  refine r_iload_n F 2 dX6_pull_2 rfl rfl ?_
  refine r_iload_n F 3 dX6_pull_3 rfl rfl ?_
  refine r_tV (val := vU) (As := [.int a1, .int a2, .int a3]) (rest := []) (fun _ => []) F (c_X6_checkPlace F.st F.gg a1 a2 a3 M) dX6_pull_4 ml_X6_97 yv_X6_checkPlace (rfl : kd 0 = 0) (by decide) rfl rfl (by decide) rfl (Nat.le_of_ble_eq_true rfl) (fun _ => rfl) (fun _ M4 => ?_)
  refine r_aload_n F 0 dX6_pull_7 rfl rfl ?_
  refine gf_X6_10 F dX6_pull_8 (rfl : kd 0 = 0) ?_
  refine gf_X6_76 F dX6_pull_11 (rfl : kd 34 = 1) ?_
  refine r_iload_n F 1 dX6_pull_14 rfl rfl ?_
  refine r_chk (fun h1 => ?_)
  refine r_aaldT F dX6_pull_15 (rfl : kd 35 = 9) h1 ?_
  refine r_br (kTw' (rfl : kd 35 = 9) h1) (fun b15 k15 => ?_)
  refine r_astore (ls' := [(4, .ref (gA G b15)), (0, .ref (gA G 0)), (1, .int a1), (2, .int a2), (3, .int a3)]) F dX6_pull_16 (by decide) rfl ?_
  refine r_aload F 0 dX6_pull_18 rfl ?_
  refine r_iload_n F 3 dX6_pull_20 rfl rfl ?_
  refine r_iload_n F 4 dX6_pull_21 rfl rfl ?_
  refine r_cVN (val := vI) (As := [.int a2, .int a3]) (rest := []) (fun q9 => .int q9 :: []) F (c_X3_hasPin F.st F.gg b15 a2 a3 M4) (fun _ _ => rfl) dX6_pull_22 mn_X6_101 yv_X3_hasPin k15 (by decide) rfl rfl (by decide) rfl (Nat.le_of_ble_eq_true rfl) (fun _ => rfl) (fun r22 M22 => ?_)
  refine r_if_ne (tgt := 38) F dX6_pull_25 (by decide) (fun c2 => ?_) (fun c2 => ?_)
  · exact r_throw F atS cl_X6_63 ini_IllegalStateException (by decide : (116, "there is no pin") ∈ strW) dX6_pull_28 dX6_pull_31 dX6_pull_32 dX6_pull_34 dX6_pull_37 (by decide) (Nat.le_of_ble_eq_true rfl)
  · refine r_aload F 0 dX6_pull_38 rfl ?_
    refine gf_X6_80 F dX6_pull_40 k15 ?_
    refine r_aload_n F 1 dX6_pull_43 rfl rfl ?_
    refine gf_X6_10 F dX6_pull_44 (rfl : kd 0 = 0) ?_
    refine gf_X6_68 F dX6_pull_47 (rfl : kd 34 = 1) ?_
    refine r_iconst F dX6_pull_50 (v := 2) (by decide) ?_
    refine r_chk (fun h3 => ?_)
    refine r_iald F dX6_pull_51 (rfl : kd 36 = 8) (rfl : al 36 = 3) h3 ?_
    refine r_icmp_lt (tgt := 65) F dX6_pull_52 (by decide) (fun c4 => ?_) (fun c4 => ?_)
    · refine r_aload_n F 1 dX6_pull_65 rfl rfl ?_
      refine r_cV (val := vU) (As := []) (rest := []) (fun _ => []) F (c_X6_saveState F.st F.gg  M22) (fun _ _ => rfl) dX6_pull_66 ml_X6_73 yv_X6_saveState (rfl : kd 0 = 0) (by decide) rfl rfl (by decide) rfl (Nat.le_of_ble_eq_true rfl) (fun _ => rfl) (fun _ M66 => ?_)
      refine r_aload F 0 dX6_pull_69 rfl ?_
      refine gf_X6_109 F dX6_pull_71 k15 ?_
      refine r_iload_n F 3 dX6_pull_74 rfl rfl ?_
      refine r_dup2 F dX6_pull_75 rfl rfl ?_
      refine r_chk (fun h5 => ?_)
      refine r_iald F dX6_pull_76 (kTd k15) (aTd k15) h5 ?_
      refine r_iconst F dX6_pull_77 (v := 1) (by decide) ?_
      refine r_iload_n F 4 dX6_pull_78 rfl rfl ?_
      refine r_ishl F dX6_pull_79 ?_
      refine r_iconst F dX6_pull_80 (v := -1) (by decide) ?_
      refine r_ixor F dX6_pull_81 ?_
      refine r_iand F dX6_pull_82 ?_
      refine r_chk (fun h6 => ?_)
      refine r_iast F dX6_pull_83 (kTd k15) (aTd k15) h6 (fun M83 => ?_)
      refine r_aload F 0 dX6_pull_84 rfl ?_
      refine r_dup F dX6_pull_86 rfl ?_
      refine gf_X6_80 F dX6_pull_87 k15 ?_
      refine r_iconst F dX6_pull_90 (v := 1) (by decide) ?_
      refine r_iadd F dX6_pull_91 ?_
      refine pf_X6_80 F dX6_pull_92 k15 (fun M92 => ?_)
      refine r_aload F 0 dX6_pull_95 rfl ?_
      refine gf_X6_80 F dX6_pull_97 k15 ?_
      exact r_iret F rfl dX6_pull_100 rfl
    · exact r_throw F atS cl_X6_63 ini_IllegalStateException (by decide : (118, "the box is full") ∈ strW) dX6_pull_55 dX6_pull_58 dX6_pull_59 dX6_pull_61 dX6_pull_64 (by decide) (Nat.le_of_ble_eq_true rfl)

set_option maxRecDepth 100000 in
set_option maxHeartbeats 4000000 in
theorem c_X6_pull {l : Launch} {G : GM} (hl : l.stackTraces = false) (hG : GG G) (a1 : Int32) (a2 : Int32) (a3 : Int32) (M : Mem) : ∀ r, f_X6_pull a1 a2 a3 M = some r → Ctr l G yX6_pull (.code yX6_pull cX6_pull 5 (some .int) :: wsA) 10 [.ref (gA G 0), .int a1, .int a2, .int a3] M ((emT vI) r) :=
  ctr_of (by decide) hl hG (Nat.le_of_ble_eq_true rfl) (fun p e s m args below meth c F => b_X6_pull F a1 a2 a3 M)

-- ===== X6_put DrumTowns.put(III)I =====
theorem yv_X6_put : yV yX6_put cX6_put 5 (some .int) 3 := ⟨im_X6_put, sl_X6_put, ini_X6, cd_X6_put, ⟨by decide, by decide, by decide +kernel⟩, by decide⟩

def f_X6_put (a1 : Int32) (a2 : Int32) (a3 : Int32) (M : Mem) : Option ((Int32 ⊕ String) × Mem) := bt (f_X6_checkPlace a1 a2 a3 M) fun _ M4 => chk (inb a1 6) <| bnd (tw 35 a1) fun b15 => bn (f_X3_hasPin b15 a2 a3 M4) fun r22 M22 => if r22 = 0 then (if (M22.1 b15 0) = 0 then (some (.inr exS, M22)) else (bn (f_X6_saveState M22) fun _ M57 => bnd (mw M57 b15 0 ((M57.1 b15 0) - (1 : Int32))) fun M68 => chk (inb a2 24) <| chk (inb a2 24) <| bnd (mw M68 (b15 + 1) a2.toNatClampNeg ((M68.1 (b15 + 1) a2.toNatClampNeg) ||| ((1 : Int32) <<< (a3 &&& 31)))) fun M83 => bn (f_X6_sizeOf (b15 + 1) M83) fun r89 M89 => some (.inl r89, M89))) else (some (.inr exS, M22))

set_option maxRecDepth 100000 in
set_option maxHeartbeats 4000000 in
theorem b_X6_put {G : GM} {p : Program} {l : Launch} {e : Env} {s : State} {m : MethodId} {args : Array Value} {below : List Frame} {meth : Method} {c : Code} (F : Fx G p l s m args meth c cX6_put RX6 5 (some .int)) (a1 : Int32) (a2 : Int32) (a3 : Int32) (M : Mem) : Rf G p l e s m args below meth c 10 5 (emT vI) (f_X6_put a1 a2 a3 M) 0 [(0, .ref (gA G 0)), (1, .int a1), (2, .int a2), (3, .int a3)] [] M := by
  unfold f_X6_put
  refine r_aload_n F 0 dX6_put_0 rfl rfl ?_
  refine r_iload_n F 1 dX6_put_1 rfl rfl ?_
  refine r_iload_n F 2 dX6_put_2 rfl rfl ?_
  refine r_iload_n F 3 dX6_put_3 rfl rfl ?_
  refine r_tV (val := vU) (As := [.int a1, .int a2, .int a3]) (rest := []) (fun _ => []) F (c_X6_checkPlace F.st F.gg a1 a2 a3 M) dX6_put_4 ml_X6_97 yv_X6_checkPlace (rfl : kd 0 = 0) (by decide) rfl rfl (by decide) rfl (Nat.le_of_ble_eq_true rfl) (fun _ => rfl) (fun _ M4 => ?_)
  refine r_aload_n F 0 dX6_put_7 rfl rfl ?_
  refine gf_X6_10 F dX6_put_8 (rfl : kd 0 = 0) ?_
  refine gf_X6_76 F dX6_put_11 (rfl : kd 34 = 1) ?_
  refine r_iload_n F 1 dX6_put_14 rfl rfl ?_
  refine r_chk (fun h1 => ?_)
  refine r_aaldT F dX6_put_15 (rfl : kd 35 = 9) h1 ?_
  refine r_br (kTw' (rfl : kd 35 = 9) h1) (fun b15 k15 => ?_)
  refine r_astore (ls' := [(4, .ref (gA G b15)), (0, .ref (gA G 0)), (1, .int a1), (2, .int a2), (3, .int a3)]) F dX6_put_16 (by decide) rfl ?_
  refine r_aload F 0 dX6_put_18 rfl ?_
  refine r_iload_n F 3 dX6_put_20 rfl rfl ?_
  refine r_iload_n F 4 dX6_put_21 rfl rfl ?_
  refine r_cVN (val := vI) (As := [.int a2, .int a3]) (rest := []) (fun q9 => .int q9 :: []) F (c_X3_hasPin F.st F.gg b15 a2 a3 M4) (fun _ _ => rfl) dX6_put_22 mn_X6_101 yv_X3_hasPin k15 (by decide) rfl rfl (by decide) rfl (Nat.le_of_ble_eq_true rfl) (fun _ => rfl) (fun r22 M22 => ?_)
  refine r_if_eq (tgt := 38) F dX6_put_25 (by decide) (fun c2 => ?_) (fun c2 => ?_)
  · refine r_aload F 0 dX6_put_38 rfl ?_
    refine gf_X6_80 F dX6_put_40 k15 ?_
    refine r_if_ne (tgt := 56) F dX6_put_43 (by decide) (fun c3 => ?_) (fun c3 => ?_)
    · exact r_throw F atS cl_X6_63 ini_IllegalStateException (by decide : (107, "the box is empty") ∈ strW) dX6_put_46 dX6_put_49 dX6_put_50 dX6_put_52 dX6_put_55 (by decide) (Nat.le_of_ble_eq_true rfl)
    · refine r_aload_n F 1 dX6_put_56 rfl rfl ?_
      refine r_cV (val := vU) (As := []) (rest := []) (fun _ => []) F (c_X6_saveState F.st F.gg  M22) (fun _ _ => rfl) dX6_put_57 ml_X6_73 yv_X6_saveState (rfl : kd 0 = 0) (by decide) rfl rfl (by decide) rfl (Nat.le_of_ble_eq_true rfl) (fun _ => rfl) (fun _ M57 => ?_)
      refine r_aload F 0 dX6_put_60 rfl ?_
      refine r_dup F dX6_put_62 rfl ?_
      refine gf_X6_80 F dX6_put_63 k15 ?_
      refine r_iconst F dX6_put_66 (v := 1) (by decide) ?_
      refine r_isub F dX6_put_67 ?_
      refine pf_X6_80 F dX6_put_68 k15 (fun M68 => ?_)
      refine r_aload F 0 dX6_put_71 rfl ?_
      refine gf_X6_109 F dX6_put_73 k15 ?_
      refine r_iload_n F 3 dX6_put_76 rfl rfl ?_
      refine r_dup2 F dX6_put_77 rfl rfl ?_
      refine r_chk (fun h4 => ?_)
      refine r_iald F dX6_put_78 (kTd k15) (aTd k15) h4 ?_
      refine r_iconst F dX6_put_79 (v := 1) (by decide) ?_
      refine r_iload_n F 4 dX6_put_80 rfl rfl ?_
      refine r_ishl F dX6_put_81 ?_
      refine r_ior F dX6_put_82 ?_
      refine r_chk (fun h5 => ?_)
      refine r_iast F dX6_put_83 (kTd k15) (aTd k15) h5 (fun M83 => ?_)
      refine r_aload F 0 dX6_put_84 rfl ?_
      refine gf_X6_109 F dX6_put_86 k15 ?_
      refine r_cS (val := vI) (As := [.ref (gA G (b15 + 1))]) (rest := []) (fun q9 => .int q9 :: []) F (c_X6_sizeOf F.st F.gg (b15 + 1) M83) (fun _ _ => rfl) dX6_put_89 ml_X6_112 ys_X6_sizeOf rfl (by decide) rfl (Nat.le_of_ble_eq_true rfl) (fun _ => rfl) (fun r89 M89 => ?_)
      exact r_iret F rfl dX6_put_92 rfl
  · exact r_throw F atS cl_X6_63 ini_IllegalStateException (by decide : (105, "there is a pin") ∈ strW) dX6_put_28 dX6_put_31 dX6_put_32 dX6_put_34 dX6_put_37 (by decide) (Nat.le_of_ble_eq_true rfl)

set_option maxRecDepth 100000 in
set_option maxHeartbeats 4000000 in
theorem c_X6_put {l : Launch} {G : GM} (hl : l.stackTraces = false) (hG : GG G) (a1 : Int32) (a2 : Int32) (a3 : Int32) (M : Mem) : ∀ r, f_X6_put a1 a2 a3 M = some r → Ctr l G yX6_put (.code yX6_put cX6_put 5 (some .int) :: wsA) 10 [.ref (gA G 0), .int a1, .int a2, .int a3] M ((emT vI) r) :=
  ctr_of (by decide) hl hG (Nat.le_of_ble_eq_true rfl) (fun p e s m args below meth c F => b_X6_put F a1 a2 a3 M)

-- ===== X6_repay DrumTowns.repay(III)I =====
theorem yv_X6_repay : yV yX6_repay cX6_repay 4 (some .int) 3 := ⟨im_X6_repay, sl_X6_repay, ini_X6, cd_X6_repay, ⟨by decide, by decide, by decide +kernel⟩, by decide⟩

def f_X6_repay (a1 : Int32) (a2 : Int32) (a3 : Int32) (M : Mem) : Option ((Int32 ⊕ String) × Mem) := bt (f_X6_checkTown a1 M) fun _ M2 => bt (f_X6_checkTown a2 M2) fun _ M7 => bt (f_X6_checkDifferent a1 a2 M7) fun _ M12 => bt (f_X6_checkGiven a3 M12) fun _ M16 => chk (inb a1 6) <| bnd (rw' 37 a1) fun b27 => chk (inb a2 6) <| if a3 ≤ (M16.1 b27 a2.toNatClampNeg) then (bt (f_X6_checkBoxes a1 a2 a3 M16) fun _ M48 => bn (f_X6_saveState M48) fun _ M52 => bn (f_X0_carry 34 a1 a2 a3 M52) fun _ M62 => chk (inb a1 6) <| bnd (rw' 37 a1) fun b73 => chk (inb a2 6) <| chk (inb a2 6) <| bnd (mw M62 b73 a2.toNatClampNeg ((M62.1 b73 a2.toNatClampNeg) - a3)) fun M79 => bnd (mw M79 34 5 ((M79.1 34 5) + a3)) fun M90 => chk (inb a1 6) <| bnd (rw' 37 a1) fun b101 => chk (inb a2 6) <| some (.inl (M90.1 b101 a2.toNatClampNeg), M90)) else (some (.inr exS, M16))

set_option maxRecDepth 100000 in
set_option maxHeartbeats 4000000 in
theorem b_X6_repay {G : GM} {p : Program} {l : Launch} {e : Env} {s : State} {m : MethodId} {args : Array Value} {below : List Frame} {meth : Method} {c : Code} (F : Fx G p l s m args meth c cX6_repay RX6 4 (some .int)) (a1 : Int32) (a2 : Int32) (a3 : Int32) (M : Mem) : Rf G p l e s m args below meth c 10 4 (emT vI) (f_X6_repay a1 a2 a3 M) 0 [(0, .ref (gA G 0)), (1, .int a1), (2, .int a2), (3, .int a3)] [] M := by
  unfold f_X6_repay
  refine r_aload_n F 0 dX6_repay_0 rfl rfl ?_
  refine r_iload_n F 1 dX6_repay_1 rfl rfl ?_
  refine r_tV (val := vU) (As := [.int a1]) (rest := []) (fun _ => []) F (c_X6_checkTown F.st F.gg a1 M) dX6_repay_2 ml_X6_120 yv_X6_checkTown (rfl : kd 0 = 0) (by decide) rfl rfl (by decide) rfl (Nat.le_of_ble_eq_true rfl) (fun _ => rfl) (fun _ M2 => ?_)
  refine r_aload_n F 0 dX6_repay_5 rfl rfl ?_
  refine r_iload_n F 2 dX6_repay_6 rfl rfl ?_
  refine r_tV (val := vU) (As := [.int a2]) (rest := []) (fun _ => []) F (c_X6_checkTown F.st F.gg a2 M2) dX6_repay_7 ml_X6_120 yv_X6_checkTown (rfl : kd 0 = 0) (by decide) rfl rfl (by decide) rfl (Nat.le_of_ble_eq_true rfl) (fun _ => rfl) (fun _ M7 => ?_)
  refine r_iload_n F 1 dX6_repay_10 rfl rfl ?_
  refine r_iload_n F 2 dX6_repay_11 rfl rfl ?_
  refine r_tS (val := vU) (As := [.int a1, .int a2]) (rest := []) (fun _ => []) F (c_X6_checkDifferent F.st F.gg a1 a2 M7) dX6_repay_12 ml_X6_123 ys_X6_checkDifferent rfl (by decide) rfl (Nat.le_of_ble_eq_true rfl) (fun _ => rfl) (fun _ M12 => ?_)
  refine r_iload_n F 3 dX6_repay_15 rfl rfl ?_
  refine r_tS (val := vU) (As := [.int a3]) (rest := []) (fun _ => []) F (c_X6_checkGiven F.st F.gg a3 M12) dX6_repay_16 ml_X6_155 ys_X6_checkGiven rfl (by decide) rfl (Nat.le_of_ble_eq_true rfl) (fun _ => rfl) (fun _ M16 => ?_)
  refine r_aload_n F 0 dX6_repay_19 rfl rfl ?_
  refine gf_X6_10 F dX6_repay_20 (rfl : kd 0 = 0) ?_
  refine gf_X6_164 F dX6_repay_23 (rfl : kd 34 = 1) ?_
  refine r_iload_n F 1 dX6_repay_26 rfl rfl ?_
  refine r_chk (fun h1 => ?_)
  refine r_aaldR F dX6_repay_27 (rfl : kd 37 = 11) h1 ?_
  refine r_bra (kRw (rfl : kd 37 = 11) h1) (aRw (rfl : kd 37 = 11) h1) (fun b27 k27 k27a => ?_)
  refine r_iload_n F 2 dX6_repay_28 rfl rfl ?_
  refine r_chk (fun h2 => ?_)
  refine r_iald F dX6_repay_29 k27 k27a h2 ?_
  refine r_iload_n F 3 dX6_repay_30 rfl rfl ?_
  refine r_icmp_ge (tgt := 44) F dX6_repay_31 (by decide) (fun c3 => ?_) (fun c3 => ?_)
  · refine r_aload_n F 0 dX6_repay_44 rfl rfl ?_
    refine r_iload_n F 1 dX6_repay_45 rfl rfl ?_
    refine r_iload_n F 2 dX6_repay_46 rfl rfl ?_
    refine r_iload_n F 3 dX6_repay_47 rfl rfl ?_
    refine r_tV (val := vU) (As := [.int a1, .int a2, .int a3]) (rest := []) (fun _ => []) F (c_X6_checkBoxes F.st F.gg a1 a2 a3 M16) dX6_repay_48 ml_X6_158 yv_X6_checkBoxes (rfl : kd 0 = 0) (by decide) rfl rfl (by decide) rfl (Nat.le_of_ble_eq_true rfl) (fun _ => rfl) (fun _ M48 => ?_)
    refine r_aload_n F 0 dX6_repay_51 rfl rfl ?_
    refine r_cV (val := vU) (As := []) (rest := []) (fun _ => []) F (c_X6_saveState F.st F.gg  M48) (fun _ _ => rfl) dX6_repay_52 ml_X6_73 yv_X6_saveState (rfl : kd 0 = 0) (by decide) rfl rfl (by decide) rfl (Nat.le_of_ble_eq_true rfl) (fun _ => rfl) (fun _ M52 => ?_)
    refine r_aload_n F 0 dX6_repay_55 rfl rfl ?_
    refine gf_X6_10 F dX6_repay_56 (rfl : kd 0 = 0) ?_
    refine r_iload_n F 1 dX6_repay_59 rfl rfl ?_
    refine r_iload_n F 2 dX6_repay_60 rfl rfl ?_
    refine r_iload_n F 3 dX6_repay_61 rfl rfl ?_
    refine r_cVN (val := vU) (As := [.int a1, .int a2, .int a3]) (rest := []) (fun _ => []) F (c_X0_carry F.st F.gg 34 a1 a2 a3 M52) (fun _ _ => rfl) dX6_repay_62 mn_X6_161 yv_X0_carry (rfl : kd 34 = 1) (by decide) rfl rfl (by decide) rfl (Nat.le_of_ble_eq_true rfl) (fun _ => rfl) (fun _ M62 => ?_)
    refine r_aload_n F 0 dX6_repay_65 rfl rfl ?_
    refine gf_X6_10 F dX6_repay_66 (rfl : kd 0 = 0) ?_
    refine gf_X6_164 F dX6_repay_69 (rfl : kd 34 = 1) ?_
    refine r_iload_n F 1 dX6_repay_72 rfl rfl ?_
    refine r_chk (fun h4 => ?_)
    refine r_aaldR F dX6_repay_73 (rfl : kd 37 = 11) h4 ?_
    refine r_bra (kRw (rfl : kd 37 = 11) h4) (aRw (rfl : kd 37 = 11) h4) (fun b73 k73 k73a => ?_)
    refine r_iload_n F 2 dX6_repay_74 rfl rfl ?_
    refine r_dup2 F dX6_repay_75 rfl rfl ?_
    refine r_chk (fun h5 => ?_)
    refine r_iald F dX6_repay_76 k73 k73a h5 ?_
    refine r_iload_n F 3 dX6_repay_77 rfl rfl ?_
    refine r_isub F dX6_repay_78 ?_
    refine r_chk (fun h6 => ?_)
    refine r_iast F dX6_repay_79 k73 k73a h6 (fun M79 => ?_)
    refine r_aload_n F 0 dX6_repay_80 rfl rfl ?_
    refine gf_X6_10 F dX6_repay_81 (rfl : kd 0 = 0) ?_
    refine r_dup F dX6_repay_84 rfl ?_
    refine gf_X6_173 F dX6_repay_85 (rfl : kd 34 = 1) ?_
    refine r_iload_n F 3 dX6_repay_88 rfl rfl ?_
    refine r_iadd F dX6_repay_89 ?_
    refine pf_X6_173 F dX6_repay_90 (rfl : kd 34 = 1) (fun M90 => ?_)
    refine r_aload_n F 0 dX6_repay_93 rfl rfl ?_
    refine gf_X6_10 F dX6_repay_94 (rfl : kd 0 = 0) ?_
    refine gf_X6_164 F dX6_repay_97 (rfl : kd 34 = 1) ?_
    refine r_iload_n F 1 dX6_repay_100 rfl rfl ?_
    refine r_chk (fun h7 => ?_)
    refine r_aaldR F dX6_repay_101 (rfl : kd 37 = 11) h7 ?_
    refine r_bra (kRw (rfl : kd 37 = 11) h7) (aRw (rfl : kd 37 = 11) h7) (fun b101 k101 k101a => ?_)
    refine r_iload_n F 2 dX6_repay_102 rfl rfl ?_
    refine r_chk (fun h8 => ?_)
    refine r_iald F dX6_repay_103 k101 k101a h8 ?_
    exact r_iret F rfl dX6_repay_104 rfl
  · exact r_throw F atS cl_X6_63 ini_IllegalStateException (by decide : (171, "it owes fewer pins") ∈ strW) dX6_repay_34 dX6_repay_37 dX6_repay_38 dX6_repay_40 dX6_repay_43 (by decide) (Nat.le_of_ble_eq_true rfl)

set_option maxRecDepth 100000 in
set_option maxHeartbeats 4000000 in
theorem c_X6_repay {l : Launch} {G : GM} (hl : l.stackTraces = false) (hG : GG G) (a1 : Int32) (a2 : Int32) (a3 : Int32) (M : Mem) : ∀ r, f_X6_repay a1 a2 a3 M = some r → Ctr l G yX6_repay (.code yX6_repay cX6_repay 4 (some .int) :: wsA) 10 [.ref (gA G 0), .int a1, .int a2, .int a3] M ((emT vI) r) :=
  ctr_of (by decide) hl hG (Nat.le_of_ble_eq_true rfl) (fun p e s m args below meth c F => b_X6_repay F a1 a2 a3 M)

-- ===== X6_set DrumTowns.set(II)I =====
theorem yv_X6_set : yV yX6_set cX6_set 4 (some .int) 2 := ⟨im_X6_set, sl_X6_set, ini_X6, cd_X6_set, ⟨by decide, by decide, by decide +kernel⟩, by decide⟩

def f_X6_set_22  (M : Mem) : Option ((Int32 ⊕ String) × Mem) := some (.inr exA, M)

set_option maxRecDepth 100000 in
set_option maxHeartbeats 4000000 in
theorem l_X6_set_22 {G : GM} {p : Program} {l : Launch} {e : Env} {s : State} {m : MethodId} {args : Array Value} {below : List Frame} {meth : Method} {c : Code} (F : Fx G p l s m args meth c cX6_set RX6 4 (some .int))  (M : Mem) : Rf G p l e s m args below meth c 10 4 (emT vI) (f_X6_set_22   M) 22 [] [] M := by
  unfold f_X6_set_22
  exact r_throw F atA cl_X6_52 ini_IllegalArgumentException (by decide : (95, "value is out of range") ∈ strW) dX6_set_22 dX6_set_25 dX6_set_26 dX6_set_28 dX6_set_31 (by decide) (Nat.le_of_ble_eq_true rfl)

def f_X6_set (a1 : Int32) (a2 : Int32) (M : Mem) : Option ((Int32 ⊕ String) × Mem) := bt (f_X6_checkSetting a1 M) fun _ M1 => chk (inb a1 3) <| if a2 < (lvT a1.toNatClampNeg) then (f_X6_set_22   M1) else (chk (inb a1 3) <| if a2 ≤ (gvT a1.toNatClampNeg) then (bn (f_X6_saveState M1) fun _ M33 => chk (inb a1 3) <| bnd (M33.1 36 a1.toNatClampNeg) fun x45 => chk (inb a1 3) <| bnd (mw M33 36 a1.toNatClampNeg a2) fun M55 => some (.inl x45, M55)) else (f_X6_set_22   M1))

set_option maxRecDepth 100000 in
set_option maxHeartbeats 4000000 in
theorem b_X6_set {G : GM} {p : Program} {l : Launch} {e : Env} {s : State} {m : MethodId} {args : Array Value} {below : List Frame} {meth : Method} {c : Code} (F : Fx G p l s m args meth c cX6_set RX6 4 (some .int)) (a1 : Int32) (a2 : Int32) (M : Mem) : Rf G p l e s m args below meth c 10 4 (emT vI) (f_X6_set a1 a2 M) 0 [(0, .ref (gA G 0)), (1, .int a1), (2, .int a2)] [] M := by
  unfold f_X6_set
  refine r_iload_n F 1 dX6_set_0 rfl rfl ?_
  refine r_tS (val := vU) (As := [.int a1]) (rest := []) (fun _ => []) F (c_X6_checkSetting F.st F.gg a1 M) dX6_set_1 ml_X6_85 ys_X6_checkSetting rfl (by decide) rfl (Nat.le_of_ble_eq_true rfl) (fun _ => rfl) (fun _ M1 => ?_)
  refine r_iload_n F 2 dX6_set_4 rfl rfl ?_
  refine r_chk (fun h1 => ?_)
  refine gs_X6_89 F 1 dX6_set_5 dX6_set_8 dX6_set_9 rfl rfl h1 ?_
  refine r_icmp_lt (tgt := 22) F dX6_set_10 (by decide) (fun c2 => ?_) (fun c2 => ?_)
  · refine r_sub [] rfl ?_
    exact l_X6_set_22 F    M1
  · refine r_iload_n F 2 dX6_set_13 rfl rfl ?_
    refine r_chk (fun h3 => ?_)
    refine gs_X6_92 F 1 dX6_set_14 dX6_set_17 dX6_set_18 rfl rfl h3 ?_
    refine r_icmp_le (tgt := 32) F dX6_set_19 (by decide) (fun c4 => ?_) (fun c4 => ?_)
    · refine r_aload_n F 0 dX6_set_32 rfl rfl ?_
      refine r_cV (val := vU) (As := []) (rest := []) (fun _ => []) F (c_X6_saveState F.st F.gg  M1) (fun _ _ => rfl) dX6_set_33 ml_X6_73 yv_X6_saveState (rfl : kd 0 = 0) (by decide) rfl rfl (by decide) rfl (Nat.le_of_ble_eq_true rfl) (fun _ => rfl) (fun _ M33 => ?_)
      refine r_aload_n F 0 dX6_set_36 rfl rfl ?_
      refine gf_X6_10 F dX6_set_37 (rfl : kd 0 = 0) ?_
      refine gf_X6_68 F dX6_set_40 (rfl : kd 34 = 1) ?_
      refine r_iload_n F 1 dX6_set_43 rfl rfl ?_
      refine r_chk (fun h5 => ?_)
      refine r_iald F dX6_set_44 (rfl : kd 36 = 8) (rfl : al 36 = 3) h5 ?_
      refine r_bi (fun x45 => ?_)
      refine r_istore_n (ls' := [(3, .int x45), (0, .ref (gA G 0)), (1, .int a1), (2, .int a2)]) F dX6_set_45 rfl (by decide) rfl ?_
      refine r_aload_n F 1 dX6_set_46 rfl rfl ?_
      refine gf_X6_10 F dX6_set_47 (rfl : kd 0 = 0) ?_
      refine gf_X6_68 F dX6_set_50 (rfl : kd 34 = 1) ?_
      refine r_iload_n F 2 dX6_set_53 rfl rfl ?_
      refine r_iload_n F 3 dX6_set_54 rfl rfl ?_
      refine r_chk (fun h6 => ?_)
      refine r_iast F dX6_set_55 (rfl : kd 36 = 8) (rfl : al 36 = 3) h6 (fun M55 => ?_)
      refine r_iload_n F 0 dX6_set_56 rfl rfl ?_
      exact r_iret F rfl dX6_set_57 rfl
    · refine r_sub [] rfl ?_
      exact l_X6_set_22 F    M1

set_option maxRecDepth 100000 in
set_option maxHeartbeats 4000000 in
theorem c_X6_set {l : Launch} {G : GM} (hl : l.stackTraces = false) (hG : GG G) (a1 : Int32) (a2 : Int32) (M : Mem) : ∀ r, f_X6_set a1 a2 M = some r → Ctr l G yX6_set (.code yX6_set cX6_set 4 (some .int) :: wsA) 10 [.ref (gA G 0), .int a1, .int a2] M ((emT vI) r) :=
  ctr_of (by decide) hl hG (Nat.le_of_ble_eq_true rfl) (fun p e s m args below meth c F => b_X6_set F a1 a2 M)

-- ===== X6_setting DrumTowns.setting(I)I =====
theorem yv_X6_setting : yV yX6_setting cX6_setting 2 (some .int) 1 := ⟨im_X6_setting, sl_X6_setting, ini_X6, cd_X6_setting, ⟨by decide, by decide, by decide +kernel⟩, by decide⟩

def f_X6_setting (a1 : Int32) (M : Mem) : Option ((Int32 ⊕ String) × Mem) := bt (f_X6_checkSetting a1 M) fun _ M1 => chk (inb a1 3) <| some (.inl (M1.1 36 a1.toNatClampNeg), M1)

set_option maxRecDepth 100000 in
set_option maxHeartbeats 4000000 in
theorem b_X6_setting {G : GM} {p : Program} {l : Launch} {e : Env} {s : State} {m : MethodId} {args : Array Value} {below : List Frame} {meth : Method} {c : Code} (F : Fx G p l s m args meth c cX6_setting RX6 2 (some .int)) (a1 : Int32) (M : Mem) : Rf G p l e s m args below meth c 7 2 (emT vI) (f_X6_setting a1 M) 0 [(0, .ref (gA G 0)), (1, .int a1)] [] M := by
  unfold f_X6_setting
  refine r_iload_n F 1 dX6_setting_0 rfl rfl ?_
  refine r_tS (val := vU) (As := [.int a1]) (rest := []) (fun _ => []) F (c_X6_checkSetting F.st F.gg a1 M) dX6_setting_1 ml_X6_85 ys_X6_checkSetting rfl (by decide) rfl (Nat.le_of_ble_eq_true rfl) (fun _ => rfl) (fun _ M1 => ?_)
  refine r_aload_n F 0 dX6_setting_4 rfl rfl ?_
  refine gf_X6_10 F dX6_setting_5 (rfl : kd 0 = 0) ?_
  refine gf_X6_68 F dX6_setting_8 (rfl : kd 34 = 1) ?_
  refine r_iload_n F 1 dX6_setting_11 rfl rfl ?_
  refine r_chk (fun h1 => ?_)
  refine r_iald F dX6_setting_12 (rfl : kd 36 = 8) (rfl : al 36 = 3) h1 ?_
  exact r_iret F rfl dX6_setting_13 rfl

set_option maxRecDepth 100000 in
set_option maxHeartbeats 4000000 in
theorem c_X6_setting {l : Launch} {G : GM} (hl : l.stackTraces = false) (hG : GG G) (a1 : Int32) (M : Mem) : ∀ r, f_X6_setting a1 M = some r → Ctr l G yX6_setting (.code yX6_setting cX6_setting 2 (some .int) :: wsA) 7 [.ref (gA G 0), .int a1] M ((emT vI) r) :=
  ctr_of (by decide) hl hG (Nat.le_of_ble_eq_true rfl) (fun p e s m args below meth c F => b_X6_setting F a1 M)

