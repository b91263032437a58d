-- ===== X4_tell DrumTowns$Trades.tell(I)I =====
theorem yv_X4_tell : yV yX4_tell cX4_tell 3 (some .int) 1 := ⟨im_X4_tell, sl_X4_tell, ini_X4, cd_X4_tell, ⟨by decide, by decide, by decide +kernel⟩, by decide⟩

def f_X4_tell_34 (z0 : Int32) (M : Mem) : Option (Int32 × Mem) := some (z0, M)

set_option maxRecDepth 100000 in
set_option maxHeartbeats 4000000 in
theorem l_X4_tell_34 {G : GM} {p : Program} {l : Launch} {e : Env} {s : State} {m : MethodId} {args : Array Value} {below : List Frame} {meth : Method} {c : Code} (F : Fx G p l s m args meth c cX4_tell RX4 3 (some .int)) (z0 : Int32) (M : Mem) : Rf G p l e s m args below meth c 6 3 emI (f_X4_tell_34  z0 M) 34 [] [.int z0] M := by
  unfold f_X4_tell_34
  exact r_iret F rfl dX4_tell_34 rfl

def f_X4_tell (a1 : Int32) (M : Mem) : Option (Int32 × Mem) := if (10 : Int32) ≤ a1 then (bnd (a1 - (10 : Int32)) fun x15 => if (M.1 12 3) ≤ x15 then (f_X4_tell_34  (-1 : Int32) M) else (chk (inb x15 6) <| f_X4_tell_34  (M.1 21 x15.toNatClampNeg) M)) else (some ((M.1 12 4), M))

set_option maxRecDepth 100000 in
set_option maxHeartbeats 4000000 in
theorem b_X4_tell {G : GM} {p : Program} {l : Launch} {e : Env} {s : State} {m : MethodId} {args : Array Value} {below : List Frame} {meth : Method} {c : Code} (F : Fx G p l s m args meth c cX4_tell RX4 3 (some .int)) (a1 : Int32) (M : Mem) : Rf G p l e s m args below meth c 6 3 emI (f_X4_tell a1 M) 0 [(0, .ref (gA G 12)), (1, .int a1)] [] M := by
  unfold f_X4_tell
  refine r_iload_n F 1 dX4_tell_0 rfl rfl ?_
  refine r_bipush F dX4_tell_1 (v := 10) (by decide) ?_
  refine r_icmp_ge (tgt := 11) F dX4_tell_3 (by decide) (fun c1 => ?_) (fun c1 => ?_)
  · refine r_iload_n F 1 dX4_tell_11 rfl rfl ?_
    refine r_bipush F dX4_tell_12 (v := 10) (by decide) ?_
    refine r_isub F dX4_tell_14 ?_
    refine r_bi (fun x15 => ?_)
    refine r_istore_n (ls' := [(2, .int x15), (0, .ref (gA G 12)), (1, .int a1)]) F dX4_tell_15 rfl (by decide) rfl ?_
    refine r_iload_n F 0 dX4_tell_16 rfl rfl ?_
    refine r_aload_n F 1 dX4_tell_17 rfl rfl ?_
    refine gf_X4_29 F dX4_tell_18 (rfl : kd 12 = 5) ?_
    refine r_icmp_ge (tgt := 33) F dX4_tell_21 (by decide) (fun c2 => ?_) (fun c2 => ?_)
    · refine r_iconst F dX4_tell_33 (v := -1) (by decide) ?_
      refine r_sub [] rfl ?_
      exact l_X4_tell_34 F   (-1 : Int32) M
    · refine r_aload_n F 1 dX4_tell_24 rfl rfl ?_
      refine gf_X4_20 F dX4_tell_25 (rfl : kd 12 = 5) ?_
      refine r_iload_n F 0 dX4_tell_28 rfl rfl ?_
      refine r_chk (fun h3 => ?_)
      refine r_iald F dX4_tell_29 (rfl : kd 21 = 8) (rfl : al 21 = 6) h3 ?_
      refine r_goto (tgt := 34) F dX4_tell_30 (by decide) ?_
      refine r_sub [] rfl ?_
      exact l_X4_tell_34 F   (M.1 21 x15.toNatClampNeg) M
  · refine r_aload_n F 0 dX4_tell_6 rfl rfl ?_
    refine gf_X4_59 F dX4_tell_7 (rfl : kd 12 = 5) ?_
    exact r_iret F rfl dX4_tell_10 rfl

set_option maxRecDepth 100000 in
set_option maxHeartbeats 4000000 in
theorem c_X4_tell {l : Launch} {G : GM} (hl : l.stackTraces = false) (hG : GG G) (a1 : Int32) (M : Mem) : ∀ r, f_X4_tell a1 M = some r → Ctr l G yX4_tell (.code yX4_tell cX4_tell 3 (some .int) :: wsA) 6 [.ref (gA G 12), .int a1] M (emI r) :=
  ctr_of (by decide) hl hG (Nat.le_of_ble_eq_true rfl) (fun p e s m args below meth c F => b_X4_tell F a1 M)

-- ===== X6_mixedWithTrades DrumTowns.mixedWithTrades(J)J =====
theorem yv_X6_mixedWithTrades : yV yX6_mixedWithTrades cX6_mixedWithTrades 6 (some .long) 1 := ⟨im_X6_mixedWithTrades, sl_X6_mixedWithTrades, ini_X6, cd_X6_mixedWithTrades, ⟨by decide, by decide, by decide +kernel⟩, by decide⟩

def f_X6_mixedWithTrades_28 : Nat → Int64 → Int32 → Mem → Option (Int64 × Mem)
  | 0, _, _, _ => none
  | n + 1, y3, y5, M => if (6 : Int32) ≤ y5 then (some (y3, M)) else (bn (f_X4_tell ((10 : Int32) + y5) M) fun r45 M45 => bn (f_X6_mixed y3 ((r45).toInt64) M45) fun r49 M49 => bnd (y5 + (1 : Int32)) fun x53 => f_X6_mixedWithTrades_28  n r49 x53 M49)

set_option maxRecDepth 100000 in
set_option maxHeartbeats 4000000 in
theorem l_X6_mixedWithTrades_28 {G : GM} {p : Program} {l : Launch} {e : Env} {s : State} {m : MethodId} {args : Array Value} {below : List Frame} {meth : Method} {c : Code} (F : Fx G p l s m args meth c cX6_mixedWithTrades RX6 6 (some .long)) : ∀ (n : Nat) (y3 : Int64) (y5 : Int32) (M : Mem), Rf G p l e s m args below meth c 10 6 emL (f_X6_mixedWithTrades_28  n y3 y5 M) 28 [(0, .ref (gA G 0)), (3, .long y3), (5, .int y5)] [] M := by
  intro n
  induction n with
  | zero => intros; exact r_none
  | succ n ih =>
    intro y3 y5 M
    rw [f_X6_mixedWithTrades_28]
    refine r_iload F 2 dX6_mixedWithTrades_28 rfl ?_
    refine r_bipush F dX6_mixedWithTrades_30 (v := 6) (by decide) ?_
    refine r_icmp_ge (tgt := 59) F dX6_mixedWithTrades_32 (by decide) (fun c1 => ?_) (fun c1 => ?_)
    · refine r_lload_n F 1 dX6_mixedWithTrades_59 rfl rfl ?_
      exact r_lret F rfl dX6_mixedWithTrades_60 rfl
    · refine r_lload_n F 1 dX6_mixedWithTrades_35 rfl rfl ?_
      refine r_aload_n F 0 dX6_mixedWithTrades_36 rfl rfl ?_
      refine gf_X6_44 F dX6_mixedWithTrades_37 (rfl : kd 0 = 0) ?_
      refine r_bipush F dX6_mixedWithTrades_40 (v := 10) (by decide) ?_
      refine r_iload F 2 dX6_mixedWithTrades_42 rfl ?_
      refine r_iadd F dX6_mixedWithTrades_44 ?_
      refine r_cVN (val := vI) (As := [.int ((10 : Int32) + y5)]) (rest := [.long y3]) (fun q9 => .int q9 :: [.long y3]) F (c_X4_tell F.st F.gg ((10 : Int32) + y5) M) (fun _ _ => rfl) dX6_mixedWithTrades_45 mn_X6_299 yv_X4_tell (rfl : kd 12 = 5) (by decide) rfl rfl (by decide) rfl (Nat.le_of_ble_eq_true rfl) (fun _ => rfl) (fun r45 M45 => ?_)
      refine r_i2l F dX6_mixedWithTrades_48 ?_
      refine r_cS (val := vL) (As := [.long y3, .long ((r45).toInt64)]) (rest := []) (fun q9 => .long q9 :: []) F (c_X6_mixed F.st F.gg y3 ((r45).toInt64) M45) (fun _ _ => rfl) dX6_mixedWithTrades_49 ml_X6_308 ys_X6_mixed rfl (by decide) rfl (Nat.le_of_ble_eq_true rfl) (fun _ => rfl) (fun r49 M49 => ?_)
      refine r_lstore_n (ls' := [(3, .long r49), (0, .ref (gA G 0)), (5, .int y5)]) F dX6_mixedWithTrades_52 rfl (by decide) rfl ?_
      refine r_iinc (ls' := fun q9 => [(5, .int q9), (3, .long r49), (0, .ref (gA G 0))]) (k := 2) (v := y5 + (1 : Int32)) F dX6_mixedWithTrades_53 rfl rfl (by decide) (fun _ => rfl) (fun x53 => ?_)
      refine r_goto (tgt := 28) F dX6_mixedWithTrades_56 (by decide) ?_
      refine r_sub [2, 1, 0] rfl ?_
      exact ih r49 x53 M49

def f_X6_mixedWithTrades (a1 : Int64) (M : Mem) : Option (Int64 × Mem) := bn (f_X4_find 34 M) fun _ M8 => bn (f_X4_tell (0 : Int32) M8) fun r17 M17 => bn (f_X6_mixed a1 ((r17).toInt64) M17) fun r21 M21 => f_X6_mixedWithTrades_28  FU r21 (0 : Int32) M21

set_option maxRecDepth 100000 in
set_option maxHeartbeats 4000000 in
theorem b_X6_mixedWithTrades {G : GM} {p : Program} {l : Launch} {e : Env} {s : State} {m : MethodId} {args : Array Value} {below : List Frame} {meth : Method} {c : Code} (F : Fx G p l s m args meth c cX6_mixedWithTrades RX6 6 (some .long)) (a1 : Int64) (M : Mem) : Rf G p l e s m args below meth c 10 6 emL (f_X6_mixedWithTrades a1 M) 0 [(0, .ref (gA G 0)), (1, .long a1)] [] M := by
  unfold f_X6_mixedWithTrades
  refine r_aload_n F 0 dX6_mixedWithTrades_0 rfl rfl ?_
  refine gf_X6_44 F dX6_mixedWithTrades_1 (rfl : kd 0 = 0) ?_
  refine r_aload_n F 0 dX6_mixedWithTrades_4 rfl rfl ?_
  refine gf_X6_10 F dX6_mixedWithTrades_5 (rfl : kd 0 = 0) ?_
  refine r_cVN (val := vU) (As := [.ref (gA G 34)]) (rest := []) (fun _ => []) F (c_X4_find F.st F.gg 34 M) (fun _ _ => rfl) dX6_mixedWithTrades_8 mn_X6_298 yv_X4_find (rfl : kd 12 = 5) (by decide) rfl rfl (by decide) rfl (Nat.le_of_ble_eq_true rfl) (fun _ => rfl) (fun _ M8 => ?_)
  refine r_lload_n F 1 dX6_mixedWithTrades_11 rfl rfl ?_
  refine r_aload_n F 0 dX6_mixedWithTrades_12 rfl rfl ?_
  refine gf_X6_44 F dX6_mixedWithTrades_13 (rfl : kd 0 = 0) ?_
  refine r_iconst F dX6_mixedWithTrades_16 (v := 0) (by decide) ?_
  refine r_cVN (val := vI) (As := [.int (0 : Int32)]) (rest := [.long a1]) (fun q9 => .int q9 :: [.long a1]) F (c_X4_tell F.st F.gg (0 : Int32) M8) (fun _ _ => rfl) dX6_mixedWithTrades_17 mn_X6_299 yv_X4_tell (rfl : kd 12 = 5) (by decide) rfl rfl (by decide) rfl (Nat.le_of_ble_eq_true rfl) (fun _ => rfl) (fun r17 M17 => ?_)
  refine r_i2l F dX6_mixedWithTrades_20 ?_
  refine r_cS (val := vL) (As := [.long a1, .long ((r17).toInt64)]) (rest := []) (fun q9 => .long q9 :: []) F (c_X6_mixed F.st F.gg a1 ((r17).toInt64) M17) (fun _ _ => rfl) dX6_mixedWithTrades_21 ml_X6_308 ys_X6_mixed rfl (by decide) rfl (Nat.le_of_ble_eq_true rfl) (fun _ => rfl) (fun r21 M21 => ?_)
  refine r_lstore_n (ls' := [(3, .long r21), (0, .ref (gA G 0)), (1, .long a1)]) F dX6_mixedWithTrades_24 rfl (by decide) rfl ?_
  refine r_iconst F dX6_mixedWithTrades_25 (v := 0) (by decide) ?_
  refine r_istore (ls' := [(5, .int (0 : Int32)), (3, .long r21), (0, .ref (gA G 0)), (1, .long a1)]) F dX6_mixedWithTrades_26 (by decide) rfl ?_
  refine r_sub [2, 1, 0] rfl ?_
  exact l_X6_mixedWithTrades_28 F   FU r21 (0 : Int32) M21

set_option maxRecDepth 100000 in
set_option maxHeartbeats 4000000 in
theorem c_X6_mixedWithTrades {l : Launch} {G : GM} (hl : l.stackTraces = false) (hG : GG G) (a1 : Int64) (M : Mem) : ∀ r, f_X6_mixedWithTrades a1 M = some r → Ctr l G yX6_mixedWithTrades (.code yX6_mixedWithTrades cX6_mixedWithTrades 6 (some .long) :: wsA) 10 [.ref (gA G 0), .long a1] M (emL r) :=
  ctr_of (by decide) hl hG (Nat.le_of_ble_eq_true rfl) (fun p e s m args below meth c F => b_X6_mixedWithTrades F a1 M)

-- ===== X6_tuneShare DrumTowns.tuneShare()D =====
theorem yv_X6_tuneShare : yV yX6_tuneShare cX6_tuneShare 3 (some .double) 0 := ⟨im_X6_tuneShare, sl_X6_tuneShare, ini_X6, cd_X6_tuneShare, ⟨by decide, by decide, by decide +kernel⟩, by decide⟩

def f_X6_tuneShare_4 : Nat → Int32 → Int32 → Mem → Option (UInt64 × Mem)
  | 0, _, _, _ => none
  | n + 1, y1, y2, M => if (M.1 34 1) ≤ y2 then (if y1 = 0 then (some (FP.dconst0, M)) else (bn (f_X0_allRightPins 34 M) fun r49 M49 => chk (nn64 (FP.ddiv (FP.i2d r49) (FP.i2d y1))) <| some ((FP.ddiv (FP.i2d r49) (FP.i2d y1)), M49))) else (chk (inb y2 6) <| bnd (tw 35 y2) fun b24 => bn (f_X6_sizeOf (b24 + 2) M) fun r28 M28 => bnd (y1 + r28) fun x32 => bnd (y2 + (1 : Int32)) fun x33 => f_X6_tuneShare_4  n x32 x33 M28)

set_option maxRecDepth 100000 in
set_option maxHeartbeats 4000000 in
theorem l_X6_tuneShare_4 {G : GM} {p : Program} {l : Launch} {e : Env} {s : State} {m : MethodId} {args : Array Value} {below : List Frame} {meth : Method} {c : Code} (F : Fx G p l s m args meth c cX6_tuneShare RX6 3 (some .double)) : ∀ (n : Nat) (y1 : Int32) (y2 : Int32) (M : Mem), Rf G p l e s m args below meth c 10 3 emD (f_X6_tuneShare_4  n y1 y2 M) 4 [(0, .ref (gA G 0)), (1, .int y1), (2, .int y2)] [] M := by
  intro n
  induction n with
  | zero => intros; exact r_none
  | succ n ih =>
    intro y1 y2 M
    rw [f_X6_tuneShare_4]
    refine r_iload_n F 2 dX6_tuneShare_4 rfl rfl ?_
    refine r_aload_n F 0 dX6_tuneShare_5 rfl rfl ?_
    refine gf_X6_10 F dX6_tuneShare_6 (rfl : kd 0 = 0) ?_
    refine gf_X6_59 F dX6_tuneShare_9 (rfl : kd 34 = 1) ?_
    refine r_icmp_ge (tgt := 39) F dX6_tuneShare_12 (by decide) (fun c1 => ?_) (fun c1 => ?_)
    · refine r_iload_n F 1 dX6_tuneShare_39 rfl rfl ?_
      refine r_if_ne (tgt := 45) F dX6_tuneShare_40 (by decide) (fun c2 => ?_) (fun c2 => ?_)
      · refine r_dconst0 F dX6_tuneShare_43 ?_
        exact r_dret F rfl dX6_tuneShare_44 rfl
      · refine r_aload_n F 0 dX6_tuneShare_45 rfl rfl ?_
        refine gf_X6_10 F dX6_tuneShare_46 (rfl : kd 0 = 0) ?_
        refine r_cVN (val := vI) (As := []) (rest := []) (fun q9 => .int q9 :: []) F (c_X0_allRightPins F.st F.gg 34 M) (fun _ _ => rfl) dX6_tuneShare_49 mn_X6_262 yv_X0_allRightPins (rfl : kd 34 = 1) (by decide) rfl rfl (by decide) rfl (Nat.le_of_ble_eq_true rfl) (fun _ => rfl) (fun r49 M49 => ?_)
        refine r_i2d F dX6_tuneShare_52 ?_
        refine r_iload_n F 1 dX6_tuneShare_53 rfl rfl ?_
        refine r_i2d F dX6_tuneShare_54 ?_
        refine r_chk (fun h3 => ?_)
        refine r_ddiv F dX6_tuneShare_55 (nn_n h3) ?_
        exact r_dret F rfl dX6_tuneShare_56 rfl
    · refine r_iload_n F 1 dX6_tuneShare_15 rfl rfl ?_
      refine r_aload_n F 0 dX6_tuneShare_16 rfl rfl ?_
      refine gf_X6_10 F dX6_tuneShare_17 (rfl : kd 0 = 0) ?_
      refine gf_X6_76 F dX6_tuneShare_20 (rfl : kd 34 = 1) ?_
      refine r_iload_n F 2 dX6_tuneShare_23 rfl rfl ?_
      refine r_chk (fun h4 => ?_)
      refine r_aaldT F dX6_tuneShare_24 (rfl : kd 35 = 9) h4 ?_
      refine r_br (kTw' (rfl : kd 35 = 9) h4) (fun b24 k24 => ?_)
      refine gf_X6_207 F dX6_tuneShare_25 k24 ?_
      refine r_cS (val := vI) (As := [.ref (gA G (b24 + 2))]) (rest := [.int y1]) (fun q9 => .int q9 :: [.int y1]) F (c_X6_sizeOf F.st F.gg (b24 + 2) M) (fun _ _ => rfl) dX6_tuneShare_28 ml_X6_112 ys_X6_sizeOf rfl (by decide) rfl (Nat.le_of_ble_eq_true rfl) (fun _ => rfl) (fun r28 M28 => ?_)
      refine r_iadd F dX6_tuneShare_31 ?_
      refine r_bi (fun x32 => ?_)
      refine r_istore_n (ls' := [(1, .int x32), (0, .ref (gA G 0)), (2, .int y2)]) F dX6_tuneShare_32 rfl (by decide) rfl ?_
      refine r_iinc (ls' := fun q9 => [(2, .int q9), (1, .int x32), (0, .ref (gA G 0))]) (k := 2) (v := y2 + (1 : Int32)) F dX6_tuneShare_33 rfl rfl (by decide) (fun _ => rfl) (fun x33 => ?_)
      refine r_goto (tgt := 4) F dX6_tuneShare_36 (by decide) ?_
      refine r_sub [2, 1, 0] rfl ?_
      exact ih x32 x33 M28

def f_X6_tuneShare  (M : Mem) : Option (UInt64 × Mem) := f_X6_tuneShare_4  FU (0 : Int32) (0 : Int32) M

set_option maxRecDepth 100000 in
set_option maxHeartbeats 4000000 in
theorem b_X6_tuneShare {G : GM} {p : Program} {l : Launch} {e : Env} {s : State} {m : MethodId} {args : Array Value} {below : List Frame} {meth : Method} {c : Code} (F : Fx G p l s m args meth c cX6_tuneShare RX6 3 (some .double))  (M : Mem) : Rf G p l e s m args below meth c 10 3 emD (f_X6_tuneShare  M) 0 [(0, .ref (gA G 0))] [] M := by
  unfold f_X6_tuneShare
  refine r_iconst F dX6_tuneShare_0 (v := 0) (by decide) ?_
  refine r_istore_n (ls' := [(1, .int (0 : Int32)), (0, .ref (gA G 0))]) F dX6_tuneShare_1 rfl (by decide) rfl ?_
  refine r_iconst F dX6_tuneShare_2 (v := 0) (by decide) ?_
  refine r_istore_n (ls' := [(2, .int (0 : Int32)), (1, .int (0 : Int32)), (0, .ref (gA G 0))]) F dX6_tuneShare_3 rfl (by decide) rfl ?_
  refine r_sub [2, 1, 0] rfl ?_
  exact l_X6_tuneShare_4 F   FU (0 : Int32) (0 : Int32) M

set_option maxRecDepth 100000 in
set_option maxHeartbeats 4000000 in
theorem c_X6_tuneShare {l : Launch} {G : GM} (hl : l.stackTraces = false) (hG : GG G)  (M : Mem) : ∀ r, f_X6_tuneShare  M = some r → Ctr l G yX6_tuneShare (.code yX6_tuneShare cX6_tuneShare 3 (some .double) :: wsA) 10 [.ref (gA G 0)] M (emD r) :=
  ctr_of (by decide) hl hG (Nat.le_of_ble_eq_true rfl) (fun p e s m args below meth c F => b_X6_tuneShare F  M)

-- ===== X6_digest DrumTowns.digest()J =====
theorem yv_X6_digest : yV yX6_digest cX6_digest 4 (some .long) 0 := ⟨im_X6_digest, sl_X6_digest, ini_X6, cd_X6_digest, ⟨by decide, by decide, by decide +kernel⟩, by decide⟩

def f_X6_digest_167 (y1 : Int64) (M : Mem) : Option ((Int64 ⊕ String) × Mem) := some (.inl y1, M)

set_option maxRecDepth 100000 in
set_option maxHeartbeats 4000000 in
theorem l_X6_digest_167 {G : GM} {p : Program} {l : Launch} {e : Env} {s : State} {m : MethodId} {args : Array Value} {below : List Frame} {meth : Method} {c : Code} (F : Fx G p l s m args meth c cX6_digest RX6 4 (some .long)) (y1 : Int64) (M : Mem) : Rf G p l e s m args below meth c 18 4 (emT vL) (f_X6_digest_167  y1 M) 167 [(1, .long y1)] [] M := by
  unfold f_X6_digest_167
  refine r_lload_n F 0 dX6_digest_167 rfl rfl ?_
  exact r_lret F rfl dX6_digest_168 rfl

def f_X6_digest_129 : Nat → Int64 → Int32 → Mem → Option ((Int64 ⊕ String) × Mem)
  | 0, _, _, _ => none
  | n + 1, y1, y3, M => if (M.1 2 1) ≤ y3 then (f_X6_digest_167  y1 M) else (if (60 : Int32) ≤ y3 then (f_X6_digest_167  y1 M) else (chk (inb y3 60) <| bn (f_X6_mixed y1 (((M.1 3 y3.toNatClampNeg)).toInt64) M) fun r157 M157 => bnd (y3 + (1 : Int32)) fun x161 => f_X6_digest_129  n r157 x161 M157))

set_option maxRecDepth 100000 in
set_option maxHeartbeats 4000000 in
theorem l_X6_digest_129 {G : GM} {p : Program} {l : Launch} {e : Env} {s : State} {m : MethodId} {args : Array Value} {below : List Frame} {meth : Method} {c : Code} (F : Fx G p l s m args meth c cX6_digest RX6 4 (some .long)) : ∀ (n : Nat) (y1 : Int64) (y3 : Int32) (M : Mem), Rf G p l e s m args below meth c 18 4 (emT vL) (f_X6_digest_129  n y1 y3 M) 129 [(0, .ref (gA G 0)), (1, .long y1), (3, .int y3)] [] M := by
  intro n
  induction n with
  | zero => intros; exact r_none
  | succ n ih =>
    intro y1 y3 M
    rw [f_X6_digest_129]
    refine r_iload_n F 2 dX6_digest_129 rfl rfl ?_
    refine r_aload_n F 0 dX6_digest_130 rfl rfl ?_
    refine gf_X6_23 F dX6_digest_131 (rfl : kd 0 = 0) ?_
    refine gf_X6_189 F dX6_digest_134 (rfl : kd 2 = 6) ?_
    refine r_icmp_ge (tgt := 167) F dX6_digest_137 (by decide) (fun c1 => ?_) (fun c1 => ?_)
    · refine r_sub [1] rfl ?_
      exact l_X6_digest_167 F   y1 M
    · refine r_iload_n F 2 dX6_digest_140 rfl rfl ?_
      refine r_bipush F dX6_digest_141 (v := 60) (by decide) ?_
      refine r_icmp_ge (tgt := 167) F dX6_digest_143 (by decide) (fun c2 => ?_) (fun c2 => ?_)
      · refine r_sub [1] rfl ?_
        exact l_X6_digest_167 F   y1 M
      · refine r_lload_n F 1 dX6_digest_146 rfl rfl ?_
        refine r_aload_n F 0 dX6_digest_147 rfl rfl ?_
        refine gf_X6_23 F dX6_digest_148 (rfl : kd 0 = 0) ?_
        refine gf_X6_192 F dX6_digest_151 (rfl : kd 2 = 6) ?_
        refine r_iload_n F 2 dX6_digest_154 rfl rfl ?_
        refine r_chk (fun h3 => ?_)
        refine r_iald F dX6_digest_155 (rfl : kd 3 = 8) (rfl : al 3 = 60) h3 ?_
        refine r_i2l F dX6_digest_156 ?_
        refine r_cS (val := vL) (As := [.long y1, .long (((M.1 3 y3.toNatClampNeg)).toInt64)]) (rest := []) (fun q9 => .long q9 :: []) F (c_X6_mixed F.st F.gg y1 (((M.1 3 y3.toNatClampNeg)).toInt64) M) (fun _ _ => rfl) dX6_digest_157 ml_X6_308 ys_X6_mixed rfl (by decide) rfl (Nat.le_of_ble_eq_true rfl) (fun _ => rfl) (fun r157 M157 => ?_)
        refine r_lstore_n (ls' := [(1, .long r157), (0, .ref (gA G 0)), (3, .int y3)]) F dX6_digest_160 rfl (by decide) rfl ?_
        refine r_iinc (ls' := fun q9 => [(3, .int q9), (1, .long r157), (0, .ref (gA G 0))]) (k := 2) (v := y3 + (1 : Int32)) F dX6_digest_161 rfl rfl (by decide) (fun _ => rfl) (fun x161 => ?_)
        refine r_goto (tgt := 129) F dX6_digest_164 (by decide) ?_
        refine r_sub [2, 1, 0] rfl ?_
        exact ih r157 x161 M157

def f_X6_digest_59 : Nat → Int64 → Int32 → Mem → Option ((Int64 ⊕ String) × Mem)
  | 0, _, _, _ => none
  | n + 1, y1, y3, M => if (M.1 34 1) ≤ y3 then (bn (f_X6_mixedWithTrades y1 M) fun r92 M92 => bn (f_X6_mixedWithRing r92 M92) fun r98 M98 => bn (f_X6_tuneShare M98) fun r104 M104 => bn (f_X6_bitsOf r104 M104) fun r107 M107 => bn (f_X6_mixed r98 r107 M107) fun r110 M110 => bn (f_X6_mixed r110 (((M110.1 2 1)).toInt64) M110) fun r123 M123 => f_X6_digest_129  FU r123 (0 : Int32) M123) else (bt (f_X6_mixedWithTown y1 y3 M) fun r73 M73 => bn (f_X6_mixedWithRows r73 y3 M73) fun r80 M80 => bnd (y3 + (1 : Int32)) fun x84 => f_X6_digest_59  n r80 x84 M80)

set_option maxRecDepth 100000 in
set_option maxHeartbeats 4000000 in
theorem l_X6_digest_59 {G : GM} {p : Program} {l : Launch} {e : Env} {s : State} {m : MethodId} {args : Array Value} {below : List Frame} {meth : Method} {c : Code} (F : Fx G p l s m args meth c cX6_digest RX6 4 (some .long)) : ∀ (n : Nat) (y1 : Int64) (y3 : Int32) (M : Mem), Rf G p l e s m args below meth c 18 4 (emT vL) (f_X6_digest_59  n y1 y3 M) 59 [(0, .ref (gA G 0)), (1, .long y1), (3, .int y3)] [] M := by
  intro n
  induction n with
  | zero => intros; exact r_none
  | succ n ih =>
    intro y1 y3 M
    rw [f_X6_digest_59]
    refine r_iload_n F 2 dX6_digest_59 rfl rfl ?_
    refine r_aload_n F 0 dX6_digest_60 rfl rfl ?_
    refine gf_X6_10 F dX6_digest_61 (rfl : kd 0 = 0) ?_
    refine gf_X6_59 F dX6_digest_64 (rfl : kd 34 = 1) ?_
    refine r_icmp_ge (tgt := 90) F dX6_digest_67 (by decide) (fun c1 => ?_) (fun c1 => ?_)
    · refine r_aload_n F 0 dX6_digest_90 rfl rfl ?_
      refine r_lload_n F 1 dX6_digest_91 rfl rfl ?_
      refine r_cV (val := vL) (As := [.long y1]) (rest := []) (fun q9 => .long q9 :: []) F (c_X6_mixedWithTrades F.st F.gg y1 M) (fun _ _ => rfl) dX6_digest_92 ml_X6_319 yv_X6_mixedWithTrades (rfl : kd 0 = 0) (by decide) rfl rfl (by decide) rfl (Nat.le_of_ble_eq_true rfl) (fun _ => rfl) (fun r92 M92 => ?_)
      refine r_lstore_n (ls' := [(1, .long r92), (0, .ref (gA G 0)), (3, .int y3)]) F dX6_digest_95 rfl (by decide) rfl ?_
      refine r_aload_n F 1 dX6_digest_96 rfl rfl ?_
      refine r_lload_n F 0 dX6_digest_97 rfl rfl ?_
      refine r_cV (val := vL) (As := [.long r92]) (rest := []) (fun q9 => .long q9 :: []) F (c_X6_mixedWithRing F.st F.gg r92 M92) (fun _ _ => rfl) dX6_digest_98 ml_X6_323 yv_X6_mixedWithRing (rfl : kd 0 = 0) (by decide) rfl rfl (by decide) rfl (Nat.le_of_ble_eq_true rfl) (fun _ => rfl) (fun r98 M98 => ?_)
      refine r_lstore_n (ls' := [(1, .long r98), (0, .ref (gA G 0)), (3, .int y3)]) F dX6_digest_101 rfl (by decide) rfl ?_
      refine r_lload_n F 0 dX6_digest_102 rfl rfl ?_
      refine r_aload_n F 1 dX6_digest_103 rfl rfl ?_
      refine r_cV (val := vD) (As := []) (rest := [.long r98]) (fun q9 => .double q9 :: [.long r98]) F (c_X6_tuneShare F.st F.gg  M98) (fun _ _ => rfl) dX6_digest_104 ml_X6_326 yv_X6_tuneShare (rfl : kd 0 = 0) (by decide) rfl rfl (by decide) rfl (Nat.le_of_ble_eq_true rfl) (fun _ => rfl) (fun r104 M104 => ?_)
      refine r_cS (val := vL) (As := [.double r104]) (rest := [.long r98]) (fun q9 => .long q9 :: [.long r98]) F (c_X6_bitsOf F.st F.gg r104 M104) (fun _ _ => rfl) dX6_digest_107 ml_X6_330 ys_X6_bitsOf rfl (by decide) rfl (Nat.le_of_ble_eq_true rfl) (fun _ => rfl) (fun r107 M107 => ?_)
      refine r_cS (val := vL) (As := [.long r98, .long r107]) (rest := []) (fun q9 => .long q9 :: []) F (c_X6_mixed F.st F.gg r98 r107 M107) (fun _ _ => rfl) dX6_digest_110 ml_X6_308 ys_X6_mixed rfl (by decide) rfl (Nat.le_of_ble_eq_true rfl) (fun _ => rfl) (fun r110 M110 => ?_)
      refine r_lstore_n (ls' := [(1, .long r110), (0, .ref (gA G 0)), (3, .int y3)]) F dX6_digest_113 rfl (by decide) rfl ?_
      refine r_lload_n F 0 dX6_digest_114 rfl rfl ?_
      refine r_aload_n F 1 dX6_digest_115 rfl rfl ?_
      refine gf_X6_23 F dX6_digest_116 (rfl : kd 0 = 0) ?_
      refine gf_X6_189 F dX6_digest_119 (rfl : kd 2 = 6) ?_
      refine r_i2l F dX6_digest_122 ?_
      refine r_cS (val := vL) (As := [.long r110, .long (((M110.1 2 1)).toInt64)]) (rest := []) (fun q9 => .long q9 :: []) F (c_X6_mixed F.st F.gg r110 (((M110.1 2 1)).toInt64) M110) (fun _ _ => rfl) dX6_digest_123 ml_X6_308 ys_X6_mixed rfl (by decide) rfl (Nat.le_of_ble_eq_true rfl) (fun _ => rfl) (fun r123 M123 => ?_)
      refine r_lstore_n (ls' := [(1, .long r123), (0, .ref (gA G 0)), (3, .int y3)]) F dX6_digest_126 rfl (by decide) rfl ?_
      refine r_iconst F dX6_digest_127 (v := 0) (by decide) ?_
      refine r_istore_n (ls' := [(3, .int (0 : Int32)), (1, .long r123), (0, .ref (gA G 0))]) F dX6_digest_128 rfl (by decide) rfl ?_
      refine r_sub [2, 1, 0] rfl ?_
      exact l_X6_digest_129 F   FU r123 (0 : Int32) M123
    · refine r_aload_n F 0 dX6_digest_70 rfl rfl ?_
      refine r_lload_n F 1 dX6_digest_71 rfl rfl ?_
      refine r_iload_n F 2 dX6_digest_72 rfl rfl ?_
      refine r_tV (val := vL) (As := [.long y1, .int y3]) (rest := []) (fun q9 => .long q9 :: []) F (c_X6_mixedWithTown F.st F.gg y1 y3 M) dX6_digest_73 ml_X6_312 yv_X6_mixedWithTown (rfl : kd 0 = 0) (by decide) rfl rfl (by decide) rfl (Nat.le_of_ble_eq_true rfl) (fun _ => rfl) (fun r73 M73 => ?_)
      refine r_lstore_n (ls' := [(1, .long r73), (0, .ref (gA G 0)), (3, .int y3)]) F dX6_digest_76 rfl (by decide) rfl ?_
      refine r_aload_n F 1 dX6_digest_77 rfl rfl ?_
      refine r_lload_n F 0 dX6_digest_78 rfl rfl ?_
      refine r_iload_n F 2 dX6_digest_79 rfl rfl ?_
      refine r_cV (val := vL) (As := [.long r73, .int y3]) (rest := []) (fun q9 => .long q9 :: []) F (c_X6_mixedWithRows F.st F.gg r73 y3 M73) (fun _ _ => rfl) dX6_digest_80 ml_X6_316 yv_X6_mixedWithRows (rfl : kd 0 = 0) (by decide) rfl rfl (by decide) rfl (Nat.le_of_ble_eq_true rfl) (fun _ => rfl) (fun r80 M80 => ?_)
      refine r_lstore_n (ls' := [(1, .long r80), (0, .ref (gA G 0)), (3, .int y3)]) F dX6_digest_83 rfl (by decide) rfl ?_
      refine r_iinc (ls' := fun q9 => [(3, .int q9), (1, .long r80), (0, .ref (gA G 0))]) (k := 2) (v := y3 + (1 : Int32)) F dX6_digest_84 rfl rfl (by decide) (fun _ => rfl) (fun x84 => ?_)
      refine r_goto (tgt := 59) F dX6_digest_87 (by decide) ?_
      refine r_sub [2, 1, 0] rfl ?_
      exact ih r80 x84 M80

def f_X6_digest_31 : Nat → Int64 → Int32 → Mem → Option ((Int64 ⊕ String) × Mem)
  | 0, _, _, _ => none
  | n + 1, y1, y3, M => if (3 : Int32) ≤ y3 then (f_X6_digest_59  FU y1 (0 : Int32) M) else (chk (inb y3 3) <| bn (f_X6_mixed y1 (((M.1 36 y3.toNatClampNeg)).toInt64) M) fun r47 M47 => bnd (y3 + (1 : Int32)) fun x51 => f_X6_digest_31  n r47 x51 M47)

set_option maxRecDepth 100000 in
set_option maxHeartbeats 4000000 in
theorem l_X6_digest_31 {G : GM} {p : Program} {l : Launch} {e : Env} {s : State} {m : MethodId} {args : Array Value} {below : List Frame} {meth : Method} {c : Code} (F : Fx G p l s m args meth c cX6_digest RX6 4 (some .long)) : ∀ (n : Nat) (y1 : Int64) (y3 : Int32) (M : Mem), Rf G p l e s m args below meth c 18 4 (emT vL) (f_X6_digest_31  n y1 y3 M) 31 [(0, .ref (gA G 0)), (1, .long y1), (3, .int y3)] [] M := by
  intro n
  induction n with
  | zero => intros; exact r_none
  | succ n ih =>
    intro y1 y3 M
    rw [f_X6_digest_31]
    refine r_iload_n F 2 dX6_digest_31 rfl rfl ?_
    refine r_iconst F dX6_digest_32 (v := 3) (by decide) ?_
    refine r_icmp_ge (tgt := 57) F dX6_digest_33 (by decide) (fun c1 => ?_) (fun c1 => ?_)
    · refine r_iconst F dX6_digest_57 (v := 0) (by decide) ?_
      refine r_istore_n (ls' := [(3, .int (0 : Int32)), (0, .ref (gA G 0)), (1, .long y1)]) F dX6_digest_58 rfl (by decide) rfl ?_
      refine r_sub [1, 2, 0] rfl ?_
      exact l_X6_digest_59 F   FU y1 (0 : Int32) M
    · refine r_lload_n F 1 dX6_digest_36 rfl rfl ?_
      refine r_aload_n F 0 dX6_digest_37 rfl rfl ?_
      refine gf_X6_10 F dX6_digest_38 (rfl : kd 0 = 0) ?_
      refine gf_X6_68 F dX6_digest_41 (rfl : kd 34 = 1) ?_
      refine r_iload_n F 2 dX6_digest_44 rfl rfl ?_
      refine r_chk (fun h2 => ?_)
      refine r_iald F dX6_digest_45 (rfl : kd 36 = 8) (rfl : al 36 = 3) h2 ?_
      refine r_i2l F dX6_digest_46 ?_
      refine r_cS (val := vL) (As := [.long y1, .long (((M.1 36 y3.toNatClampNeg)).toInt64)]) (rest := []) (fun q9 => .long q9 :: []) F (c_X6_mixed F.st F.gg y1 (((M.1 36 y3.toNatClampNeg)).toInt64) M) (fun _ _ => rfl) dX6_digest_47 ml_X6_308 ys_X6_mixed rfl (by decide) rfl (Nat.le_of_ble_eq_true rfl) (fun _ => rfl) (fun r47 M47 => ?_)
      refine r_lstore_n (ls' := [(1, .long r47), (0, .ref (gA G 0)), (3, .int y3)]) F dX6_digest_50 rfl (by decide) rfl ?_
      refine r_iinc (ls' := fun q9 => [(3, .int q9), (1, .long r47), (0, .ref (gA G 0))]) (k := 2) (v := y3 + (1 : Int32)) F dX6_digest_51 rfl rfl (by decide) (fun _ => rfl) (fun x51 => ?_)
      refine r_goto (tgt := 31) F dX6_digest_54 (by decide) ?_
      refine r_sub [2, 1, 0] rfl ?_
      exact ih r47 x51 M47

def f_X6_digest_6 : Nat → Int64 → Int32 → Mem → Option ((Int64 ⊕ String) × Mem)
  | 0, _, _, _ => none
  | n + 1, y1, y3, M => if (11 : Int32) ≤ y3 then (f_X6_digest_31  FU y1 (0 : Int32) M) else (bt (f_X6_count y3 M) fun r15 M15 => bn (f_X6_mixed y1 ((r15).toInt64) M15) fun r19 M19 => bnd (y3 + (1 : Int32)) fun x23 => f_X6_digest_6  n r19 x23 M19)

set_option maxRecDepth 100000 in
set_option maxHeartbeats 4000000 in
theorem l_X6_digest_6 {G : GM} {p : Program} {l : Launch} {e : Env} {s : State} {m : MethodId} {args : Array Value} {below : List Frame} {meth : Method} {c : Code} (F : Fx G p l s m args meth c cX6_digest RX6 4 (some .long)) : ∀ (n : Nat) (y1 : Int64) (y3 : Int32) (M : Mem), Rf G p l e s m args below meth c 18 4 (emT vL) (f_X6_digest_6  n y1 y3 M) 6 [(0, .ref (gA G 0)), (1, .long y1), (3, .int y3)] [] M := by
  intro n
  induction n with
  | zero => intros; exact r_none
  | succ n ih =>
    intro y1 y3 M
    rw [f_X6_digest_6]
    refine r_iload_n F 2 dX6_digest_6 rfl rfl ?_
    refine r_bipush F dX6_digest_7 (v := 11) (by decide) ?_
    refine r_icmp_ge (tgt := 29) F dX6_digest_9 (by decide) (fun c1 => ?_) (fun c1 => ?_)
    · refine r_iconst F dX6_digest_29 (v := 0) (by decide) ?_
      refine r_istore_n (ls' := [(3, .int (0 : Int32)), (0, .ref (gA G 0)), (1, .long y1)]) F dX6_digest_30 rfl (by decide) rfl ?_
      refine r_sub [1, 2, 0] rfl ?_
      exact l_X6_digest_31 F   FU y1 (0 : Int32) M
    · refine r_lload_n F 1 dX6_digest_12 rfl rfl ?_
      refine r_aload_n F 0 dX6_digest_13 rfl rfl ?_
      refine r_iload_n F 2 dX6_digest_14 rfl rfl ?_
      refine r_tV (val := vI) (As := [.int y3]) (rest := [.long y1]) (fun q9 => .int q9 :: [.long y1]) F (c_X6_count F.st F.gg y3 M) dX6_digest_15 ml_X6_305 yv_X6_count (rfl : kd 0 = 0) (by decide) rfl rfl (by decide) rfl (Nat.le_of_ble_eq_true rfl) (fun _ => rfl) (fun r15 M15 => ?_)
      refine r_i2l F dX6_digest_18 ?_
      refine r_cS (val := vL) (As := [.long y1, .long ((r15).toInt64)]) (rest := []) (fun q9 => .long q9 :: []) F (c_X6_mixed F.st F.gg y1 ((r15).toInt64) M15) (fun _ _ => rfl) dX6_digest_19 ml_X6_308 ys_X6_mixed rfl (by decide) rfl (Nat.le_of_ble_eq_true rfl) (fun _ => rfl) (fun r19 M19 => ?_)
      refine r_lstore_n (ls' := [(1, .long r19), (0, .ref (gA G 0)), (3, .int y3)]) F dX6_digest_22 rfl (by decide) rfl ?_
      refine r_iinc (ls' := fun q9 => [(3, .int q9), (1, .long r19), (0, .ref (gA G 0))]) (k := 2) (v := y3 + (1 : Int32)) F dX6_digest_23 rfl rfl (by decide) (fun _ => rfl) (fun x23 => ?_)
      refine r_goto (tgt := 6) F dX6_digest_26 (by decide) ?_
      refine r_sub [2, 1, 0] rfl ?_
      exact ih r19 x23 M19

def f_X6_digest  (M : Mem) : Option ((Int64 ⊕ String) × Mem) := f_X6_digest_6  FU (2357 : Int64) (0 : Int32) M

set_option maxRecDepth 100000 in
set_option maxHeartbeats 4000000 in
theorem b_X6_digest {G : GM} {p : Program} {l : Launch} {e : Env} {s : State} {m : MethodId} {args : Array Value} {below : List Frame} {meth : Method} {c : Code} (F : Fx G p l s m args meth c cX6_digest RX6 4 (some .long))  (M : Mem) : Rf G p l e s m args below meth c 18 4 (emT vL) (f_X6_digest  M) 0 [(0, .ref (gA G 0))] [] M := by
  unfold f_X6_digest
  refine r_ldc2 F dX6_digest_0 kc_X6_303 ?_
  refine r_lstore_n (ls' := [(1, .long (2357 : Int64)), (0, .ref (gA G 0))]) F dX6_digest_3 rfl (by decide) rfl ?_
  refine r_iconst F dX6_digest_4 (v := 0) (by decide) ?_
  refine r_istore_n (ls' := [(3, .int (0 : Int32)), (1, .long (2357 : Int64)), (0, .ref (gA G 0))]) F dX6_digest_5 rfl (by decide) rfl ?_
  refine r_sub [2, 1, 0] rfl ?_
  exact l_X6_digest_6 F   FU (2357 : Int64) (0 : Int32) M

set_option maxRecDepth 100000 in
set_option maxHeartbeats 4000000 in
theorem c_X6_digest {l : Launch} {G : GM} (hl : l.stackTraces = false) (hG : GG G)  (M : Mem) : ∀ r, f_X6_digest  M = some r → Ctr l G yX6_digest (.code yX6_digest cX6_digest 4 (some .long) :: wsA) 18 [.ref (gA G 0)] M ((emT vL) r) :=
  ctr_of (by decide) hl hG (Nat.le_of_ble_eq_true rfl) (fun p e s m args below meth c F => b_X6_digest F  M)

-- ===== X6_checkDifferent DrumTowns.checkDifferent(II)V =====
theorem ys_X6_checkDifferent : yS yX6_checkDifferent cX6_checkDifferent 2 none 2 := ⟨sc_X6_checkDifferent, ini_X6, cd_X6_checkDifferent, ⟨by decide, by decide, by decide +kernel⟩, by decide⟩

def f_X6_checkDifferent (a0 : Int32) (a1 : Int32) (M : Mem) : Option ((Unit ⊕ String) × Mem) := if a0 = a1 then (some (.inr exA, M)) else (some (.inl (), M))

set_option maxRecDepth 100000 in
set_option maxHeartbeats 4000000 in
theorem b_X6_checkDifferent {G : GM} {p : Program} {l : Launch} {e : Env} {s : State} {m : MethodId} {args : Array Value} {below : List Frame} {meth : Method} {c : Code} (F : Fx G p l s m args meth c cX6_checkDifferent RX6 2 none) (a0 : Int32) (a1 : Int32) (M : Mem) : Rf G p l e s m args below meth c 6 2 (emT vU) (f_X6_checkDifferent a0 a1 M) 0 [(0, .int a0), (1, .int a1)] [] M := by
  unfold f_X6_checkDifferent
  refine r_iload_n F 0 dX6_checkDifferent_0 rfl rfl ?_
  refine r_iload_n F 1 dX6_checkDifferent_1 rfl rfl ?_
  refine r_icmp_ne (tgt := 16) F dX6_checkDifferent_2 (by decide) (fun c1 => ?_) (fun c1 => ?_)
  · exact r_throwW F atA cl_X6_52 ini_IllegalArgumentException (by decide : (366, "both towns are the same") ∈ strW) dX6_checkDifferent_5 dX6_checkDifferent_8 dX6_checkDifferent_9 dX6_checkDifferent_12 dX6_checkDifferent_15 (by decide) (Nat.le_of_ble_eq_true rfl)
  · exact r_vret F rfl dX6_checkDifferent_16 rfl

set_option maxRecDepth 100000 in
set_option maxHeartbeats 4000000 in
theorem c_X6_checkDifferent {l : Launch} {G : GM} (hl : l.stackTraces = false) (hG : GG G) (a0 : Int32) (a1 : Int32) (M : Mem) : ∀ r, f_X6_checkDifferent a0 a1 M = some r → Ctr l G yX6_checkDifferent (.code yX6_checkDifferent cX6_checkDifferent 2 none :: wsA) 6 [.int a0, .int a1] M ((emT vU) r) :=
  ctr_of (by decide) hl hG (Nat.le_of_ble_eq_true rfl) (fun p e s m args below meth c F => b_X6_checkDifferent F a0 a1 M)

-- ===== X3_takeFrom DrumTowns$Town.takeFrom(LDrumTowns$Town;)V =====
theorem yv_X3_takeFrom : yV yX3_takeFrom cX3_takeFrom 2 none 1 := ⟨im_X3_takeFrom, sl_X3_takeFrom, ini_X3, cd_X3_takeFrom, ⟨by decide, by decide, by decide +kernel⟩, by decide⟩

def f_X3_takeFrom (a0 : Nat) (a1 : Nat) (M : Mem) : Option (Unit × Mem) := chk (kb a1 2) <| chk (kb a0 2) <| bnd (mw M a0 0 (M.1 a1 0)) fun M5 => bn (f_X6_copyRow (a1 + 1) (a0 + 1) M5) fun _ M16 => bn (f_X6_copyRow (a1 + 2) (a0 + 2) M16) fun _ M27 => bn (f_X6_copyRow (a1 + 3) (a0 + 3) M27) fun _ M38 => bnd (mw M38 a0 4 (M38.1 a1 4)) fun M46 => bnd (mw M46 a0 5 (M46.1 a1 5)) fun M54 => bnd (mw M54 a0 6 (M54.1 a1 6)) fun M62 => some ((), M62)

set_option maxRecDepth 100000 in
set_option maxHeartbeats 4000000 in
theorem b_X3_takeFrom {G : GM} {p : Program} {l : Launch} {e : Env} {s : State} {m : MethodId} {args : Array Value} {below : List Frame} {meth : Method} {c : Code} (F : Fx G p l s m args meth c cX3_takeFrom RX3 2 none) (a0 : Nat) (a1 : Nat) (M : Mem) : Rf G p l e s m args below meth c 7 2 emV (f_X3_takeFrom a0 a1 M) 0 [(0, .ref (gA G a0)), (1, .ref (gA G a1))] [] M := by
  unfold f_X3_takeFrom
  refine r_aload_n F 0 dX3_takeFrom_0 rfl rfl ?_
  refine r_aload_n F 1 dX3_takeFrom_1 rfl rfl ?_
  refine r_chk (fun h1 => ?_)
  refine gf_X3_39 F dX3_takeFrom_2 (kb_k h1) ?_
  refine r_chk (fun h2 => ?_)
  refine pf_X3_39 F dX3_takeFrom_5 (kb_k h2) (fun M5 => ?_)
  refine r_aload_n F 1 dX3_takeFrom_8 rfl rfl ?_
  refine gf_X3_9 F dX3_takeFrom_9 (kb_k h1) ?_
  refine r_aload_n F 0 dX3_takeFrom_12 rfl rfl ?_
  refine gf_X3_9 F dX3_takeFrom_13 (kb_k h2) ?_
  refine r_cSN (val := vU) (As := [.ref (gA G (a1 + 1)), .ref (gA G (a0 + 1))]) (rest := []) (fun _ => []) F (c_X6_copyRow F.st F.gg (a1 + 1) (a0 + 1) M5) (fun _ _ => rfl) dX3_takeFrom_16 mn_X3_34 ys_X6_copyRow rfl (by decide) rfl (Nat.le_of_ble_eq_true rfl) (fun _ => rfl) (fun _ M16 => ?_)
  refine r_aload_n F 1 dX3_takeFrom_19 rfl rfl ?_
  refine gf_X3_15 F dX3_takeFrom_20 (kb_k h1) ?_
  refine r_aload_n F 0 dX3_takeFrom_23 rfl rfl ?_
  refine gf_X3_15 F dX3_takeFrom_24 (kb_k h2) ?_
  refine r_cSN (val := vU) (As := [.ref (gA G (a1 + 2)), .ref (gA G (a0 + 2))]) (rest := []) (fun _ => []) F (c_X6_copyRow F.st F.gg (a1 + 2) (a0 + 2) M16) (fun _ _ => rfl) dX3_takeFrom_27 mn_X3_34 ys_X6_copyRow rfl (by decide) rfl (Nat.le_of_ble_eq_true rfl) (fun _ => rfl) (fun _ M27 => ?_)
  refine r_aload_n F 1 dX3_takeFrom_30 rfl rfl ?_
  refine gf_X3_18 F dX3_takeFrom_31 (kb_k h1) ?_
  refine r_aload_n F 0 dX3_takeFrom_34 rfl rfl ?_
  refine gf_X3_18 F dX3_takeFrom_35 (kb_k h2) ?_
  refine r_cSN (val := vU) (As := [.ref (gA G (a1 + 3)), .ref (gA G (a0 + 3))]) (rest := []) (fun _ => []) F (c_X6_copyRow F.st F.gg (a1 + 3) (a0 + 3) M27) (fun _ _ => rfl) dX3_takeFrom_38 mn_X3_34 ys_X6_copyRow rfl (by decide) rfl (Nat.le_of_ble_eq_true rfl) (fun _ => rfl) (fun _ M38 => ?_)
  refine r_aload_n F 0 dX3_takeFrom_41 rfl rfl ?_
  refine r_aload_n F 1 dX3_takeFrom_42 rfl rfl ?_
  refine gf_X3_46 F dX3_takeFrom_43 (kb_k h1) ?_
  refine pf_X3_46 F dX3_takeFrom_46 (kb_k h2) (fun M46 => ?_)
  refine r_aload_n F 0 dX3_takeFrom_49 rfl rfl ?_
  refine r_aload_n F 1 dX3_takeFrom_50 rfl rfl ?_
  refine gf_X3_49 F dX3_takeFrom_51 (kb_k h1) ?_
  refine pf_X3_49 F dX3_takeFrom_54 (kb_k h2) (fun M54 => ?_)
  refine r_aload_n F 0 dX3_takeFrom_57 rfl rfl ?_
  refine r_aload_n F 1 dX3_takeFrom_58 rfl rfl ?_
  refine gf_X3_53 F dX3_takeFrom_59 (kb_k h1) ?_
  refine pf_X3_53 F dX3_takeFrom_62 (kb_k h2) (fun M62 => ?_)
  exact r_vret F rfl dX3_takeFrom_65 rfl

set_option maxRecDepth 100000 in
set_option maxHeartbeats 4000000 in
theorem c_X3_takeFrom {l : Launch} {G : GM} (hl : l.stackTraces = false) (hG : GG G) (a0 : Nat) (a1 : Nat) (M : Mem) : ∀ r, f_X3_takeFrom a0 a1 M = some r → Ctr l G yX3_takeFrom (.code yX3_takeFrom cX3_takeFrom 2 none :: wsA) 7 [.ref (gA G a0), .ref (gA G a1)] M (emV r) :=
  ctr_of (by decide) hl hG (Nat.le_of_ble_eq_true rfl) (fun p e s m args below meth c F => b_X3_takeFrom F a0 a1 M)

-- ===== X0_takeFrom DrumTowns$Land.takeFrom(LDrumTowns$Land;)V =====
theorem yv_X0_takeFrom : yV yX0_takeFrom cX0_takeFrom 3 none 1 := ⟨im_X0_takeFrom, sl_X0_takeFrom, ini_X0, cd_X0_takeFrom, ⟨by decide, by decide, by decide +kernel⟩, by decide⟩

def f_X0_takeFrom_2 : Nat → Nat → Nat → Int32 → Mem → Option (Unit × Mem)
  | 0, _, _, _, _ => none
  | n + 1, y0, y1, y2, M => if (6 : Int32) ≤ y2 then (chk (kb y1 1) <| chk (kb y0 1) <| bnd (mw M y0 1 (M.1 y1 1)) fun M49 => bn (f_X6_copyRow (y1 + 2) (y0 + 2) M49) fun _ M60 => bnd (mw M60 y0 4 (M60.1 y1 4)) fun M68 => bnd (mw M68 y0 5 (M68.1 y1 5)) fun M76 => bnd (mw M76 y0 6 (M76.1 y1 6)) fun M84 => bnd (mw M84 y0 7 (M84.1 y1 7)) fun M92 => some ((), M92)) else (chk (kb y0 1) <| chk (inb y2 6) <| bnd (tw (y0 + 1) y2) fun b13 => chk (kb y1 1) <| chk (inb y2 6) <| bnd (tw (y1 + 1) y2) fun b19 => bn (f_X3_takeFrom b13 b19 M) fun _ M20 => chk (inb y2 6) <| bnd (rw' (y1 + 3) y2) fun b28 => chk (inb y2 6) <| bnd (rw' (y0 + 3) y2) fun b34 => bn (f_X6_copyRow b28 b34 M20) fun _ M35 => bnd (y2 + (1 : Int32)) fun x38 => f_X0_takeFrom_2  n y0 y1 x38 M35)

set_option maxRecDepth 100000 in
set_option maxHeartbeats 4000000 in
theorem l_X0_takeFrom_2 {G : GM} {p : Program} {l : Launch} {e : Env} {s : State} {m : MethodId} {args : Array Value} {below : List Frame} {meth : Method} {c : Code} (F : Fx G p l s m args meth c cX0_takeFrom RX0 3 none) : ∀ (n : Nat) (y0 : Nat) (y1 : Nat) (y2 : Int32) (M : Mem), Rf G p l e s m args below meth c 8 3 emV (f_X0_takeFrom_2  n y0 y1 y2 M) 2 [(0, .ref (gA G y0)), (1, .ref (gA G y1)), (2, .int y2)] [] M := by
  intro n
  induction n with
  | zero => intros; exact r_none
  | succ n ih =>
    intro y0 y1 y2 M
    rw [f_X0_takeFrom_2]
    refine r_iload_n F 2 dX0_takeFrom_2 rfl rfl ?_
    refine r_bipush F dX0_takeFrom_3 (v := 6) (by decide) ?_
    refine r_icmp_ge (tgt := 44) F dX0_takeFrom_5 (by decide) (fun c1 => ?_) (fun c1 => ?_)
    · refine r_aload_n F 0 dX0_takeFrom_44 rfl rfl ?_
      refine r_aload_n F 1 dX0_takeFrom_45 rfl rfl ?_
      refine r_chk (fun h2 => ?_)
      refine gf_X0_38 F dX0_takeFrom_46 (kb_k h2) ?_
      refine r_chk (fun h3 => ?_)
      refine pf_X0_38 F dX0_takeFrom_49 (kb_k h3) (fun M49 => ?_)
      refine r_aload_n F 1 dX0_takeFrom_52 rfl rfl ?_
      refine gf_X0_17 F dX0_takeFrom_53 (kb_k h2) ?_
      refine r_aload_n F 0 dX0_takeFrom_56 rfl rfl ?_
      refine gf_X0_17 F dX0_takeFrom_57 (kb_k h3) ?_
      refine r_cSN (val := vU) (As := [.ref (gA G (y1 + 2)), .ref (gA G (y0 + 2))]) (rest := []) (fun _ => []) F (c_X6_copyRow F.st F.gg (y1 + 2) (y0 + 2) M49) (fun _ _ => rfl) dX0_takeFrom_60 mn_X0_34 ys_X6_copyRow rfl (by decide) rfl (Nat.le_of_ble_eq_true rfl) (fun _ => rfl) (fun _ M60 => ?_)
      refine r_aload_n F 0 dX0_takeFrom_63 rfl rfl ?_
      refine r_aload_n F 1 dX0_takeFrom_64 rfl rfl ?_
      refine gf_X0_42 F dX0_takeFrom_65 (kb_k h2) ?_
      refine pf_X0_42 F dX0_takeFrom_68 (kb_k h3) (fun M68 => ?_)
      refine r_aload_n F 0 dX0_takeFrom_71 rfl rfl ?_
      refine r_aload_n F 1 dX0_takeFrom_72 rfl rfl ?_
      refine gf_X0_45 F dX0_takeFrom_73 (kb_k h2) ?_
      refine pf_X0_45 F dX0_takeFrom_76 (kb_k h3) (fun M76 => ?_)
      refine r_aload_n F 0 dX0_takeFrom_79 rfl rfl ?_
      refine r_aload_n F 1 dX0_takeFrom_80 rfl rfl ?_
      refine gf_X0_48 F dX0_takeFrom_81 (kb_k h2) ?_
      refine pf_X0_48 F dX0_takeFrom_84 (kb_k h3) (fun M84 => ?_)
      refine r_aload_n F 0 dX0_takeFrom_87 rfl rfl ?_
      refine r_aload_n F 1 dX0_takeFrom_88 rfl rfl ?_
      refine gf_X0_51 F dX0_takeFrom_89 (kb_k h2) ?_
      refine pf_X0_51 F dX0_takeFrom_92 (kb_k h3) (fun M92 => ?_)
      exact r_vret F rfl dX0_takeFrom_95 rfl
    · refine r_aload_n F 0 dX0_takeFrom_8 rfl rfl ?_
      refine r_chk (fun h4 => ?_)
      refine gf_X0_11 F dX0_takeFrom_9 (kb_k h4) ?_
      refine r_iload_n F 2 dX0_takeFrom_12 rfl rfl ?_
      refine r_chk (fun h5 => ?_)
      refine r_aaldT F dX0_takeFrom_13 (kLs (kb_k h4)) h5 ?_
      refine r_br (kTw' (kLs (kb_k h4)) h5) (fun b13 k13 => ?_)
      refine r_aload_n F 1 dX0_takeFrom_14 rfl rfl ?_
      refine r_chk (fun h6 => ?_)
      refine gf_X0_11 F dX0_takeFrom_15 (kb_k h6) ?_
      refine r_iload_n F 2 dX0_takeFrom_18 rfl rfl ?_
      refine r_chk (fun h7 => ?_)
      refine r_aaldT F dX0_takeFrom_19 (kLs (kb_k h6)) h7 ?_
      refine r_br (kTw' (kLs (kb_k h6)) h7) (fun b19 k19 => ?_)
      refine r_cVN (val := vU) (As := [.ref (gA G b19)]) (rest := []) (fun _ => []) F (c_X3_takeFrom F.st F.gg b13 b19 M) (fun _ _ => rfl) dX0_takeFrom_20 mn_X0_30 yv_X3_takeFrom k13 (by decide) rfl rfl (by decide) rfl (Nat.le_of_ble_eq_true rfl) (fun _ => rfl) (fun _ M20 => ?_)
      refine r_aload_n F 1 dX0_takeFrom_23 rfl rfl ?_
      refine gf_X0_23 F dX0_takeFrom_24 (kb_k h6) ?_
      refine r_iload_n F 2 dX0_takeFrom_27 rfl rfl ?_
      refine r_chk (fun h8 => ?_)
      refine r_aaldR F dX0_takeFrom_28 (kLd (kb_k h6)) h8 ?_
      refine r_bra (kRw (kLd (kb_k h6)) h8) (aRw (kLd (kb_k h6)) h8) (fun b28 k28 k28a => ?_)
      refine r_aload_n F 0 dX0_takeFrom_29 rfl rfl ?_
      refine gf_X0_23 F dX0_takeFrom_30 (kb_k h4) ?_
      refine r_iload_n F 2 dX0_takeFrom_33 rfl rfl ?_
      refine r_chk (fun h9 => ?_)
      refine r_aaldR F dX0_takeFrom_34 (kLd (kb_k h4)) h9 ?_
      refine r_bra (kRw (kLd (kb_k h4)) h9) (aRw (kLd (kb_k h4)) h9) (fun b34 k34 k34a => ?_)
      refine r_cSN (val := vU) (As := [.ref (gA G b28), .ref (gA G b34)]) (rest := []) (fun _ => []) F (c_X6_copyRow F.st F.gg b28 b34 M20) (fun _ _ => rfl) dX0_takeFrom_35 mn_X0_34 ys_X6_copyRow rfl (by decide) rfl (Nat.le_of_ble_eq_true rfl) (fun _ => rfl) (fun _ M35 => ?_)
      refine r_iinc (ls' := fun q9 => [(2, .int q9), (0, .ref (gA G y0)), (1, .ref (gA G y1))]) (k := 2) (v := y2 + (1 : Int32)) F dX0_takeFrom_38 rfl rfl (by decide) (fun _ => rfl) (fun x38 => ?_)
      refine r_goto (tgt := 2) F dX0_takeFrom_41 (by decide) ?_
      refine r_sub [1, 2, 0] rfl ?_
      exact ih y0 y1 x38 M35

def f_X0_takeFrom (a0 : Nat) (a1 : Nat) (M : Mem) : Option (Unit × Mem) := f_X0_takeFrom_2  FU a0 a1 (0 : Int32) M

set_option maxRecDepth 100000 in
set_option maxHeartbeats 4000000 in
theorem b_X0_takeFrom {G : GM} {p : Program} {l : Launch} {e : Env} {s : State} {m : MethodId} {args : Array Value} {below : List Frame} {meth : Method} {c : Code} (F : Fx G p l s m args meth c cX0_takeFrom RX0 3 none) (a0 : Nat) (a1 : Nat) (M : Mem) : Rf G p l e s m args below meth c 8 3 emV (f_X0_takeFrom a0 a1 M) 0 [(0, .ref (gA G a0)), (1, .ref (gA G a1))] [] M := by
  unfold f_X0_takeFrom
  refine r_iconst F dX0_takeFrom_0 (v := 0) (by decide) ?_
  refine r_istore_n (ls' := [(2, .int (0 : Int32)), (0, .ref (gA G a0)), (1, .ref (gA G a1))]) F dX0_takeFrom_1 rfl (by decide) rfl ?_
  refine r_sub [1, 2, 0] rfl ?_
  exact l_X0_takeFrom_2 F   FU a0 a1 (0 : Int32) M

set_option maxRecDepth 100000 in
set_option maxHeartbeats 4000000 in
theorem c_X0_takeFrom {l : Launch} {G : GM} (hl : l.stackTraces = false) (hG : GG G) (a0 : Nat) (a1 : Nat) (M : Mem) : ∀ r, f_X0_takeFrom a0 a1 M = some r → Ctr l G yX0_takeFrom (.code yX0_takeFrom cX0_takeFrom 3 none :: wsA) 8 [.ref (gA G a0), .ref (gA G a1)] M (emV r) :=
  ctr_of (by decide) hl hG (Nat.le_of_ble_eq_true rfl) (fun p e s m args below meth c F => b_X0_takeFrom F a0 a1 M)

-- ===== X6_dropOldest DrumTowns.dropOldest()V =====
theorem yv_X6_dropOldest : yV yX6_dropOldest cX6_dropOldest 3 none 0 := ⟨im_X6_dropOldest, sl_X6_dropOldest, ini_X6, cd_X6_dropOldest, ⟨by decide, by decide, by decide +kernel⟩, by decide⟩

def f_X6_dropOldest_9 : Nat → Nat → Int32 → Mem → Option (Unit × Mem)
  | 0, _, _, _ => none
  | n + 1, y1, y2, M => if (6 : Int32) ≤ y2 then (chk (kb y1 1) <| chk (inb (5 : Int32) 6) <| bnd (mw M 1 (5 : Int32).toNatClampNeg (Int32.ofNat (y1 / 34))) fun M41 => bnd (mw M41 0 2 (5 : Int32)) fun M44 => some ((), M44)) else (chk (inb y2 6) <| chk (kb (sv M 1 y2) 1) <| bnd (sv M 1 y2) fun b27 => chk (inb (y2 - (1 : Int32)) 6) <| bnd (mw M 1 (y2 - (1 : Int32)).toNatClampNeg (Int32.ofNat (b27 / 34))) fun M28 => bnd (y2 + (1 : Int32)) fun x29 => f_X6_dropOldest_9  n y1 x29 M28)

set_option maxRecDepth 100000 in
set_option maxHeartbeats 4000000 in
theorem l_X6_dropOldest_9 {G : GM} {p : Program} {l : Launch} {e : Env} {s : State} {m : MethodId} {args : Array Value} {below : List Frame} {meth : Method} {c : Code} (F : Fx G p l s m args meth c cX6_dropOldest RX6 3 none) : ∀ (n : Nat) (y1 : Nat) (y2 : Int32) (M : Mem), Rf G p l e s m args below meth c 6 3 emV (f_X6_dropOldest_9  n y1 y2 M) 9 [(0, .ref (gA G 0)), (1, .ref (gA G y1)), (2, .int y2)] [] M := by
  intro n
  induction n with
  | zero => intros; exact r_none
  | succ n ih =>
    intro y1 y2 M
    rw [f_X6_dropOldest_9]
    refine r_iload_n F 2 dX6_dropOldest_9 rfl rfl ?_
    refine r_bipush F dX6_dropOldest_10 (v := 6) (by decide) ?_
    refine r_icmp_ge (tgt := 35) F dX6_dropOldest_12 (by decide) (fun c1 => ?_) (fun c1 => ?_)
    · refine r_aload_n F 0 dX6_dropOldest_35 rfl rfl ?_
      refine gf_X6_16 F dX6_dropOldest_36 (rfl : kd 0 = 0) ?_
      refine r_iconst F dX6_dropOldest_39 (v := 5) (by decide) ?_
      refine r_aload_n F 1 dX6_dropOldest_40 rfl rfl ?_
      refine r_chk (fun h2 => ?_)
      refine r_chk (fun h3 => ?_)
      refine r_aastS F dX6_dropOldest_41 (rfl : kd 1 = 10) h3 (kb_k h2) (fun M41 => ?_)
      refine r_aload_n F 0 dX6_dropOldest_42 rfl rfl ?_
      refine r_iconst F dX6_dropOldest_43 (v := 5) (by decide) ?_
      refine pf_X6_208 F dX6_dropOldest_44 (rfl : kd 0 = 0) (fun M44 => ?_)
      exact r_vret F rfl dX6_dropOldest_47 rfl
    · refine r_aload_n F 0 dX6_dropOldest_15 rfl rfl ?_
      refine gf_X6_16 F dX6_dropOldest_16 (rfl : kd 0 = 0) ?_
      refine r_iload_n F 2 dX6_dropOldest_19 rfl rfl ?_
      refine r_iconst F dX6_dropOldest_20 (v := 1) (by decide) ?_
      refine r_isub F dX6_dropOldest_21 ?_
      refine r_aload_n F 0 dX6_dropOldest_22 rfl rfl ?_
      refine gf_X6_16 F dX6_dropOldest_23 (rfl : kd 0 = 0) ?_
      refine r_iload_n F 2 dX6_dropOldest_26 rfl rfl ?_
      refine r_chk (fun h4 => ?_)
      refine r_chk (fun h5 => ?_)
      refine r_aaldS F dX6_dropOldest_27 (rfl : kd 1 = 10) h4 ?_
      refine r_br (kb_k h5) (fun b27 k27 => ?_)
      refine r_chk (fun h6 => ?_)
      refine r_aastS F dX6_dropOldest_28 (rfl : kd 1 = 10) h6 k27 (fun M28 => ?_)
      refine r_iinc (ls' := fun q9 => [(2, .int q9), (0, .ref (gA G 0)), (1, .ref (gA G y1))]) (k := 2) (v := y2 + (1 : Int32)) F dX6_dropOldest_29 rfl rfl (by decide) (fun _ => rfl) (fun x29 => ?_)
      refine r_goto (tgt := 9) F dX6_dropOldest_32 (by decide) ?_
      refine r_sub [1, 2, 0] rfl ?_
      exact ih y1 x29 M28

def f_X6_dropOldest  (M : Mem) : Option (Unit × Mem) := chk (inb (0 : Int32) 6) <| chk (kb (sv M 1 (0 : Int32)) 1) <| bnd (sv M 1 (0 : Int32)) fun b5 => f_X6_dropOldest_9  FU b5 (1 : Int32) M

set_option maxRecDepth 100000 in
set_option maxHeartbeats 4000000 in
theorem b_X6_dropOldest {G : GM} {p : Program} {l : Launch} {e : Env} {s : State} {m : MethodId} {args : Array Value} {below : List Frame} {meth : Method} {c : Code} (F : Fx G p l s m args meth c cX6_dropOldest RX6 3 none)  (M : Mem) : Rf G p l e s m args below meth c 6 3 emV (f_X6_dropOldest  M) 0 [(0, .ref (gA G 0))] [] M := by
  unfold f_X6_dropOldest
  refine r_aload_n F 0 dX6_dropOldest_0 rfl rfl ?_
  refine gf_X6_16 F dX6_dropOldest_1 (rfl : kd 0 = 0) ?_
  refine r_iconst F dX6_dropOldest_4 (v := 0) (by decide) ?_
  refine r_chk (fun h1 => ?_)
  refine r_chk (fun h2 => ?_)
  refine r_aaldS F dX6_dropOldest_5 (rfl : kd 1 = 10) h1 ?_
  refine r_br (kb_k h2) (fun b5 k5 => ?_)
  refine r_astore_n (ls' := [(1, .ref (gA G b5)), (0, .ref (gA G 0))]) F dX6_dropOldest_6 rfl (by decide) rfl ?_
  refine r_iconst F dX6_dropOldest_7 (v := 1) (by decide) ?_
  refine r_istore_n (ls' := [(2, .int (1 : Int32)), (1, .ref (gA G b5)), (0, .ref (gA G 0))]) F dX6_dropOldest_8 rfl (by decide) rfl ?_
  refine r_sub [2, 1, 0] rfl ?_
  exact l_X6_dropOldest_9 F   FU b5 (1 : Int32) M

set_option maxRecDepth 100000 in
set_option maxHeartbeats 4000000 in
theorem c_X6_dropOldest {l : Launch} {G : GM} (hl : l.stackTraces = false) (hG : GG G)  (M : Mem) : ∀ r, f_X6_dropOldest  M = some r → Ctr l G yX6_dropOldest (.code yX6_dropOldest cX6_dropOldest 3 none :: wsA) 6 [.ref (gA G 0)] M (emV r) :=
  ctr_of (by decide) hl hG (Nat.le_of_ble_eq_true rfl) (fun p e s m args below meth c F => b_X6_dropOldest F  M)

-- ===== X6_saveState DrumTowns.saveState()V =====
theorem yv_X6_saveState : yV yX6_saveState cX6_saveState 1 none 0 := ⟨im_X6_saveState, sl_X6_saveState, ini_X6, cd_X6_saveState, ⟨by decide, by decide, by decide +kernel⟩, by decide⟩

def f_X6_saveState_13  (M : Mem) : Option (Unit × Mem) := chk (inb (M.1 0 2) 6) <| chk (kb (sv M 1 (M.1 0 2)) 1) <| bnd (sv M 1 (M.1 0 2)) fun b21 => bn (f_X0_takeFrom b21 34 M) fun _ M26 => bnd (mw M26 0 2 ((M26.1 0 2) + (1 : Int32))) fun M36 => some ((), M36)

set_option maxRecDepth 100000 in
set_option maxHeartbeats 4000000 in
theorem l_X6_saveState_13 {G : GM} {p : Program} {l : Launch} {e : Env} {s : State} {m : MethodId} {args : Array Value} {below : List Frame} {meth : Method} {c : Code} (F : Fx G p l s m args meth c cX6_saveState RX6 1 none)  (M : Mem) : Rf G p l e s m args below meth c 9 1 emV (f_X6_saveState_13   M) 13 [(0, .ref (gA G 0))] [] M := by
  unfold f_X6_saveState_13
  refine r_aload_n F 0 dX6_saveState_13 rfl rfl ?_
  refine gf_X6_16 F dX6_saveState_14 (rfl : kd 0 = 0) ?_
  refine r_aload_n F 0 dX6_saveState_17 rfl rfl ?_
  refine gf_X6_208 F dX6_saveState_18 (rfl : kd 0 = 0) ?_
  refine r_chk (fun h1 => ?_)
  refine r_chk (fun h2 => ?_)
  refine r_aaldS F dX6_saveState_21 (rfl : kd 1 = 10) h1 ?_
  refine r_br (kb_k h2) (fun b21 k21 => ?_)
  refine r_aload_n F 0 dX6_saveState_22 rfl rfl ?_
  refine gf_X6_10 F dX6_saveState_23 (rfl : kd 0 = 0) ?_
  refine r_cVN (val := vU) (As := [.ref (gA G 34)]) (rest := []) (fun _ => []) F (c_X0_takeFrom F.st F.gg b21 34 M) (fun _ _ => rfl) dX6_saveState_26 mn_X6_213 yv_X0_takeFrom k21 (by decide) rfl rfl (by decide) rfl (Nat.le_of_ble_eq_true rfl) (fun _ => rfl) (fun _ M26 => ?_)
  refine r_aload_n F 0 dX6_saveState_29 rfl rfl ?_
  refine r_dup F dX6_saveState_30 rfl ?_
  refine gf_X6_208 F dX6_saveState_31 (rfl : kd 0 = 0) ?_
  refine r_iconst F dX6_saveState_34 (v := 1) (by decide) ?_
  refine r_iadd F dX6_saveState_35 ?_
  refine pf_X6_208 F dX6_saveState_36 (rfl : kd 0 = 0) (fun M36 => ?_)
  exact r_vret F rfl dX6_saveState_39 rfl

def f_X6_saveState  (M : Mem) : Option (Unit × Mem) := if (M.1 0 2) < (6 : Int32) then (f_X6_saveState_13   M) else (bn (f_X6_dropOldest M) fun _ M10 => f_X6_saveState_13   M10)

set_option maxRecDepth 100000 in
set_option maxHeartbeats 4000000 in
theorem b_X6_saveState {G : GM} {p : Program} {l : Launch} {e : Env} {s : State} {m : MethodId} {args : Array Value} {below : List Frame} {meth : Method} {c : Code} (F : Fx G p l s m args meth c cX6_saveState RX6 1 none)  (M : Mem) : Rf G p l e s m args below meth c 9 1 emV (f_X6_saveState  M) 0 [(0, .ref (gA G 0))] [] M := by
  unfold f_X6_saveState
  refine r_aload_n F 0 dX6_saveState_0 rfl rfl ?_
  refine gf_X6_208 F dX6_saveState_1 (rfl : kd 0 = 0) ?_
  refine r_bipush F dX6_saveState_4 (v := 6) (by decide) ?_
  refine r_icmp_lt (tgt := 13) F dX6_saveState_6 (by decide) (fun c1 => ?_) (fun c1 => ?_)
  · refine r_sub [0] rfl ?_
    exact l_X6_saveState_13 F    M
  · refine r_aload_n F 0 dX6_saveState_9 rfl rfl ?_
    refine r_cV (val := vU) (As := []) (rest := []) (fun _ => []) F (c_X6_dropOldest F.st F.gg  M) (fun _ _ => rfl) dX6_saveState_10 ml_X6_372 yv_X6_dropOldest (rfl : kd 0 = 0) (by decide) rfl rfl (by decide) rfl (Nat.le_of_ble_eq_true rfl) (fun _ => rfl) (fun _ M10 => ?_)
    refine r_sub [0] rfl ?_
    exact l_X6_saveState_13 F    M10

set_option maxRecDepth 100000 in
set_option maxHeartbeats 4000000 in
theorem c_X6_saveState {l : Launch} {G : GM} (hl : l.stackTraces = false) (hG : GG G)  (M : Mem) : ∀ r, f_X6_saveState  M = some r → Ctr l G yX6_saveState (.code yX6_saveState cX6_saveState 1 none :: wsA) 9 [.ref (gA G 0)] M (emV r) :=
  ctr_of (by decide) hl hG (Nat.le_of_ble_eq_true rfl) (fun p e s m args below meth c F => b_X6_saveState F  M)

-- ===== X6_trade DrumTowns.trade(II)I =====
theorem yv_X6_trade : yV yX6_trade cX6_trade 7 (some .int) 2 := ⟨im_X6_trade, sl_X6_trade, ini_X6, cd_X6_trade, ⟨by decide, by decide, by decide +kernel⟩, by decide⟩

def f_X6_trade_43 : Nat → Nat → Nat → Int32 → Mem → Option ((Int32 ⊕ String) × Mem)
  | 0, _, _, _, _ => none
  | n + 1, y3, y4, y5, M => if (24 : Int32) ≤ y5 then (chk (kb y3 2) <| bn (f_X3_rightPins y3 M) fun r91 M91 => chk (kb y4 2) <| bn (f_X3_rightPins y4 M91) fun r96 M96 => some (.inl (r91 + r96), M96)) else (chk (kb y3 2) <| chk (inb y5 24) <| bnd (M.1 (y3 + 1) y5.toNatClampNeg) fun x57 => chk (kb y4 2) <| chk (inb y5 24) <| chk (inb y5 24) <| bnd (mw M (y3 + 1) y5.toNatClampNeg (M.1 (y4 + 1) y5.toNatClampNeg)) fun M73 => chk (inb y5 24) <| bnd (mw M73 (y4 + 1) y5.toNatClampNeg x57) fun M83 => bnd (y5 + (1 : Int32)) fun x84 => f_X6_trade_43  n y3 y4 x84 M83)

set_option maxRecDepth 100000 in
set_option maxHeartbeats 4000000 in
theorem l_X6_trade_43 {G : GM} {p : Program} {l : Launch} {e : Env} {s : State} {m : MethodId} {args : Array Value} {below : List Frame} {meth : Method} {c : Code} (F : Fx G p l s m args meth c cX6_trade RX6 7 (some .int)) : ∀ (n : Nat) (y3 : Nat) (y4 : Nat) (y5 : Int32) (M : Mem), Rf G p l e s m args below meth c 10 7 (emT vI) (f_X6_trade_43  n y3 y4 y5 M) 43 [(3, .ref (gA G y3)), (4, .ref (gA G y4)), (5, .int y5)] [] M := by
  intro n
  induction n with
  | zero => intros; exact r_none
  | succ n ih =>
    intro y3 y4 y5 M
    rw [f_X6_trade_43]
    refine r_iload F 2 dX6_trade_43 rfl ?_
    refine r_bipush F dX6_trade_45 (v := 24) (by decide) ?_
    refine r_icmp_ge (tgt := 90) F dX6_trade_47 (by decide) (fun c1 => ?_) (fun c1 => ?_)
    · refine r_aload_n F 0 dX6_trade_90 rfl rfl ?_
      refine r_chk (fun h2 => ?_)
      refine r_cVN (val := vI) (As := []) (rest := []) (fun q9 => .int q9 :: []) F (c_X3_rightPins F.st F.gg y3 M) (fun _ _ => rfl) dX6_trade_91 mn_X6_129 yv_X3_rightPins (kb_k h2) (by decide) rfl rfl (by decide) rfl (Nat.le_of_ble_eq_true rfl) (fun _ => rfl) (fun r91 M91 => ?_)
      refine r_aload F 1 dX6_trade_94 rfl ?_
      refine r_chk (fun h3 => ?_)
      refine r_cVN (val := vI) (As := []) (rest := [.int r91]) (fun q9 => .int q9 :: [.int r91]) F (c_X3_rightPins F.st F.gg y4 M91) (fun _ _ => rfl) dX6_trade_96 mn_X6_129 yv_X3_rightPins (kb_k h3) (by decide) rfl rfl (by decide) rfl (Nat.le_of_ble_eq_true rfl) (fun _ => rfl) (fun r96 M96 => ?_)
      refine r_iadd F dX6_trade_99 ?_
      exact r_iret F rfl dX6_trade_100 rfl
    · refine r_aload_n F 0 dX6_trade_50 rfl rfl ?_
      refine r_chk (fun h4 => ?_)
      refine gf_X6_109 F dX6_trade_51 (kb_k h4) ?_
      refine r_iload F 2 dX6_trade_54 rfl ?_
      refine r_chk (fun h5 => ?_)
      refine r_iald F dX6_trade_56 (kTd (kb_k h4)) (aTd (kb_k h4)) h5 ?_
      refine r_bi (fun x57 => ?_)
      refine r_istore (ls' := [(6, .int x57), (3, .ref (gA G y3)), (4, .ref (gA G y4)), (5, .int y5)]) F dX6_trade_57 (by decide) rfl ?_
      refine r_aload_n F 1 dX6_trade_59 rfl rfl ?_
      refine gf_X6_109 F dX6_trade_60 (kb_k h4) ?_
      refine r_iload F 3 dX6_trade_63 rfl ?_
      refine r_aload F 2 dX6_trade_65 rfl ?_
      refine r_chk (fun h6 => ?_)
      refine gf_X6_109 F dX6_trade_67 (kb_k h6) ?_
      refine r_iload F 3 dX6_trade_70 rfl ?_
      refine r_chk (fun h7 => ?_)
      refine r_iald F dX6_trade_72 (kTd (kb_k h6)) (aTd (kb_k h6)) h7 ?_
      refine r_chk (fun h8 => ?_)
      refine r_iast F dX6_trade_73 (kTd (kb_k h4)) (aTd (kb_k h4)) h8 (fun M73 => ?_)
      refine r_aload F 2 dX6_trade_74 rfl ?_
      refine gf_X6_109 F dX6_trade_76 (kb_k h6) ?_
      refine r_iload F 3 dX6_trade_79 rfl ?_
      refine r_iload F 0 dX6_trade_81 rfl ?_
      refine r_chk (fun h9 => ?_)
      refine r_iast F dX6_trade_83 (kTd (kb_k h6)) (aTd (kb_k h6)) h9 (fun M83 => ?_)
      refine r_iinc (ls' := fun q9 => [(5, .int q9), (6, .int x57), (3, .ref (gA G y3)), (4, .ref (gA G y4))]) (k := 3) (v := y5 + (1 : Int32)) F dX6_trade_84 rfl rfl (by decide) (fun _ => rfl) (fun x84 => ?_)
      refine r_goto (tgt := 43) F dX6_trade_87 (by decide) ?_
      refine r_sub [2, 3, 0] rfl ?_
      exact ih y3 y4 x84 M83

def f_X6_trade (a1 : Int32) (a2 : Int32) (M : Mem) : Option ((Int32 ⊕ String) × Mem) := bt (f_X6_checkTown a1 M) fun _ M2 => bt (f_X6_checkTown a2 M2) fun _ M7 => bt (f_X6_checkDifferent a1 a2 M7) fun _ M12 => bn (f_X6_saveState M12) fun _ M16 => chk (inb a1 6) <| bnd (tw 35 a1) fun b27 => chk (inb a2 6) <| bnd (tw 35 a2) fun b37 => f_X6_trade_43  FU b27 b37 (0 : Int32) M16

set_option maxRecDepth 100000 in
set_option maxHeartbeats 4000000 in
theorem b_X6_trade {G : GM} {p : Program} {l : Launch} {e : Env} {s : State} {m : MethodId} {args : Array Value} {below : List Frame} {meth : Method} {c : Code} (F : Fx G p l s m args meth c cX6_trade RX6 7 (some .int)) (a1 : Int32) (a2 : Int32) (M : Mem) : Rf G p l e s m args below meth c 10 7 (emT vI) (f_X6_trade a1 a2 M) 0 [(0, .ref (gA G 0)), (1, .int a1), (2, .int a2)] [] M := by
  unfold f_X6_trade
  refine r_aload_n F 0 dX6_trade_0 rfl rfl ?_
  refine r_iload_n F 1 dX6_trade_1 rfl rfl ?_
  refine r_tV (val := vU) (As := [.int a1]) (rest := []) (fun _ => []) F (c_X6_checkTown F.st F.gg a1 M) dX6_trade_2 ml_X6_120 yv_X6_checkTown (rfl : kd 0 = 0) (by decide) rfl rfl (by decide) rfl (Nat.le_of_ble_eq_true rfl) (fun _ => rfl) (fun _ M2 => ?_)
  refine r_aload_n F 0 dX6_trade_5 rfl rfl ?_
  refine r_iload_n F 2 dX6_trade_6 rfl rfl ?_
  refine r_tV (val := vU) (As := [.int a2]) (rest := []) (fun _ => []) F (c_X6_checkTown F.st F.gg a2 M2) dX6_trade_7 ml_X6_120 yv_X6_checkTown (rfl : kd 0 = 0) (by decide) rfl rfl (by decide) rfl (Nat.le_of_ble_eq_true rfl) (fun _ => rfl) (fun _ M7 => ?_)
  refine r_iload_n F 1 dX6_trade_10 rfl rfl ?_
  refine r_iload_n F 2 dX6_trade_11 rfl rfl ?_
  refine r_tS (val := vU) (As := [.int a1, .int a2]) (rest := []) (fun _ => []) F (c_X6_checkDifferent F.st F.gg a1 a2 M7) dX6_trade_12 ml_X6_123 ys_X6_checkDifferent rfl (by decide) rfl (Nat.le_of_ble_eq_true rfl) (fun _ => rfl) (fun _ M12 => ?_)
  refine r_aload_n F 0 dX6_trade_15 rfl rfl ?_
  refine r_cV (val := vU) (As := []) (rest := []) (fun _ => []) F (c_X6_saveState F.st F.gg  M12) (fun _ _ => rfl) dX6_trade_16 ml_X6_73 yv_X6_saveState (rfl : kd 0 = 0) (by decide) rfl rfl (by decide) rfl (Nat.le_of_ble_eq_true rfl) (fun _ => rfl) (fun _ M16 => ?_)
  refine r_aload_n F 0 dX6_trade_19 rfl rfl ?_
  refine gf_X6_10 F dX6_trade_20 (rfl : kd 0 = 0) ?_
  refine gf_X6_76 F dX6_trade_23 (rfl : kd 34 = 1) ?_
  refine r_iload_n F 1 dX6_trade_26 rfl rfl ?_
  refine r_chk (fun h1 => ?_)
  refine r_aaldT F dX6_trade_27 (rfl : kd 35 = 9) h1 ?_
  refine r_br (kTw' (rfl : kd 35 = 9) h1) (fun b27 k27 => ?_)
  refine r_astore_n (ls' := [(3, .ref (gA G b27)), (0, .ref (gA G 0)), (1, .int a1), (2, .int a2)]) F dX6_trade_28 rfl (by decide) rfl ?_
  refine r_aload_n F 1 dX6_trade_29 rfl rfl ?_
  refine gf_X6_10 F dX6_trade_30 (rfl : kd 0 = 0) ?_
  refine gf_X6_76 F dX6_trade_33 (rfl : kd 34 = 1) ?_
  refine r_iload_n F 3 dX6_trade_36 rfl rfl ?_
  refine r_chk (fun h2 => ?_)
  refine r_aaldT F dX6_trade_37 (rfl : kd 35 = 9) h2 ?_
  refine r_br (kTw' (rfl : kd 35 = 9) h2) (fun b37 k37 => ?_)
  refine r_astore (ls' := [(4, .ref (gA G b37)), (3, .ref (gA G b27)), (0, .ref (gA G 0)), (1, .int a1), (2, .int a2)]) F dX6_trade_38 (by decide) rfl ?_
  refine r_iconst F dX6_trade_40 (v := 0) (by decide) ?_
  refine r_istore (ls' := [(5, .int (0 : Int32)), (4, .ref (gA G b37)), (3, .ref (gA G b27)), (0, .ref (gA G 0)), (1, .int a1), (2, .int a2)]) F dX6_trade_41 (by decide) rfl ?_
  refine r_sub [2, 1, 0] rfl ?_
  exact l_X6_trade_43 F   FU b27 b37 (0 : Int32) M16

set_option maxRecDepth 100000 in
set_option maxHeartbeats 4000000 in
theorem c_X6_trade {l : Launch} {G : GM} (hl : l.stackTraces = false) (hG : GG G) (a1 : Int32) (a2 : Int32) (M : Mem) : ∀ r, f_X6_trade a1 a2 M = some r → Ctr l G yX6_trade (.code yX6_trade cX6_trade 7 (some .int) :: wsA) 10 [.ref (gA G 0), .int a1, .int a2] M ((emT vI) r) :=
  ctr_of (by decide) hl hG (Nat.le_of_ble_eq_true rfl) (fun p e s m args below meth c F => b_X6_trade F a1 a2 M)

