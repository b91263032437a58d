-- ===== X6_mixedWithTrades DrumTowns.mixedWithTrades(J)J =====
theorem yv_X6_mixedWithTrades : yV yX6_mixedWithTrades cX6_mixedWithTrades 6 (some .long) 1 := ⟨im_X6_mixedWithTrades, sl_X6_mixedWithTrades, ini_X6, cd_X6_mixedWithTrades, ⟨by decide, by decide, by decide +kernel⟩, by decide⟩

def f_X6_mixedWithTrades_28 : Nat → Int64 → Int32 → Mem → Option (Int64 × Mem)
  | 0, _, _, _ => none
  | n + 1, y3, y5, M => if (6 : Int32) ≤ y5 then (some (y3, M)) else (bn (f_X4_tell ((10 : Int32) + y5) M) fun r45 M45 => bn (f_X6_mixed y3 ((r45).toInt64) M45) fun r49 M49 => bnd (y5 + (1 : Int32)) fun x53 => f_X6_mixedWithTrades_28  n r49 x53 M49)

set_option maxRecDepth 100000 in
set_option maxHeartbeats 4000000 in
theorem l_X6_mixedWithTrades_28 {G : GM} {p : Program} {l : Launch} {e : Env} {s : State} {m : MethodId} {args : Array Value} {below : List Frame} {meth : Method} {c : Code} (F : Fx G p l s m args meth c cX6_mixedWithTrades RX6 6 (some .long)) : ∀ (n : Nat) (y3 : Int64) (y5 : Int32) (M : Mem), Rf G p l e s m args below meth c 10 6 emL (f_X6_mixedWithTrades_28  n y3 y5 M) 28 [(0, .ref (gA G 0)), (3, .long y3), (5, .int y5)] [] M := by
  intro n
  induction n with
  | zero => intros; exact r_none
  | succ n ih =>
    intro y3 y5 M
    rw [f_X6_mixedWithTrades_28]
    refine r_iload F 2 dX6_mixedWithTrades_28 rfl ?_
    refine r_bipush F dX6_mixedWithTrades_30 (v := 6) (by decide) ?_
    refine r_icmp_ge (tgt := 59) F dX6_mixedWithTrades_32 (by decide) (fun c1 => ?_) (fun c1 => ?_)
    · refine r_lload_n F 1 dX6_mixedWithTrades_59 rfl rfl ?_
      exact r_lret F rfl dX6_mixedWithTrades_60 rfl
    · refine r_lload_n F 1 dX6_mixedWithTrades_35 rfl rfl ?_
      refine r_aload_n F 0 dX6_mixedWithTrades_36 rfl rfl ?_
      refine gf_X6_44 F dX6_mixedWithTrades_37 (rfl : kd 0 = 0) ?_
      refine r_bipush F dX6_mixedWithTrades_40 (v := 10) (by decide) ?_
      refine r_iload F 2 dX6_mixedWithTrades_42 rfl ?_
      refine r_iadd F dX6_mixedWithTrades_44 ?_
      refine r_cVN (val := vI) (As := [.int ((10 : Int32) + y5)]) (rest := [.long y3]) (fun q9 => .int q9 :: [.long y3]) F (c_X4_tell F.st F.gg ((10 : Int32) + y5) M) (fun _ _ => rfl) dX6_mixedWithTrades_45 mn_X6_299 yv_X4_tell (rfl : kd 12 = 5) (by decide) rfl rfl (by decide) rfl (Nat.le_of_ble_eq_true rfl) (fun _ => rfl) (fun r45 M45 => ?_)
      refine r_i2l F dX6_mixedWithTrades_48 ?_
      refine r_cS (val := vL) (As := [.long y3, .long ((r45).toInt64)]) (rest := []) (fun q9 => .long q9 :: []) F (c_X6_mixed F.st F.gg y3 ((r45).toInt64) M45) (fun _ _ => rfl) dX6_mixedWithTrades_49 ml_X6_308 ys_X6_mixed rfl (by decide) rfl (Nat.le_of_ble_eq_true rfl) (fun _ => rfl) (fun r49 M49 => ?_)
      refine r_lstore_n (ls' := [(3, .long r49), (0, .ref (gA G 0)), (5, .int y5)]) F dX6_mixedWithTrades_52 rfl (by decide) rfl ?_
      refine r_iinc (ls' := fun q9 => [(5, .int q9), (3, .long r49), (0, .ref (gA G 0))]) (k := 2) (v := y5 + (1 : Int32)) F dX6_mixedWithTrades_53 rfl rfl (by decide) (fun _ => rfl) (fun x53 => ?_)
      refine r_goto (tgt := 28) F dX6_mixedWithTrades_56 (by decide) ?_
      refine r_sub [2, 1, 0] rfl ?_
      exact ih r49 x53 M49

def f_X6_mixedWithTrades (a1 : Int64) (M : Mem) : Option (Int64 × Mem) := bn (f_X4_find 34 M) fun _ M8 => bn (f_X4_tell (0 : Int32) M8) fun r17 M17 => bn (f_X6_mixed a1 ((r17).toInt64) M17) fun r21 M21 => f_X6_mixedWithTrades_28  FU r21 (0 : Int32) M21

set_option maxRecDepth 100000 in
set_option maxHeartbeats 4000000 in
theorem b_X6_mixedWithTrades {G : GM} {p : Program} {l : Launch} {e : Env} {s : State} {m : MethodId} {args : Array Value} {below : List Frame} {meth : Method} {c : Code} (F : Fx G p l s m args meth c cX6_mixedWithTrades RX6 6 (some .long)) (a1 : Int64) (M : Mem) : Rf G p l e s m args below meth c 10 6 emL (f_X6_mixedWithTrades a1 M) 0 [(0, .ref (gA G 0)), (1, .long a1)] [] M := by
  unfold f_X6_mixedWithTrades
  refine r_aload_n F 0 dX6_mixedWithTrades_0 rfl rfl ?_
  refine gf_X6_44 F dX6_mixedWithTrades_1 (rfl : kd 0 = 0) ?_
  refine r_aload_n F 0 dX6_mixedWithTrades_4 rfl rfl ?_
  refine gf_X6_10 F dX6_mixedWithTrades_5 (rfl : kd 0 = 0) ?_
  refine r_cVN (val := vU) (As := [.ref (gA G 34)]) (rest := []) (fun _ => []) F (c_X4_find F.st F.gg 34 M) (fun _ _ => rfl) dX6_mixedWithTrades_8 mn_X6_298 yv_X4_find (rfl : kd 12 = 5) (by decide) rfl rfl (by decide) rfl (Nat.le_of_ble_eq_true rfl) (fun _ => rfl) (fun _ M8 => ?_)
  refine r_lload_n F 1 dX6_mixedWithTrades_11 rfl rfl ?_
  refine r_aload_n F 0 dX6_mixedWithTrades_12 rfl rfl ?_
  refine gf_X6_44 F dX6_mixedWithTrades_13 (rfl : kd 0 = 0) ?_
  refine r_iconst F dX6_mixedWithTrades_16 (v := 0) (by decide) ?_
  refine r_cVN (val := vI) (As := [.int (0 : Int32)]) (rest := [.long a1]) (fun q9 => .int q9 :: [.long a1]) F (c_X4_tell F.st F.gg (0 : Int32) M8) (fun _ _ => rfl) dX6_mixedWithTrades_17 mn_X6_299 yv_X4_tell (rfl : kd 12 = 5) (by decide) rfl rfl (by decide) rfl (Nat.le_of_ble_eq_true rfl) (fun _ => rfl) (fun r17 M17 => ?_)
  refine r_i2l F dX6_mixedWithTrades_20 ?_
  refine r_cS (val := vL) (As := [.long a1, .long ((r17).toInt64)]) (rest := []) (fun q9 => .long q9 :: []) F (c_X6_mixed F.st F.gg a1 ((r17).toInt64) M17) (fun _ _ => rfl) dX6_mixedWithTrades_21 ml_X6_308 ys_X6_mixed rfl (by decide) rfl (Nat.le_of_ble_eq_true rfl) (fun _ => rfl) (fun r21 M21 => ?_)
  refine r_lstore_n (ls' := [(3, .long r21), (0, .ref (gA G 0)), (1, .long a1)]) F dX6_mixedWithTrades_24 rfl (by decide) rfl ?_
  refine r_iconst F dX6_mixedWithTrades_25 (v := 0) (by decide) ?_
  refine r_istore (ls' := [(5, .int (0 : Int32)), (3, .long r21), (0, .ref (gA G 0)), (1, .long a1)]) F dX6_mixedWithTrades_26 (by decide) rfl ?_
  refine r_sub [2, 1, 0] rfl ?_
  exact l_X6_mixedWithTrades_28 F   FU r21 (0 : Int32) M21

set_option maxRecDepth 100000 in
set_option maxHeartbeats 4000000 in
theorem c_X6_mixedWithTrades {l : Launch} {G : GM} (hl : l.stackTraces = false) (hG : GG G) (a1 : Int64) (M : Mem) : ∀ r, f_X6_mixedWithTrades a1 M = some r → Ctr l G yX6_mixedWithTrades (.code yX6_mixedWithTrades cX6_mixedWithTrades 6 (some .long) :: wsA) 10 [.ref (gA G 0), .long a1] M (emL r) :=
  ctr_of (by decide) hl hG (Nat.le_of_ble_eq_true rfl) (fun p e s m args below meth c F => b_X6_mixedWithTrades F a1 M)

-- ===== X6_tuneShare DrumTowns.tuneShare()D =====
theorem yv_X6_tuneShare : yV yX6_tuneShare cX6_tuneShare 3 (some .double) 0 := ⟨im_X6_tuneShare, sl_X6_tuneShare, ini_X6, cd_X6_tuneShare, ⟨by decide, by decide, by decide +kernel⟩, by decide⟩

def f_X6_tuneShare_4 : Nat → Int32 → Int32 → Mem → Option (UInt64 × Mem)
  | 0, _, _, _ => none
  | n + 1, y1, y2, M => if (M.1 34 1) ≤ y2 then (if y1 = 0 then (some (FP.dconst0, M)) else (bn (f_X0_allRightPins 34 M) fun r49 M49 => chk (nn64 (FP.ddiv (FP.i2d r49) (FP.i2d y1))) <| some ((FP.ddiv (FP.i2d r49) (FP.i2d y1)), M49))) else (chk (inb y2 6) <| bnd (tw 35 y2) fun b24 => bn (f_X6_sizeOf (b24 + 2) M) fun r28 M28 => bnd (y1 + r28) fun x32 => bnd (y2 + (1 : Int32)) fun x33 => f_X6_tuneShare_4  n x32 x33 M28)

set_option maxRecDepth 100000 in
set_option maxHeartbeats 4000000 in
theorem l_X6_tuneShare_4 {G : GM} {p : Program} {l : Launch} {e : Env} {s : State} {m : MethodId} {args : Array Value} {below : List Frame} {meth : Method} {c : Code} (F : Fx G p l s m args meth c cX6_tuneShare RX6 3 (some .double)) : ∀ (n : Nat) (y1 : Int32) (y2 : Int32) (M : Mem), Rf G p l e s m args below meth c 10 3 emD (f_X6_tuneShare_4  n y1 y2 M) 4 [(0, .ref (gA G 0)), (1, .int y1), (2, .int y2)] [] M := by
  intro n
  induction n with
  | zero => intros; exact r_none
  | succ n ih =>
    intro y1 y2 M
    rw [f_X6_tuneShare_4]
    refine r_iload_n F 2 dX6_tuneShare_4 rfl rfl ?_
    refine r_aload_n F 0 dX6_tuneShare_5 rfl rfl ?_
    refine gf_X6_10 F dX6_tuneShare_6 (rfl : kd 0 = 0) ?_
    refine gf_X6_59 F dX6_tuneShare_9 (rfl : kd 34 = 1) ?_
    refine r_icmp_ge (tgt := 39) F dX6_tuneShare_12 (by decide) (fun c1 => ?_) (fun c1 => ?_)
    · refine r_iload_n F 1 dX6_tuneShare_39 rfl rfl ?_
      refine r_if_ne (tgt := 45) F dX6_tuneShare_40 (by decide) (fun c2 => ?_) (fun c2 => ?_)
      · refine r_dconst0 F dX6_tuneShare_43 ?_
        exact r_dret F rfl dX6_tuneShare_44 rfl
      · refine r_aload_n F 0 dX6_tuneShare_45 rfl rfl ?_
        refine gf_X6_10 F dX6_tuneShare_46 (rfl : kd 0 = 0) ?_
        refine r_cVN (val := vI) (As := []) (rest := []) (fun q9 => .int q9 :: []) F (c_X0_allRightPins F.st F.gg 34 M) (fun _ _ => rfl) dX6_tuneShare_49 mn_X6_262 yv_X0_allRightPins (rfl : kd 34 = 1) (by decide) rfl rfl (by decide) rfl (Nat.le_of_ble_eq_true rfl) (fun _ => rfl) (fun r49 M49 => ?_)
        refine r_i2d F dX6_tuneShare_52 ?_
        refine r_iload_n F 1 dX6_tuneShare_53 rfl rfl ?_
        refine r_i2d F dX6_tuneShare_54 ?_
        refine r_chk (fun h3 => ?_)
        refine r_ddiv F dX6_tuneShare_55 (nn_n h3) ?_
        exact r_dret F rfl dX6_tuneShare_56 rfl
    · refine r_iload_n F 1 dX6_tuneShare_15 rfl rfl ?_
      refine r_aload_n F 0 dX6_tuneShare_16 rfl rfl ?_
      refine gf_X6_10 F dX6_tuneShare_17 (rfl : kd 0 = 0) ?_
      refine gf_X6_76 F dX6_tuneShare_20 (rfl : kd 34 = 1) ?_
      refine r_iload_n F 2 dX6_tuneShare_23 rfl rfl ?_
      refine r_chk (fun h4 => ?_)
      refine r_aaldT F dX6_tuneShare_24 (rfl : kd 35 = 9) h4 ?_
      refine r_br (kTw' (rfl : kd 35 = 9) h4) (fun b24 k24 => ?_)
      refine gf_X6_207 F dX6_tuneShare_25 k24 ?_
      refine r_cS (val := vI) (As := [.ref (gA G (b24 + 2))]) (rest := [.int y1]) (fun q9 => .int q9 :: [.int y1]) F (c_X6_sizeOf F.st F.gg (b24 + 2) M) (fun _ _ => rfl) dX6_tuneShare_28 ml_X6_112 ys_X6_sizeOf rfl (by decide) rfl (Nat.le_of_ble_eq_true rfl) (fun _ => rfl) (fun r28 M28 => ?_)
      refine r_iadd F dX6_tuneShare_31 ?_
      refine r_bi (fun x32 => ?_)
      refine r_istore_n (ls' := [(1, .int x32), (0, .ref (gA G 0)), (2, .int y2)]) F dX6_tuneShare_32 rfl (by decide) rfl ?_
      refine r_iinc (ls' := fun q9 => [(2, .int q9), (1, .int x32), (0, .ref (gA G 0))]) (k := 2) (v := y2 + (1 : Int32)) F dX6_tuneShare_33 rfl rfl (by decide) (fun _ => rfl) (fun x33 => ?_)
      refine r_goto (tgt := 4) F dX6_tuneShare_36 (by decide) ?_
      refine r_sub [2, 1, 0] rfl ?_
      exact ih x32 x33 M28

def f_X6_tuneShare  (M : Mem) : Option (UInt64 × Mem) := f_X6_tuneShare_4  FU (0 : Int32) (0 : Int32) M

set_option maxRecDepth 100000 in
set_option maxHeartbeats 4000000 in
theorem b_X6_tuneShare {G : GM} {p : Program} {l : Launch} {e : Env} {s : State} {m : MethodId} {args : Array Value} {below : List Frame} {meth : Method} {c : Code} (F : Fx G p l s m args meth c cX6_tuneShare RX6 3 (some .double))  (M : Mem) : Rf G p l e s m args below meth c 10 3 emD (f_X6_tuneShare  M) 0 [(0, .ref (gA G 0))] [] M := by
  unfold f_X6_tuneShare
  refine r_iconst F dX6_tuneShare_0 (v := 0) (by decide) ?_
  refine r_istore_n (ls' := [(1, .int (0 : Int32)), (0, .ref (gA G 0))]) F dX6_tuneShare_1 rfl (by decide) rfl ?_
  refine r_iconst F dX6_tuneShare_2 (v := 0) (by decide) ?_
  refine r_istore_n (ls' := [(2, .int (0 : Int32)), (1, .int (0 : Int32)), (0, .ref (gA G 0))]) F dX6_tuneShare_3 rfl (by decide) rfl ?_
  refine r_sub [2, 1, 0] rfl ?_
  exact l_X6_tuneShare_4 F   FU (0 : Int32) (0 : Int32) M

set_option maxRecDepth 100000 in
set_option maxHeartbeats 4000000 in
theorem c_X6_tuneShare {l : Launch} {G : GM} (hl : l.stackTraces = false) (hG : GG G)  (M : Mem) : ∀ r, f_X6_tuneShare  M = some r → Ctr l G yX6_tuneShare (.code yX6_tuneShare cX6_tuneShare 3 (some .double) :: wsA) 10 [.ref (gA G 0)] M (emD r) :=
  ctr_of (by decide) hl hG (Nat.le_of_ble_eq_true rfl) (fun p e s m args below meth c F => b_X6_tuneShare F  M)

-- ===== X6_digest DrumTowns.digest()J =====
theorem yv_X6_digest : yV yX6_digest cX6_digest 4 (some .long) 0 := ⟨im_X6_digest, sl_X6_digest, ini_X6, cd_X6_digest, ⟨by decide, by decide, by decide +kernel⟩, by decide⟩

def f_X6_digest_167 (y1 : Int64) (M : Mem) : Option ((Int64 ⊕ String) × Mem) := some (.inl y1, M)

set_option maxRecDepth 100000 in
set_option maxHeartbeats 4000000 in
theorem l_X6_digest_167 {G : GM} {p : Program} {l : Launch} {e : Env} {s : State} {m : MethodId} {args : Array Value} {below : List Frame} {meth : Method} {c : Code} (F : Fx G p l s m args meth c cX6_digest RX6 4 (some .long)) (y1 : Int64) (M : Mem) : Rf G p l e s m args below meth c 18 4 (emT vL) (f_X6_digest_167  y1 M) 167 [(1, .long y1)] [] M := by
  unfold f_X6_digest_167
  refine r_lload_n F 0 dX6_digest_167 rfl rfl ?_
  exact r_lret F rfl dX6_digest_168 rfl

def f_X6_digest_129 : Nat → Int64 → Int32 → Mem → Option ((Int64 ⊕ String) × Mem)
  | 0, _, _, _ => none
  | n + 1, y1, y3, M => if (M.1 2 1) ≤ y3 then (f_X6_digest_167  y1 M) else (if (60 : Int32) ≤ y3 then (f_X6_digest_167  y1 M) else (chk (inb y3 60) <| bn (f_X6_mixed y1 (((M.1 3 y3.toNatClampNeg)).toInt64) M) fun r157 M157 => bnd (y3 + (1 : Int32)) fun x161 => f_X6_digest_129  n r157 x161 M157))

set_option maxRecDepth 100000 in
set_option maxHeartbeats 4000000 in
theorem l_X6_digest_129 {G : GM} {p : Program} {l : Launch} {e : Env} {s : State} {m : MethodId} {args : Array Value} {below : List Frame} {meth : Method} {c : Code} (F : Fx G p l s m args meth c cX6_digest RX6 4 (some .long)) : ∀ (n : Nat) (y1 : Int64) (y3 : Int32) (M : Mem), Rf G p l e s m args below meth c 18 4 (emT vL) (f_X6_digest_129  n y1 y3 M) 129 [(0, .ref (gA G 0)), (1, .long y1), (3, .int y3)] [] M := by
  intro n
  induction n with
  | zero => intros; exact r_none
  | succ n ih =>
    intro y1 y3 M
    rw [f_X6_digest_129]
    refine r_iload_n F 2 dX6_digest_129 rfl rfl ?_
    refine r_aload_n F 0 dX6_digest_130 rfl rfl ?_
    refine gf_X6_23 F dX6_digest_131 (rfl : kd 0 = 0) ?_
    refine gf_X6_189 F dX6_digest_134 (rfl : kd 2 = 6) ?_
    refine r_icmp_ge (tgt := 167) F dX6_digest_137 (by decide) (fun c1 => ?_) (fun c1 => ?_)
    · refine r_sub [1] rfl ?_
      exact l_X6_digest_167 F   y1 M
    · refine r_iload_n F 2 dX6_digest_140 rfl rfl ?_
      refine r_bipush F dX6_digest_141 (v := 60) (by decide) ?_
      refine r_icmp_ge (tgt := 167) F dX6_digest_143 (by decide) (fun c2 => ?_) (fun c2 => ?_)
      · refine r_sub [1] rfl ?_
        exact l_X6_digest_167 F   y1 M
      · refine r_lload_n F 1 dX6_digest_146 rfl rfl ?_
        refine r_aload_n F 0 dX6_digest_147 rfl rfl ?_
        refine gf_X6_23 F dX6_digest_148 (rfl : kd 0 = 0) ?_
        refine gf_X6_192 F dX6_digest_151 (rfl : kd 2 = 6) ?_
        refine r_iload_n F 2 dX6_digest_154 rfl rfl ?_
        refine r_chk (fun h3 => ?_)
        refine r_iald F dX6_digest_155 (rfl : kd 3 = 8) (rfl : al 3 = 60) h3 ?_
        refine r_i2l F dX6_digest_156 ?_
        refine r_cS (val := vL) (As := [.long y1, .long (((M.1 3 y3.toNatClampNeg)).toInt64)]) (rest := []) (fun q9 => .long q9 :: []) F (c_X6_mixed F.st F.gg y1 (((M.1 3 y3.toNatClampNeg)).toInt64) M) (fun _ _ => rfl) dX6_digest_157 ml_X6_308 ys_X6_mixed rfl (by decide) rfl (Nat.le_of_ble_eq_true rfl) (fun _ => rfl) (fun r157 M157 => ?_)
        refine r_lstore_n (ls' := [(1, .long r157), (0, .ref (gA G 0)), (3, .int y3)]) F dX6_digest_160 rfl (by decide) rfl ?_
        refine r_iinc (ls' := fun q9 => [(3, .int q9), (1, .long r157), (0, .ref (gA G 0))]) (k := 2) (v := y3 + (1 : Int32)) F dX6_digest_161 rfl rfl (by decide) (fun _ => rfl) (fun x161 => ?_)
        refine r_goto (tgt := 129) F dX6_digest_164 (by decide) ?_
        refine r_sub [2, 1, 0] rfl ?_
        exact ih r157 x161 M157

def f_X6_digest_59 : Nat → Int64 → Int32 → Mem → Option ((Int64 ⊕ String) × Mem)
  | 0, _, _, _ => none
  | n + 1, y1, y3, M => if (M.1 34 1) ≤ y3 then (bn (f_X6_mixedWithTrades y1 M) fun r92 M92 => bn (f_X6_mixedWithRing r92 M92) fun r98 M98 => bn (f_X6_tuneShare M98) fun r104 M104 => bn (f_X6_bitsOf r104 M104) fun r107 M107 => bn (f_X6_mixed r98 r107 M107) fun r110 M110 => bn (f_X6_mixed r110 (((M110.1 2 1)).toInt64) M110) fun r123 M123 => f_X6_digest_129  FU r123 (0 : Int32) M123) else (bt (f_X6_mixedWithTown y1 y3 M) fun r73 M73 => bn (f_X6_mixedWithRows r73 y3 M73) fun r80 M80 => bnd (y3 + (1 : Int32)) fun x84 => f_X6_digest_59  n r80 x84 M80)

set_option maxRecDepth 100000 in
set_option maxHeartbeats 4000000 in
theorem l_X6_digest_59 {G : GM} {p : Program} {l : Launch} {e : Env} {s : State} {m : MethodId} {args : Array Value} {below : List Frame} {meth : Method} {c : Code} (F : Fx G p l s m args meth c cX6_digest RX6 4 (some .long)) : ∀ (n : Nat) (y1 : Int64) (y3 : Int32) (M : Mem), Rf G p l e s m args below meth c 18 4 (emT vL) (f_X6_digest_59  n y1 y3 M) 59 [(0, .ref (gA G 0)), (1, .long y1), (3, .int y3)] [] M := by
  intro n
  induction n with
  | zero => intros; exact r_none
  | succ n ih =>
    intro y1 y3 M
    rw [f_X6_digest_59]
    refine r_iload_n F 2 dX6_digest_59 rfl rfl ?_
    refine r_aload_n F 0 dX6_digest_60 rfl rfl ?_
    refine gf_X6_10 F dX6_digest_61 (rfl : kd 0 = 0) ?_
    refine gf_X6_59 F dX6_digest_64 (rfl : kd 34 = 1) ?_
    refine r_icmp_ge (tgt := 90) F dX6_digest_67 (by decide) (fun c1 => ?_) (fun c1 => ?_)
    · refine r_aload_n F 0 dX6_digest_90 rfl rfl ?_
      refine r_lload_n F 1 dX6_digest_91 rfl rfl ?_
      refine r_cV (val := vL) (As := [.long y1]) (rest := []) (fun q9 => .long q9 :: []) F (c_X6_mixedWithTrades F.st F.gg y1 M) (fun _ _ => rfl) dX6_digest_92 ml_X6_319 yv_X6_mixedWithTrades (rfl : kd 0 = 0) (by decide) rfl rfl (by decide) rfl (Nat.le_of_ble_eq_true rfl) (fun _ => rfl) (fun r92 M92 => ?_)
      refine r_lstore_n (ls' := [(1, .long r92), (0, .ref (gA G 0)), (3, .int y3)]) F dX6_digest_95 rfl (by decide) rfl ?_
      refine r_aload_n F 1 dX6_digest_96 rfl rfl ?_
      refine r_lload_n F 0 dX6_digest_97 rfl rfl ?_
      refine r_cV (val := vL) (As := [.long r92]) (rest := []) (fun q9 => .long q9 :: []) F (c_X6_mixedWithRing F.st F.gg r92 M92) (fun _ _ => rfl) dX6_digest_98 ml_X6_323 yv_X6_mixedWithRing (rfl : kd 0 = 0) (by decide) rfl rfl (by decide) rfl (Nat.le_of_ble_eq_true rfl) (fun _ => rfl) (fun r98 M98 => ?_)
      refine r_lstore_n (ls' := [(1, .long r98), (0, .ref (gA G 0)), (3, .int y3)]) F dX6_digest_101 rfl (by decide) rfl ?_
      refine r_lload_n F 0 dX6_digest_102 rfl rfl ?_
      refine r_aload_n F 1 dX6_digest_103 rfl rfl ?_
      refine r_cV (val := vD) (As := []) (rest := [.long r98]) (fun q9 => .double q9 :: [.long r98]) F (c_X6_tuneShare F.st F.gg  M98) (fun _ _ => rfl) dX6_digest_104 ml_X6_326 yv_X6_tuneShare (rfl : kd 0 = 0) (by decide) rfl rfl (by decide) rfl (Nat.le_of_ble_eq_true rfl) (fun _ => rfl) (fun r104 M104 => ?_)
      refine r_cS (val := vL) (As := [.double r104]) (rest := [.long r98]) (fun q9 => .long q9 :: [.long r98]) F (c_X6_bitsOf F.st F.gg r104 M104) (fun _ _ => rfl) dX6_digest_107 ml_X6_330 ys_X6_bitsOf rfl (by decide) rfl (Nat.le_of_ble_eq_true rfl) (fun _ => rfl) (fun r107 M107 => ?_)
      refine r_cS (val := vL) (As := [.long r98, .long r107]) (rest := []) (fun q9 => .long q9 :: []) F (c_X6_mixed F.st F.gg r98 r107 M107) (fun _ _ => rfl) dX6_digest_110 ml_X6_308 ys_X6_mixed rfl (by decide) rfl (Nat.le_of_ble_eq_true rfl) (fun _ => rfl) (fun r110 M110 => ?_)
      refine r_lstore_n (ls' := [(1, .long r110), (0, .ref (gA G 0)), (3, .int y3)]) F dX6_digest_113 rfl (by decide) rfl ?_
      refine r_lload_n F 0 dX6_digest_114 rfl rfl ?_
      refine r_aload_n F 1 dX6_digest_115 rfl rfl ?_
      refine gf_X6_23 F dX6_digest_116 (rfl : kd 0 = 0) ?_
      refine gf_X6_189 F dX6_digest_119 (rfl : kd 2 = 6) ?_
      refine r_i2l F dX6_digest_122 ?_
      refine r_cS (val := vL) (As := [.long r110, .long (((M110.1 2 1)).toInt64)]) (rest := []) (fun q9 => .long q9 :: []) F (c_X6_mixed F.st F.gg r110 (((M110.1 2 1)).toInt64) M110) (fun _ _ => rfl) dX6_digest_123 ml_X6_308 ys_X6_mixed rfl (by decide) rfl (Nat.le_of_ble_eq_true rfl) (fun _ => rfl) (fun r123 M123 => ?_)
      refine r_lstore_n (ls' := [(1, .long r123), (0, .ref (gA G 0)), (3, .int y3)]) F dX6_digest_126 rfl (by decide) rfl ?_
      refine r_iconst F dX6_digest_127 (v := 0) (by decide) ?_
      refine r_istore_n (ls' := [(3, .int (0 : Int32)), (1, .long r123), (0, .ref (gA G 0))]) F dX6_digest_128 rfl (by decide) rfl ?_
      refine r_sub [2, 1, 0] rfl ?_
      exact l_X6_digest_129 F   FU r123 (0 : Int32) M123
    · refine r_aload_n F 0 dX6_digest_70 rfl rfl ?_
      refine r_lload_n F 1 dX6_digest_71 rfl rfl ?_
      refine r_iload_n F 2 dX6_digest_72 rfl rfl ?_
      refine r_tV (val := vL) (As := [.long y1, .int y3]) (rest := []) (fun q9 => .long q9 :: []) F (c_X6_mixedWithTown F.st F.gg y1 y3 M) dX6_digest_73 ml_X6_312 yv_X6_mixedWithTown (rfl : kd 0 = 0) (by decide) rfl rfl (by decide) rfl (Nat.le_of_ble_eq_true rfl) (fun _ => rfl) (fun r73 M73 => ?_)
      refine r_lstore_n (ls' := [(1, .long r73), (0, .ref (gA G 0)), (3, .int y3)]) F dX6_digest_76 rfl (by decide) rfl ?_
      refine r_aload_n F 1 dX6_digest_77 rfl rfl ?_
      refine r_lload_n F 0 dX6_digest_78 rfl rfl ?_
      refine r_iload_n F 2 dX6_digest_79 rfl rfl ?_
      refine r_cV (val := vL) (As := [.long r73, .int y3]) (rest := []) (fun q9 => .long q9 :: []) F (c_X6_mixedWithRows F.st F.gg r73 y3 M73) (fun _ _ => rfl) dX6_digest_80 ml_X6_316 yv_X6_mixedWithRows (rfl : kd 0 = 0) (by decide) rfl rfl (by decide) rfl (Nat.le_of_ble_eq_true rfl) (fun _ => rfl) (fun r80 M80 => ?_)
      refine r_lstore_n (ls' := [(1, .long r80), (0, .ref (gA G 0)), (3, .int y3)]) F dX6_digest_83 rfl (by decide) rfl ?_
      refine r_iinc (ls' := fun q9 => [(3, .int q9), (1, .long r80), (0, .ref (gA G 0))]) (k := 2) (v := y3 + (1 : Int32)) F dX6_digest_84 rfl rfl (by decide) (fun _ => rfl) (fun x84 => ?_)
      refine r_goto (tgt := 59) F dX6_digest_87 (by decide) ?_
      refine r_sub [2, 1, 0] rfl ?_
      exact ih r80 x84 M80

def f_X6_digest_31 : Nat → Int64 → Int32 → Mem → Option ((Int64 ⊕ String) × Mem)
  | 0, _, _, _ => none
  | n + 1, y1, y3, M => if (3 : Int32) ≤ y3 then (f_X6_digest_59  FU y1 (0 : Int32) M) else (chk (inb y3 3) <| bn (f_X6_mixed y1 (((M.1 36 y3.toNatClampNeg)).toInt64) M) fun r47 M47 => bnd (y3 + (1 : Int32)) fun x51 => f_X6_digest_31  n r47 x51 M47)

set_option maxRecDepth 100000 in
set_option maxHeartbeats 4000000 in
theorem l_X6_digest_31 {G : GM} {p : Program} {l : Launch} {e : Env} {s : State} {m : MethodId} {args : Array Value} {below : List Frame} {meth : Method} {c : Code} (F : Fx G p l s m args meth c cX6_digest RX6 4 (some .long)) : ∀ (n : Nat) (y1 : Int64) (y3 : Int32) (M : Mem), Rf G p l e s m args below meth c 18 4 (emT vL) (f_X6_digest_31  n y1 y3 M) 31 [(0, .ref (gA G 0)), (1, .long y1), (3, .int y3)] [] M := by
  intro n
  induction n with
  | zero => intros; exact r_none
  | succ n ih =>
    intro y1 y3 M
    rw [f_X6_digest_31]
    refine r_iload_n F 2 dX6_digest_31 rfl rfl ?_
    refine r_iconst F dX6_digest_32 (v := 3) (by decide) ?_
    refine r_icmp_ge (tgt := 57) F dX6_digest_33 (by decide) (fun c1 => ?_) (fun c1 => ?_)
    · refine r_iconst F dX6_digest_57 (v := 0) (by decide) ?_
      refine r_istore_n (ls' := [(3, .int (0 : Int32)), (0, .ref (gA G 0)), (1, .long y1)]) F dX6_digest_58 rfl (by decide) rfl ?_
      refine r_sub [1, 2, 0] rfl ?_
      exact l_X6_digest_59 F   FU y1 (0 : Int32) M
    · refine r_lload_n F 1 dX6_digest_36 rfl rfl ?_
      refine r_aload_n F 0 dX6_digest_37 rfl rfl ?_
      refine gf_X6_10 F dX6_digest_38 (rfl : kd 0 = 0) ?_
      refine gf_X6_68 F dX6_digest_41 (rfl : kd 34 = 1) ?_
      refine r_iload_n F 2 dX6_digest_44 rfl rfl ?_
      refine r_chk (fun h2 => ?_)
      refine r_iald F dX6_digest_45 (rfl : kd 36 = 8) (rfl : al 36 = 3) h2 ?_
      refine r_i2l F dX6_digest_46 ?_
      refine r_cS (val := vL) (As := [.long y1, .long (((M.1 36 y3.toNatClampNeg)).toInt64)]) (rest := []) (fun q9 => .long q9 :: []) F (c_X6_mixed F.st F.gg y1 (((M.1 36 y3.toNatClampNeg)).toInt64) M) (fun _ _ => rfl) dX6_digest_47 ml_X6_308 ys_X6_mixed rfl (by decide) rfl (Nat.le_of_ble_eq_true rfl) (fun _ => rfl) (fun r47 M47 => ?_)
      refine r_lstore_n (ls' := [(1, .long r47), (0, .ref (gA G 0)), (3, .int y3)]) F dX6_digest_50 rfl (by decide) rfl ?_
      refine r_iinc (ls' := fun q9 => [(3, .int q9), (1, .long r47), (0, .ref (gA G 0))]) (k := 2) (v := y3 + (1 : Int32)) F dX6_digest_51 rfl rfl (by decide) (fun _ => rfl) (fun x51 => ?_)
      refine r_goto (tgt := 31) F dX6_digest_54 (by decide) ?_
      refine r_sub [2, 1, 0] rfl ?_
      exact ih r47 x51 M47

def f_X6_digest_6 : Nat → Int64 → Int32 → Mem → Option ((Int64 ⊕ String) × Mem)
  | 0, _, _, _ => none
  | n + 1, y1, y3, M => if (11 : Int32) ≤ y3 then (f_X6_digest_31  FU y1 (0 : Int32) M) else (bt (f_X6_count y3 M) fun r15 M15 => bn (f_X6_mixed y1 ((r15).toInt64) M15) fun r19 M19 => bnd (y3 + (1 : Int32)) fun x23 => f_X6_digest_6  n r19 x23 M19)

set_option maxRecDepth 100000 in
set_option maxHeartbeats 4000000 in
theorem l_X6_digest_6 {G : GM} {p : Program} {l : Launch} {e : Env} {s : State} {m : MethodId} {args : Array Value} {below : List Frame} {meth : Method} {c : Code} (F : Fx G p l s m args meth c cX6_digest RX6 4 (some .long)) : ∀ (n : Nat) (y1 : Int64) (y3 : Int32) (M : Mem), Rf G p l e s m args below meth c 18 4 (emT vL) (f_X6_digest_6  n y1 y3 M) 6 [(0, .ref (gA G 0)), (1, .long y1), (3, .int y3)] [] M := by
  intro n
  induction n with
  | zero => intros; exact r_none
  | succ n ih =>
    intro y1 y3 M
    rw [f_X6_digest_6]
    refine r_iload_n F 2 dX6_digest_6 rfl rfl ?_
    refine r_bipush F dX6_digest_7 (v := 11) (by decide) ?_
    refine r_icmp_ge (tgt := 29) F dX6_digest_9 (by decide) (fun c1 => ?_) (fun c1 => ?_)
    · refine r_iconst F dX6_digest_29 (v := 0) (by decide) ?_
      refine r_istore_n (ls' := [(3, .int (0 : Int32)), (0, .ref (gA G 0)), (1, .long y1)]) F dX6_digest_30 rfl (by decide) rfl ?_
      refine r_sub [1, 2, 0] rfl ?_
      exact l_X6_digest_31 F   FU y1 (0 : Int32) M
    · refine r_lload_n F 1 dX6_digest_12 rfl rfl ?_
      refine r_aload_n F 0 dX6_digest_13 rfl rfl ?_
      refine r_iload_n F 2 dX6_digest_14 rfl rfl ?_
      refine r_tV (val := vI) (As := [.int y3]) (rest := [.long y1]) (fun q9 => .int q9 :: [.long y1]) F (c_X6_count F.st F.gg y3 M) dX6_digest_15 ml_X6_305 yv_X6_count (rfl : kd 0 = 0) (by decide) rfl rfl (by decide) rfl (Nat.le_of_ble_eq_true rfl) (fun _ => rfl) (fun r15 M15 => ?_)
      refine r_i2l F dX6_digest_18 ?_
      refine r_cS (val := vL) (As := [.long y1, .long ((r15).toInt64)]) (rest := []) (fun q9 => .long q9 :: []) F (c_X6_mixed F.st F.gg y1 ((r15).toInt64) M15) (fun _ _ => rfl) dX6_digest_19 ml_X6_308 ys_X6_mixed rfl (by decide) rfl (Nat.le_of_ble_eq_true rfl) (fun _ => rfl) (fun r19 M19 => ?_)
      refine r_lstore_n (ls' := [(1, .long r19), (0, .ref (gA G 0)), (3, .int y3)]) F dX6_digest_22 rfl (by decide) rfl ?_
      refine r_iinc (ls' := fun q9 => [(3, .int q9), (1, .long r19), (0, .ref (gA G 0))]) (k := 2) (v := y3 + (1 : Int32)) F dX6_digest_23 rfl rfl (by decide) (fun _ => rfl) (fun x23 => ?_)
      refine r_goto (tgt := 6) F dX6_digest_26 (by decide) ?_
      refine r_sub [2, 1, 0] rfl ?_
      exact ih r19 x23 M19

def f_X6_digest  (M : Mem) : Option ((Int64 ⊕ String) × Mem) := f_X6_digest_6  FU (2357 : Int64) (0 : Int32) M

set_option maxRecDepth 100000 in
set_option maxHeartbeats 4000000 in
theorem b_X6_digest {G : GM} {p : Program} {l : Launch} {e : Env} {s : State} {m : MethodId} {args : Array Value} {below : List Frame} {meth : Method} {c : Code} (F : Fx G p l s m args meth c cX6_digest RX6 4 (some .long))  (M : Mem) : Rf G p l e s m args below meth c 18 4 (emT vL) (f_X6_digest  M) 0 [(0, .ref (gA G 0))] [] M := by
  unfold f_X6_digest
  refine r_ldc2 F dX6_digest_0 kc_X6_303 ?_
  refine r_lstore_n (ls' := [(1, .long (2357 : Int64)), (0, .ref (gA G 0))]) F dX6_digest_3 rfl (by decide) rfl ?_
  refine r_iconst F dX6_digest_4 (v := 0) (by decide) ?_
  refine r_istore_n (ls' := [(3, .int (0 : Int32)), (1, .long (2357 : Int64)), (0, .ref (gA G 0))]) F dX6_digest_5 rfl (by decide) rfl ?_
  refine r_sub [2, 1, 0] rfl ?_
  exact l_X6_digest_6 F   FU (2357 : Int64) (0 : Int32) M

set_option maxRecDepth 100000 in
set_option maxHeartbeats 4000000 in
theorem c_X6_digest {l : Launch} {G : GM} (hl : l.stackTraces = false) (hG : GG G)  (M : Mem) : ∀ r, f_X6_digest  M = some r → Ctr l G yX6_digest (.code yX6_digest cX6_digest 4 (some .long) :: wsA) 18 [.ref (gA G 0)] M ((emT vL) r) :=
  ctr_of (by decide) hl hG (Nat.le_of_ble_eq_true rfl) (fun p e s m args below meth c F => b_X6_digest F  M)

-- ===== X6_file DrumTowns.file(II)I =====
theorem yv_X6_file : yV yX6_file cX6_file 4 (some .int) 2 := ⟨im_X6_file, sl_X6_file, ini_X6, cd_X6_file, ⟨by decide, by decide, by decide +kernel⟩, by decide⟩

def f_X6_file (a1 : Int32) (a2 : Int32) (M : Mem) : Option ((Int32 ⊕ String) × Mem) := bt (f_X6_checkTown a1 M) fun _ M2 => bt (f_X6_checkTooth a2 M2) fun _ M6 => bn (f_X6_saveState M6) fun _ M10 => chk (inb a1 6) <| bnd (tw 35 a1) fun b21 => chk (inb a2 12) <| bnd (M10.1 (b21 + 3) a2.toNatClampNeg) fun x27 => chk (inb a1 6) <| bnd (tw 35 a1) fun b36 => chk (inb a2 12) <| bnd (mw M10 (b36 + 3) a2.toNatClampNeg (0 : Int32)) fun M42 => some (.inl x27, M42)

set_option maxRecDepth 100000 in
set_option maxHeartbeats 4000000 in
theorem b_X6_file {G : GM} {p : Program} {l : Launch} {e : Env} {s : State} {m : MethodId} {args : Array Value} {below : List Frame} {meth : Method} {c : Code} (F : Fx G p l s m args meth c cX6_file RX6 4 (some .int)) (a1 : Int32) (a2 : Int32) (M : Mem) : Rf G p l e s m args below meth c 10 4 (emT vI) (f_X6_file a1 a2 M) 0 [(0, .ref (gA G 0)), (1, .int a1), (2, .int a2)] [] M := by
  unfold f_X6_file
  refine r_aload_n F 0 dX6_file_0 rfl rfl ?_
  refine r_iload_n F 1 dX6_file_1 rfl rfl ?_
  refine r_tV (val := vU) (As := [.int a1]) (rest := []) (fun _ => []) F (c_X6_checkTown F.st F.gg a1 M) dX6_file_2 ml_X6_120 yv_X6_checkTown (rfl : kd 0 = 0) (by decide) rfl rfl (by decide) rfl (Nat.le_of_ble_eq_true rfl) (fun _ => rfl) (fun _ M2 => ?_)
  refine r_iload_n F 2 dX6_file_5 rfl rfl ?_
  refine r_tS (val := vU) (As := [.int a2]) (rest := []) (fun _ => []) F (c_X6_checkTooth F.st F.gg a2 M2) dX6_file_6 ml_X6_139 ys_X6_checkTooth rfl (by decide) rfl (Nat.le_of_ble_eq_true rfl) (fun _ => rfl) (fun _ M6 => ?_)
  refine r_aload_n F 0 dX6_file_9 rfl rfl ?_
  refine r_cV (val := vU) (As := []) (rest := []) (fun _ => []) F (c_X6_saveState F.st F.gg  M6) (fun _ _ => rfl) dX6_file_10 ml_X6_73 yv_X6_saveState (rfl : kd 0 = 0) (by decide) rfl rfl (by decide) rfl (Nat.le_of_ble_eq_true rfl) (fun _ => rfl) (fun _ M10 => ?_)
  refine r_aload_n F 0 dX6_file_13 rfl rfl ?_
  refine gf_X6_10 F dX6_file_14 (rfl : kd 0 = 0) ?_
  refine gf_X6_76 F dX6_file_17 (rfl : kd 34 = 1) ?_
  refine r_iload_n F 1 dX6_file_20 rfl rfl ?_
  refine r_chk (fun h1 => ?_)
  refine r_aaldT F dX6_file_21 (rfl : kd 35 = 9) h1 ?_
  refine r_br (kTw' (rfl : kd 35 = 9) h1) (fun b21 k21 => ?_)
  refine gf_X6_142 F dX6_file_22 k21 ?_
  refine r_iload_n F 2 dX6_file_25 rfl rfl ?_
  refine r_chk (fun h2 => ?_)
  refine r_iald F dX6_file_26 (kTw k21) (aTw k21) h2 ?_
  refine r_bi (fun x27 => ?_)
  refine r_istore_n (ls' := [(3, .int x27), (0, .ref (gA G 0)), (1, .int a1), (2, .int a2)]) F dX6_file_27 rfl (by decide) rfl ?_
  refine r_aload_n F 1 dX6_file_28 rfl rfl ?_
  refine gf_X6_10 F dX6_file_29 (rfl : kd 0 = 0) ?_
  refine gf_X6_76 F dX6_file_32 (rfl : kd 34 = 1) ?_
  refine r_iload_n F 2 dX6_file_35 rfl rfl ?_
  refine r_chk (fun h3 => ?_)
  refine r_aaldT F dX6_file_36 (rfl : kd 35 = 9) h3 ?_
  refine r_br (kTw' (rfl : kd 35 = 9) h3) (fun b36 k36 => ?_)
  refine gf_X6_142 F dX6_file_37 k36 ?_
  refine r_iload_n F 3 dX6_file_40 rfl rfl ?_
  refine r_iconst F dX6_file_41 (v := 0) (by decide) ?_
  refine r_chk (fun h4 => ?_)
  refine r_iast F dX6_file_42 (kTw k36) (aTw k36) h4 (fun M42 => ?_)
  refine r_iload_n F 0 dX6_file_43 rfl rfl ?_
  exact r_iret F rfl dX6_file_44 rfl

set_option maxRecDepth 100000 in
set_option maxHeartbeats 4000000 in
theorem c_X6_file {l : Launch} {G : GM} (hl : l.stackTraces = false) (hG : GG G) (a1 : Int32) (a2 : Int32) (M : Mem) : ∀ r, f_X6_file a1 a2 M = some r → Ctr l G yX6_file (.code yX6_file cX6_file 4 (some .int) :: wsA) 10 [.ref (gA G 0), .int a1, .int a2] M ((emT vI) r) :=
  ctr_of (by decide) hl hG (Nat.le_of_ble_eq_true rfl) (fun p e s m args below meth c F => b_X6_file F a1 a2 M)

-- ===== X6_firstError DrumTowns.firstError()I =====
theorem yv_X6_firstError : yV yX6_firstError cX6_firstError 1 (some .int) 0 := ⟨im_X6_firstError, sl_X6_firstError, ini_X6, cd_X6_firstError, ⟨by decide, by decide, by decide +kernel⟩, by decide⟩

def f_X6_firstError  (M : Mem) : Option (Int32 × Mem) := bn (f_X5_readAll M) fun r4 M4 => some (r4, M4)

set_option maxRecDepth 100000 in
set_option maxHeartbeats 4000000 in
theorem b_X6_firstError {G : GM} {p : Program} {l : Launch} {e : Env} {s : State} {m : MethodId} {args : Array Value} {below : List Frame} {meth : Method} {c : Code} (F : Fx G p l s m args meth c cX6_firstError RX6 1 (some .int))  (M : Mem) : Rf G p l e s m args below meth c 9 1 emI (f_X6_firstError  M) 0 [(0, .ref (gA G 0))] [] M := by
  unfold f_X6_firstError
  refine r_aload_n F 0 dX6_firstError_0 rfl rfl ?_
  refine gf_X6_23 F dX6_firstError_1 (rfl : kd 0 = 0) ?_
  refine r_cVN (val := vI) (As := []) (rest := []) (fun q9 => .int q9 :: []) F (c_X5_readAll F.st F.gg  M) (fun _ _ => rfl) dX6_firstError_4 mn_X6_195 yv_X5_readAll (rfl : kd 2 = 6) (by decide) rfl rfl (by decide) rfl (Nat.le_of_ble_eq_true rfl) (fun _ => rfl) (fun r4 M4 => ?_)
  exact r_iret F rfl dX6_firstError_7 rfl

set_option maxRecDepth 100000 in
set_option maxHeartbeats 4000000 in
theorem c_X6_firstError {l : Launch} {G : GM} (hl : l.stackTraces = false) (hG : GG G)  (M : Mem) : ∀ r, f_X6_firstError  M = some r → Ctr l G yX6_firstError (.code yX6_firstError cX6_firstError 1 (some .int) :: wsA) 9 [.ref (gA G 0)] M (emI r) :=
  ctr_of (by decide) hl hG (Nat.le_of_ble_eq_true rfl) (fun p e s m args below meth c F => b_X6_firstError F  M)

-- ===== X6_ifPlayed DrumTowns.ifPlayed(II)I =====
theorem yv_X6_ifPlayed : yV yX6_ifPlayed cX6_ifPlayed 3 (some .int) 2 := ⟨im_X6_ifPlayed, sl_X6_ifPlayed, ini_X6, cd_X6_ifPlayed, ⟨by decide, by decide, by decide +kernel⟩, by decide⟩

def f_X6_ifPlayed_14  (M : Mem) : Option ((Int32 ⊕ String) × Mem) := some (.inr exA, M)

set_option maxRecDepth 100000 in
set_option maxHeartbeats 4000000 in
theorem l_X6_ifPlayed_14 {G : GM} {p : Program} {l : Launch} {e : Env} {s : State} {m : MethodId} {args : Array Value} {below : List Frame} {meth : Method} {c : Code} (F : Fx G p l s m args meth c cX6_ifPlayed RX6 3 (some .int))  (M : Mem) : Rf G p l e s m args below meth c 10 3 (emT vI) (f_X6_ifPlayed_14   M) 14 [] [] M := by
  unfold f_X6_ifPlayed_14
  exact r_throwW F atA cl_X6_52 ini_IllegalArgumentException (by decide : (267, "what is not 0 to 4") ∈ strW) dX6_ifPlayed_14 dX6_ifPlayed_17 dX6_ifPlayed_18 dX6_ifPlayed_21 dX6_ifPlayed_24 (by decide) (Nat.le_of_ble_eq_true rfl)

def f_X6_ifPlayed (a1 : Int32) (a2 : Int32) (M : Mem) : Option ((Int32 ⊕ String) × Mem) := bt (f_X6_checkTown a1 M) fun _ M2 => if a2 < 0 then (f_X6_ifPlayed_14   M2) else (if a2 < (5 : Int32) then (bn (f_X6_foresee a1 M2) fun _ M27 => bn (f_X1_tell a2 M27) fun r35 M35 => some (.inl r35, M35)) else (f_X6_ifPlayed_14   M2))

set_option maxRecDepth 100000 in
set_option maxHeartbeats 4000000 in
theorem b_X6_ifPlayed {G : GM} {p : Program} {l : Launch} {e : Env} {s : State} {m : MethodId} {args : Array Value} {below : List Frame} {meth : Method} {c : Code} (F : Fx G p l s m args meth c cX6_ifPlayed RX6 3 (some .int)) (a1 : Int32) (a2 : Int32) (M : Mem) : Rf G p l e s m args below meth c 10 3 (emT vI) (f_X6_ifPlayed a1 a2 M) 0 [(0, .ref (gA G 0)), (1, .int a1), (2, .int a2)] [] M := by
  unfold f_X6_ifPlayed
  refine r_aload_n F 0 dX6_ifPlayed_0 rfl rfl ?_
  refine r_iload_n F 1 dX6_ifPlayed_1 rfl rfl ?_
  refine r_tV (val := vU) (As := [.int a1]) (rest := []) (fun _ => []) F (c_X6_checkTown F.st F.gg a1 M) dX6_ifPlayed_2 ml_X6_120 yv_X6_checkTown (rfl : kd 0 = 0) (by decide) rfl rfl (by decide) rfl (Nat.le_of_ble_eq_true rfl) (fun _ => rfl) (fun _ M2 => ?_)
  refine r_iload_n F 2 dX6_ifPlayed_5 rfl rfl ?_
  refine r_if_lt (tgt := 14) F dX6_ifPlayed_6 (by decide) (fun c1 => ?_) (fun c1 => ?_)
  · refine r_sub [] rfl ?_
    exact l_X6_ifPlayed_14 F    M2
  · refine r_iload_n F 2 dX6_ifPlayed_9 rfl rfl ?_
    refine r_iconst F dX6_ifPlayed_10 (v := 5) (by decide) ?_
    refine r_icmp_lt (tgt := 25) F dX6_ifPlayed_11 (by decide) (fun c2 => ?_) (fun c2 => ?_)
    · refine r_aload_n F 0 dX6_ifPlayed_25 rfl rfl ?_
      refine r_iload_n F 1 dX6_ifPlayed_26 rfl rfl ?_
      refine r_cV (val := vU) (As := [.int a1]) (rest := []) (fun _ => []) F (c_X6_foresee F.st F.gg a1 M2) (fun _ _ => rfl) dX6_ifPlayed_27 ml_X6_145 yv_X6_foresee (rfl : kd 0 = 0) (by decide) rfl rfl (by decide) rfl (Nat.le_of_ble_eq_true rfl) (fun _ => rfl) (fun _ M27 => ?_)
      refine r_aload_n F 0 dX6_ifPlayed_30 rfl rfl ?_
      refine gf_X6_30 F dX6_ifPlayed_31 (rfl : kd 0 = 0) ?_
      refine r_iload_n F 2 dX6_ifPlayed_34 rfl rfl ?_
      refine r_cVN (val := vI) (As := [.int a2]) (rest := []) (fun q9 => .int q9 :: []) F (c_X1_tell F.st F.gg a2 M27) (fun _ _ => rfl) dX6_ifPlayed_35 mn_X6_269 yv_X1_tell (rfl : kd 5 = 3) (by decide) rfl rfl (by decide) rfl (Nat.le_of_ble_eq_true rfl) (fun _ => rfl) (fun r35 M35 => ?_)
      exact r_iret F rfl dX6_ifPlayed_38 rfl
    · refine r_sub [] rfl ?_
      exact l_X6_ifPlayed_14 F    M2

set_option maxRecDepth 100000 in
set_option maxHeartbeats 4000000 in
theorem c_X6_ifPlayed {l : Launch} {G : GM} (hl : l.stackTraces = false) (hG : GG G) (a1 : Int32) (a2 : Int32) (M : Mem) : ∀ r, f_X6_ifPlayed a1 a2 M = some r → Ctr l G yX6_ifPlayed (.code yX6_ifPlayed cX6_ifPlayed 3 (some .int) :: wsA) 10 [.ref (gA G 0), .int a1, .int a2] M ((emT vI) r) :=
  ctr_of (by decide) hl hG (Nat.le_of_ble_eq_true rfl) (fun p e s m args below meth c F => b_X6_ifPlayed F a1 a2 M)

-- ===== X6_learn DrumTowns.learn(I)I =====
theorem yv_X6_learn : yV yX6_learn cX6_learn 3 (some .int) 1 := ⟨im_X6_learn, sl_X6_learn, ini_X6, cd_X6_learn, ⟨by decide, by decide, by decide +kernel⟩, by decide⟩

def f_X6_learn_32  (M : Mem) : Option ((Int32 ⊕ String) × Mem) := some (.inr exA, M)

set_option maxRecDepth 100000 in
set_option maxHeartbeats 4000000 in
theorem l_X6_learn_32 {G : GM} {p : Program} {l : Launch} {e : Env} {s : State} {m : MethodId} {args : Array Value} {below : List Frame} {meth : Method} {c : Code} (F : Fx G p l s m args meth c cX6_learn RX6 3 (some .int))  (M : Mem) : Rf G p l e s m args below meth c 10 3 (emT vI) (f_X6_learn_32   M) 32 [] [] M := by
  unfold f_X6_learn_32
  exact r_throw F atA cl_X6_52 ini_IllegalArgumentException (by decide : (202, "the buffer is not a complete tune") ∈ strW) dX6_learn_32 dX6_learn_35 dX6_learn_36 dX6_learn_38 dX6_learn_41 (by decide) (Nat.le_of_ble_eq_true rfl)

def f_X6_learn (a1 : Int32) (M : Mem) : Option ((Int32 ⊕ String) × Mem) := bt (f_X6_checkTown a1 M) fun _ M2 => bn (f_X5_readAll M2) fun r9 M9 => if r9 < (M9.1 2 1) then (f_X6_learn_32   M9) else (bn (f_X5_isComplete M9) fun r26 M26 => if r26 = 0 then (f_X6_learn_32   M26) else (bn (f_X6_saveState M26) fun _ M43 => chk (inb a1 6) <| bnd (tw 35 a1) fun b54 => bn (f_X6_copyRow 4 (b54 + 2) M43) fun _ M67 => bnd (mw M67 2 1 (0 : Int32)) fun M75 => bn (f_X6_sizeOf (b54 + 2) M75) fun r82 M82 => some (.inl r82, M82)))

set_option maxRecDepth 100000 in
set_option maxHeartbeats 4000000 in
theorem b_X6_learn {G : GM} {p : Program} {l : Launch} {e : Env} {s : State} {m : MethodId} {args : Array Value} {below : List Frame} {meth : Method} {c : Code} (F : Fx G p l s m args meth c cX6_learn RX6 3 (some .int)) (a1 : Int32) (M : Mem) : Rf G p l e s m args below meth c 10 3 (emT vI) (f_X6_learn a1 M) 0 [(0, .ref (gA G 0)), (1, .int a1)] [] M := by
  unfold f_X6_learn
  refine r_aload_n F 0 dX6_learn_0 rfl rfl ?_
  refine r_iload_n F 1 dX6_learn_1 rfl rfl ?_
  refine r_tV (val := vU) (As := [.int a1]) (rest := []) (fun _ => []) F (c_X6_checkTown F.st F.gg a1 M) dX6_learn_2 ml_X6_120 yv_X6_checkTown (rfl : kd 0 = 0) (by decide) rfl rfl (by decide) rfl (Nat.le_of_ble_eq_true rfl) (fun _ => rfl) (fun _ M2 => ?_)
  refine r_aload_n F 0 dX6_learn_5 rfl rfl ?_
  refine gf_X6_23 F dX6_learn_6 (rfl : kd 0 = 0) ?_
  refine r_cVN (val := vI) (As := []) (rest := []) (fun q9 => .int q9 :: []) F (c_X5_readAll F.st F.gg  M2) (fun _ _ => rfl) dX6_learn_9 mn_X6_195 yv_X5_readAll (rfl : kd 2 = 6) (by decide) rfl rfl (by decide) rfl (Nat.le_of_ble_eq_true rfl) (fun _ => rfl) (fun r9 M9 => ?_)
  refine r_aload_n F 0 dX6_learn_12 rfl rfl ?_
  refine gf_X6_23 F dX6_learn_13 (rfl : kd 0 = 0) ?_
  refine gf_X6_189 F dX6_learn_16 (rfl : kd 2 = 6) ?_
  refine r_icmp_lt (tgt := 32) F dX6_learn_19 (by decide) (fun c1 => ?_) (fun c1 => ?_)
  · refine r_sub [] rfl ?_
    exact l_X6_learn_32 F    M9
  · refine r_aload_n F 0 dX6_learn_22 rfl rfl ?_
    refine gf_X6_23 F dX6_learn_23 (rfl : kd 0 = 0) ?_
    refine r_cVN (val := vI) (As := []) (rest := []) (fun q9 => .int q9 :: []) F (c_X5_isComplete F.st F.gg  M9) (fun _ _ => rfl) dX6_learn_26 mn_X6_198 yv_X5_isComplete (rfl : kd 2 = 6) (by decide) rfl rfl (by decide) rfl (Nat.le_of_ble_eq_true rfl) (fun _ => rfl) (fun r26 M26 => ?_)
    refine r_if_ne (tgt := 42) F dX6_learn_29 (by decide) (fun c2 => ?_) (fun c2 => ?_)
    · refine r_sub [] rfl ?_
      exact l_X6_learn_32 F    M26
    · refine r_aload_n F 0 dX6_learn_42 rfl rfl ?_
      refine r_cV (val := vU) (As := []) (rest := []) (fun _ => []) F (c_X6_saveState F.st F.gg  M26) (fun _ _ => rfl) dX6_learn_43 ml_X6_73 yv_X6_saveState (rfl : kd 0 = 0) (by decide) rfl rfl (by decide) rfl (Nat.le_of_ble_eq_true rfl) (fun _ => rfl) (fun _ M43 => ?_)
      refine r_aload_n F 0 dX6_learn_46 rfl rfl ?_
      refine gf_X6_10 F dX6_learn_47 (rfl : kd 0 = 0) ?_
      refine gf_X6_76 F dX6_learn_50 (rfl : kd 34 = 1) ?_
      refine r_iload_n F 1 dX6_learn_53 rfl rfl ?_
      refine r_chk (fun h3 => ?_)
      refine r_aaldT F dX6_learn_54 (rfl : kd 35 = 9) h3 ?_
      refine r_br (kTw' (rfl : kd 35 = 9) h3) (fun b54 k54 => ?_)
      refine r_astore_n (ls' := [(2, .ref (gA G b54)), (0, .ref (gA G 0)), (1, .int a1)]) F dX6_learn_55 rfl (by decide) rfl ?_
      refine r_aload_n F 1 dX6_learn_56 rfl rfl ?_
      refine gf_X6_23 F dX6_learn_57 (rfl : kd 0 = 0) ?_
      refine gf_X6_204 F dX6_learn_60 (rfl : kd 2 = 6) ?_
      refine r_aload_n F 0 dX6_learn_63 rfl rfl ?_
      refine gf_X6_207 F dX6_learn_64 k54 ?_
      refine r_cS (val := vU) (As := [.ref (gA G 4), .ref (gA G (b54 + 2))]) (rest := []) (fun _ => []) F (c_X6_copyRow F.st F.gg 4 (b54 + 2) M43) (fun _ _ => rfl) dX6_learn_67 ml_X6_135 ys_X6_copyRow rfl (by decide) rfl (Nat.le_of_ble_eq_true rfl) (fun _ => rfl) (fun _ M67 => ?_)
      refine r_aload_n F 1 dX6_learn_70 rfl rfl ?_
      refine gf_X6_23 F dX6_learn_71 (rfl : kd 0 = 0) ?_
      refine r_iconst F dX6_learn_74 (v := 0) (by decide) ?_
      refine pf_X6_189 F dX6_learn_75 (rfl : kd 2 = 6) (fun M75 => ?_)
      refine r_aload_n F 0 dX6_learn_78 rfl rfl ?_
      refine gf_X6_207 F dX6_learn_79 k54 ?_
      refine r_cS (val := vI) (As := [.ref (gA G (b54 + 2))]) (rest := []) (fun q9 => .int q9 :: []) F (c_X6_sizeOf F.st F.gg (b54 + 2) M75) (fun _ _ => rfl) dX6_learn_82 ml_X6_112 ys_X6_sizeOf rfl (by decide) rfl (Nat.le_of_ble_eq_true rfl) (fun _ => rfl) (fun r82 M82 => ?_)
      exact r_iret F rfl dX6_learn_85 rfl

set_option maxRecDepth 100000 in
set_option maxHeartbeats 4000000 in
theorem c_X6_learn {l : Launch} {G : GM} (hl : l.stackTraces = false) (hG : GG G) (a1 : Int32) (M : Mem) : ∀ r, f_X6_learn a1 M = some r → Ctr l G yX6_learn (.code yX6_learn cX6_learn 3 (some .int) :: wsA) 10 [.ref (gA G 0), .int a1] M ((emT vI) r) :=
  ctr_of (by decide) hl hG (Nat.le_of_ble_eq_true rfl) (fun p e s m args below meth c F => b_X6_learn F a1 M)

-- ===== X6_lend DrumTowns.lend(III)I =====
theorem yv_X6_lend : yV yX6_lend cX6_lend 4 (some .int) 3 := ⟨im_X6_lend, sl_X6_lend, ini_X6, cd_X6_lend, ⟨by decide, by decide, by decide +kernel⟩, by decide⟩

def f_X6_lend (a1 : Int32) (a2 : Int32) (a3 : Int32) (M : Mem) : Option ((Int32 ⊕ String) × Mem) := bt (f_X6_checkTown a1 M) fun _ M2 => bt (f_X6_checkTown a2 M2) fun _ M7 => bt (f_X6_checkDifferent a1 a2 M7) fun _ M12 => bt (f_X6_checkGiven a3 M12) fun _ M16 => bt (f_X6_checkBoxes a1 a2 a3 M16) fun _ M23 => bn (f_X6_saveState M23) fun _ M27 => bn (f_X0_carry 34 a1 a2 a3 M27) fun _ M37 => chk (inb a2 6) <| bnd (rw' 37 a2) fun b48 => chk (inb a1 6) <| chk (inb a1 6) <| bnd (mw M37 b48 a1.toNatClampNeg ((M37.1 b48 a1.toNatClampNeg) + a3)) fun M54 => bnd (mw M54 34 4 ((M54.1 34 4) + a3)) fun M65 => chk (inb a2 6) <| bnd (rw' 37 a2) fun b76 => chk (inb a1 6) <| some (.inl (M65.1 b76 a1.toNatClampNeg), M65)

set_option maxRecDepth 100000 in
set_option maxHeartbeats 4000000 in
theorem b_X6_lend {G : GM} {p : Program} {l : Launch} {e : Env} {s : State} {m : MethodId} {args : Array Value} {below : List Frame} {meth : Method} {c : Code} (F : Fx G p l s m args meth c cX6_lend RX6 4 (some .int)) (a1 : Int32) (a2 : Int32) (a3 : Int32) (M : Mem) : Rf G p l e s m args below meth c 10 4 (emT vI) (f_X6_lend a1 a2 a3 M) 0 [(0, .ref (gA G 0)), (1, .int a1), (2, .int a2), (3, .int a3)] [] M := by
  unfold f_X6_lend
  refine r_aload_n F 0 dX6_lend_0 rfl rfl ?_
  refine r_iload_n F 1 dX6_lend_1 rfl rfl ?_
  refine r_tV (val := vU) (As := [.int a1]) (rest := []) (fun _ => []) F (c_X6_checkTown F.st F.gg a1 M) dX6_lend_2 ml_X6_120 yv_X6_checkTown (rfl : kd 0 = 0) (by decide) rfl rfl (by decide) rfl (Nat.le_of_ble_eq_true rfl) (fun _ => rfl) (fun _ M2 => ?_)
  refine r_aload_n F 0 dX6_lend_5 rfl rfl ?_
  refine r_iload_n F 2 dX6_lend_6 rfl rfl ?_
  refine r_tV (val := vU) (As := [.int a2]) (rest := []) (fun _ => []) F (c_X6_checkTown F.st F.gg a2 M2) dX6_lend_7 ml_X6_120 yv_X6_checkTown (rfl : kd 0 = 0) (by decide) rfl rfl (by decide) rfl (Nat.le_of_ble_eq_true rfl) (fun _ => rfl) (fun _ M7 => ?_)
  refine r_iload_n F 1 dX6_lend_10 rfl rfl ?_
  refine r_iload_n F 2 dX6_lend_11 rfl rfl ?_
  refine r_tS (val := vU) (As := [.int a1, .int a2]) (rest := []) (fun _ => []) F (c_X6_checkDifferent F.st F.gg a1 a2 M7) dX6_lend_12 ml_X6_123 ys_X6_checkDifferent rfl (by decide) rfl (Nat.le_of_ble_eq_true rfl) (fun _ => rfl) (fun _ M12 => ?_)
  refine r_iload_n F 3 dX6_lend_15 rfl rfl ?_
  refine r_tS (val := vU) (As := [.int a3]) (rest := []) (fun _ => []) F (c_X6_checkGiven F.st F.gg a3 M12) dX6_lend_16 ml_X6_155 ys_X6_checkGiven rfl (by decide) rfl (Nat.le_of_ble_eq_true rfl) (fun _ => rfl) (fun _ M16 => ?_)
  refine r_aload_n F 0 dX6_lend_19 rfl rfl ?_
  refine r_iload_n F 1 dX6_lend_20 rfl rfl ?_
  refine r_iload_n F 2 dX6_lend_21 rfl rfl ?_
  refine r_iload_n F 3 dX6_lend_22 rfl rfl ?_
  refine r_tV (val := vU) (As := [.int a1, .int a2, .int a3]) (rest := []) (fun _ => []) F (c_X6_checkBoxes F.st F.gg a1 a2 a3 M16) dX6_lend_23 ml_X6_158 yv_X6_checkBoxes (rfl : kd 0 = 0) (by decide) rfl rfl (by decide) rfl (Nat.le_of_ble_eq_true rfl) (fun _ => rfl) (fun _ M23 => ?_)
  refine r_aload_n F 0 dX6_lend_26 rfl rfl ?_
  refine r_cV (val := vU) (As := []) (rest := []) (fun _ => []) F (c_X6_saveState F.st F.gg  M23) (fun _ _ => rfl) dX6_lend_27 ml_X6_73 yv_X6_saveState (rfl : kd 0 = 0) (by decide) rfl rfl (by decide) rfl (Nat.le_of_ble_eq_true rfl) (fun _ => rfl) (fun _ M27 => ?_)
  refine r_aload_n F 0 dX6_lend_30 rfl rfl ?_
  refine gf_X6_10 F dX6_lend_31 (rfl : kd 0 = 0) ?_
  refine r_iload_n F 1 dX6_lend_34 rfl rfl ?_
  refine r_iload_n F 2 dX6_lend_35 rfl rfl ?_
  refine r_iload_n F 3 dX6_lend_36 rfl rfl ?_
  refine r_cVN (val := vU) (As := [.int a1, .int a2, .int a3]) (rest := []) (fun _ => []) F (c_X0_carry F.st F.gg 34 a1 a2 a3 M27) (fun _ _ => rfl) dX6_lend_37 mn_X6_161 yv_X0_carry (rfl : kd 34 = 1) (by decide) rfl rfl (by decide) rfl (Nat.le_of_ble_eq_true rfl) (fun _ => rfl) (fun _ M37 => ?_)
  refine r_aload_n F 0 dX6_lend_40 rfl rfl ?_
  refine gf_X6_10 F dX6_lend_41 (rfl : kd 0 = 0) ?_
  refine gf_X6_164 F dX6_lend_44 (rfl : kd 34 = 1) ?_
  refine r_iload_n F 2 dX6_lend_47 rfl rfl ?_
  refine r_chk (fun h1 => ?_)
  refine r_aaldR F dX6_lend_48 (rfl : kd 37 = 11) h1 ?_
  refine r_bra (kRw (rfl : kd 37 = 11) h1) (aRw (rfl : kd 37 = 11) h1) (fun b48 k48 k48a => ?_)
  refine r_iload_n F 1 dX6_lend_49 rfl rfl ?_
  refine r_dup2 F dX6_lend_50 rfl rfl ?_
  refine r_chk (fun h2 => ?_)
  refine r_iald F dX6_lend_51 k48 k48a h2 ?_
  refine r_iload_n F 3 dX6_lend_52 rfl rfl ?_
  refine r_iadd F dX6_lend_53 ?_
  refine r_chk (fun h3 => ?_)
  refine r_iast F dX6_lend_54 k48 k48a h3 (fun M54 => ?_)
  refine r_aload_n F 0 dX6_lend_55 rfl rfl ?_
  refine gf_X6_10 F dX6_lend_56 (rfl : kd 0 = 0) ?_
  refine r_dup F dX6_lend_59 rfl ?_
  refine gf_X6_168 F dX6_lend_60 (rfl : kd 34 = 1) ?_
  refine r_iload_n F 3 dX6_lend_63 rfl rfl ?_
  refine r_iadd F dX6_lend_64 ?_
  refine pf_X6_168 F dX6_lend_65 (rfl : kd 34 = 1) (fun M65 => ?_)
  refine r_aload_n F 0 dX6_lend_68 rfl rfl ?_
  refine gf_X6_10 F dX6_lend_69 (rfl : kd 0 = 0) ?_
  refine gf_X6_164 F dX6_lend_72 (rfl : kd 34 = 1) ?_
  refine r_iload_n F 2 dX6_lend_75 rfl rfl ?_
  refine r_chk (fun h4 => ?_)
  refine r_aaldR F dX6_lend_76 (rfl : kd 37 = 11) h4 ?_
  refine r_bra (kRw (rfl : kd 37 = 11) h4) (aRw (rfl : kd 37 = 11) h4) (fun b76 k76 k76a => ?_)
  refine r_iload_n F 1 dX6_lend_77 rfl rfl ?_
  refine r_chk (fun h5 => ?_)
  refine r_iald F dX6_lend_78 k76 k76a h5 ?_
  exact r_iret F rfl dX6_lend_79 rfl

set_option maxRecDepth 100000 in
set_option maxHeartbeats 4000000 in
theorem c_X6_lend {l : Launch} {G : GM} (hl : l.stackTraces = false) (hG : GG G) (a1 : Int32) (a2 : Int32) (a3 : Int32) (M : Mem) : ∀ r, f_X6_lend a1 a2 a3 M = some r → Ctr l G yX6_lend (.code yX6_lend cX6_lend 4 (some .int) :: wsA) 10 [.ref (gA G 0), .int a1, .int a2, .int a3] M ((emT vI) r) :=
  ctr_of (by decide) hl hG (Nat.le_of_ble_eq_true rfl) (fun p e s m args below meth c F => b_X6_lend F a1 a2 a3 M)

-- ===== X6_move DrumTowns.move(IIII)I =====
theorem yv_X6_move : yV yX6_move cX6_move 7 (some .int) 4 := ⟨im_X6_move, sl_X6_move, ini_X6, cd_X6_move, ⟨by decide, by decide, by decide +kernel⟩, by decide⟩

def f_X6_move (a1 : Int32) (a2 : Int32) (a3 : Int32) (a4 : Int32) (M : Mem) : Option ((Int32 ⊕ String) × Mem) := bt (f_X6_checkPlace a1 a3 a4 M) fun _ M5 => bt (f_X6_checkTown a2 M5) fun _ M10 => bt (f_X6_checkDifferent a1 a2 M10) fun _ M15 => chk (inb a1 6) <| bnd (tw 35 a1) fun b26 => chk (inb a2 6) <| bnd (tw 35 a2) fun b37 => bn (f_X3_hasPin b26 a3 a4 M15) fun r45 M45 => if r45 = 0 then (some (.inr exS, M45)) else (bn (f_X3_hasPin b37 a3 a4 M45) fun r66 M66 => if r66 = 0 then (bn (f_X6_saveState M66) fun _ M83 => chk (inb a3 24) <| chk (inb a3 24) <| bnd (mw M83 (b26 + 1) a3.toNatClampNeg ((M83.1 (b26 + 1) a3.toNatClampNeg) &&& (((1 : Int32) <<< (a4 &&& 31)) ^^^ (-1 : Int32)))) fun M101 => chk (inb a3 24) <| chk (inb a3 24) <| bnd (mw M101 (b37 + 1) a3.toNatClampNeg ((M101.1 (b37 + 1) a3.toNatClampNeg) ||| ((1 : Int32) <<< (a4 &&& 31)))) fun M115 => bn (f_X6_sizeOf (b37 + 1) M115) fun r121 M121 => some (.inl r121, M121)) else (some (.inr exS, M66)))

set_option maxRecDepth 100000 in
set_option maxHeartbeats 4000000 in
theorem b_X6_move {G : GM} {p : Program} {l : Launch} {e : Env} {s : State} {m : MethodId} {args : Array Value} {below : List Frame} {meth : Method} {c : Code} (F : Fx G p l s m args meth c cX6_move RX6 7 (some .int)) (a1 : Int32) (a2 : Int32) (a3 : Int32) (a4 : Int32) (M : Mem) : Rf G p l e s m args below meth c 10 7 (emT vI) (f_X6_move a1 a2 a3 a4 M) 0 [(0, .ref (gA G 0)), (1, .int a1), (2, .int a2), (3, .int a3), (4, .int a4)] [] M := by
  unfold f_X6_move
  refine r_aload_n F 0 dX6_move_0 rfl rfl ?_
  refine r_iload_n F 1 dX6_move_1 rfl rfl ?_
  refine r_iload_n F 3 dX6_move_2 rfl rfl ?_
  refine r_iload F 4 dX6_move_3 rfl ?_
  refine r_tV (val := vU) (As := [.int a1, .int a3, .int a4]) (rest := []) (fun _ => []) F (c_X6_checkPlace F.st F.gg a1 a3 a4 M) dX6_move_5 ml_X6_97 yv_X6_checkPlace (rfl : kd 0 = 0) (by decide) rfl rfl (by decide) rfl (Nat.le_of_ble_eq_true rfl) (fun _ => rfl) (fun _ M5 => ?_)
  refine r_aload_n F 0 dX6_move_8 rfl rfl ?_
  refine r_iload_n F 2 dX6_move_9 rfl rfl ?_
  refine r_tV (val := vU) (As := [.int a2]) (rest := []) (fun _ => []) F (c_X6_checkTown F.st F.gg a2 M5) dX6_move_10 ml_X6_120 yv_X6_checkTown (rfl : kd 0 = 0) (by decide) rfl rfl (by decide) rfl (Nat.le_of_ble_eq_true rfl) (fun _ => rfl) (fun _ M10 => ?_)
  refine r_iload_n F 1 dX6_move_13 rfl rfl ?_
  refine r_iload_n F 2 dX6_move_14 rfl rfl ?_
  refine r_tS (val := vU) (As := [.int a1, .int a2]) (rest := []) (fun _ => []) F (c_X6_checkDifferent F.st F.gg a1 a2 M10) dX6_move_15 ml_X6_123 ys_X6_checkDifferent rfl (by decide) rfl (Nat.le_of_ble_eq_true rfl) (fun _ => rfl) (fun _ M15 => ?_)
  refine r_aload_n F 0 dX6_move_18 rfl rfl ?_
  refine gf_X6_10 F dX6_move_19 (rfl : kd 0 = 0) ?_
  refine gf_X6_76 F dX6_move_22 (rfl : kd 34 = 1) ?_
  refine r_iload_n F 1 dX6_move_25 rfl rfl ?_
  refine r_chk (fun h1 => ?_)
  refine r_aaldT F dX6_move_26 (rfl : kd 35 = 9) h1 ?_
  refine r_br (kTw' (rfl : kd 35 = 9) h1) (fun b26 k26 => ?_)
  refine r_astore (ls' := [(5, .ref (gA G b26)), (0, .ref (gA G 0)), (1, .int a1), (2, .int a2), (3, .int a3), (4, .int a4)]) F dX6_move_27 (by decide) rfl ?_
  refine r_aload_n F 1 dX6_move_29 rfl rfl ?_
  refine gf_X6_10 F dX6_move_30 (rfl : kd 0 = 0) ?_
  refine gf_X6_76 F dX6_move_33 (rfl : kd 34 = 1) ?_
  refine r_iload_n F 3 dX6_move_36 rfl rfl ?_
  refine r_chk (fun h2 => ?_)
  refine r_aaldT F dX6_move_37 (rfl : kd 35 = 9) h2 ?_
  refine r_br (kTw' (rfl : kd 35 = 9) h2) (fun b37 k37 => ?_)
  refine r_astore (ls' := [(6, .ref (gA G b37)), (5, .ref (gA G b26)), (0, .ref (gA G 0)), (1, .int a1), (2, .int a2), (3, .int a3), (4, .int a4)]) F dX6_move_38 (by decide) rfl ?_
  refine r_aload F 1 dX6_move_40 rfl ?_
  refine r_iload_n F 5 dX6_move_42 rfl rfl ?_
  refine r_iload F 6 dX6_move_43 rfl ?_
  refine r_cVN (val := vI) (As := [.int a3, .int a4]) (rest := []) (fun q9 => .int q9 :: []) F (c_X3_hasPin F.st F.gg b26 a3 a4 M15) (fun _ _ => rfl) dX6_move_45 mn_X6_101 yv_X3_hasPin k26 (by decide) rfl rfl (by decide) rfl (Nat.le_of_ble_eq_true rfl) (fun _ => rfl) (fun r45 M45 => ?_)
  refine r_if_ne (tgt := 61) F dX6_move_48 (by decide) (fun c3 => ?_) (fun c3 => ?_)
  · exact r_throw F atS cl_X6_63 ini_IllegalStateException (by decide : (116, "there is no pin") ∈ strW) dX6_move_51 dX6_move_54 dX6_move_55 dX6_move_57 dX6_move_60 (by decide) (Nat.le_of_ble_eq_true rfl)
  · refine r_aload F 0 dX6_move_61 rfl ?_
    refine r_iload_n F 5 dX6_move_63 rfl rfl ?_
    refine r_iload F 6 dX6_move_64 rfl ?_
    refine r_cVN (val := vI) (As := [.int a3, .int a4]) (rest := []) (fun q9 => .int q9 :: []) F (c_X3_hasPin F.st F.gg b37 a3 a4 M45) (fun _ _ => rfl) dX6_move_66 mn_X6_101 yv_X3_hasPin k37 (by decide) rfl rfl (by decide) rfl (Nat.le_of_ble_eq_true rfl) (fun _ => rfl) (fun r66 M66 => ?_)
    refine r_if_eq (tgt := 82) F dX6_move_69 (by decide) (fun c4 => ?_) (fun c4 => ?_)
    · refine r_aload_n F 2 dX6_move_82 rfl rfl ?_
      refine r_cV (val := vU) (As := []) (rest := []) (fun _ => []) F (c_X6_saveState F.st F.gg  M66) (fun _ _ => rfl) dX6_move_83 ml_X6_73 yv_X6_saveState (rfl : kd 0 = 0) (by decide) rfl rfl (by decide) rfl (Nat.le_of_ble_eq_true rfl) (fun _ => rfl) (fun _ M83 => ?_)
      refine r_aload F 1 dX6_move_86 rfl ?_
      refine gf_X6_109 F dX6_move_88 k26 ?_
      refine r_iload_n F 5 dX6_move_91 rfl rfl ?_
      refine r_dup2 F dX6_move_92 rfl rfl ?_
      refine r_chk (fun h5 => ?_)
      refine r_iald F dX6_move_93 (kTd k26) (aTd k26) h5 ?_
      refine r_iconst F dX6_move_94 (v := 1) (by decide) ?_
      refine r_iload F 6 dX6_move_95 rfl ?_
      refine r_ishl F dX6_move_97 ?_
      refine r_iconst F dX6_move_98 (v := -1) (by decide) ?_
      refine r_ixor F dX6_move_99 ?_
      refine r_iand F dX6_move_100 ?_
      refine r_chk (fun h6 => ?_)
      refine r_iast F dX6_move_101 (kTd k26) (aTd k26) h6 (fun M101 => ?_)
      refine r_aload F 0 dX6_move_102 rfl ?_
      refine gf_X6_109 F dX6_move_104 k37 ?_
      refine r_iload_n F 5 dX6_move_107 rfl rfl ?_
      refine r_dup2 F dX6_move_108 rfl rfl ?_
      refine r_chk (fun h7 => ?_)
      refine r_iald F dX6_move_109 (kTd k37) (aTd k37) h7 ?_
      refine r_iconst F dX6_move_110 (v := 1) (by decide) ?_
      refine r_iload F 6 dX6_move_111 rfl ?_
      refine r_ishl F dX6_move_113 ?_
      refine r_ior F dX6_move_114 ?_
      refine r_chk (fun h8 => ?_)
      refine r_iast F dX6_move_115 (kTd k37) (aTd k37) h8 (fun M115 => ?_)
      refine r_aload F 0 dX6_move_116 rfl ?_
      refine gf_X6_109 F dX6_move_118 k37 ?_
      refine r_cS (val := vI) (As := [.ref (gA G (b37 + 1))]) (rest := []) (fun q9 => .int q9 :: []) F (c_X6_sizeOf F.st F.gg (b37 + 1) M115) (fun _ _ => rfl) dX6_move_121 ml_X6_112 ys_X6_sizeOf rfl (by decide) rfl (Nat.le_of_ble_eq_true rfl) (fun _ => rfl) (fun r121 M121 => ?_)
      exact r_iret F rfl dX6_move_124 rfl
    · exact r_throw F atS cl_X6_63 ini_IllegalStateException (by decide : (127, "there is a pin in the other drum") ∈ strW) dX6_move_72 dX6_move_75 dX6_move_76 dX6_move_78 dX6_move_81 (by decide) (Nat.le_of_ble_eq_true rfl)

set_option maxRecDepth 100000 in
set_option maxHeartbeats 4000000 in
theorem c_X6_move {l : Launch} {G : GM} (hl : l.stackTraces = false) (hG : GG G) (a1 : Int32) (a2 : Int32) (a3 : Int32) (a4 : Int32) (M : Mem) : ∀ r, f_X6_move a1 a2 a3 a4 M = some r → Ctr l G yX6_move (.code yX6_move cX6_move 7 (some .int) :: wsA) 10 [.ref (gA G 0), .int a1, .int a2, .int a3, .int a4] M ((emT vI) r) :=
  ctr_of (by decide) hl hG (Nat.le_of_ble_eq_true rfl) (fun p e s m args below meth c F => b_X6_move F a1 a2 a3 a4 M)

-- ===== X6_play DrumTowns.play(I)I =====
theorem yv_X6_play : yV yX6_play cX6_play 2 (some .int) 1 := ⟨im_X6_play, sl_X6_play, ini_X6, cd_X6_play, ⟨by decide, by decide, by decide +kernel⟩, by decide⟩

def f_X6_play (a1 : Int32) (M : Mem) : Option ((Int32 ⊕ String) × Mem) := bt (f_X6_checkTown a1 M) fun _ M2 => bn (f_X6_saveState M2) fun _ M6 => bn (f_X6_foresee a1 M6) fun _ M11 => chk (inb a1 6) <| bnd (tw 35 a1) fun b22 => bn (f_X3_takeOver b22 M11) fun _ M27 => some (.inl (M27.1 5 6), M27)

set_option maxRecDepth 100000 in
set_option maxHeartbeats 4000000 in
theorem b_X6_play {G : GM} {p : Program} {l : Launch} {e : Env} {s : State} {m : MethodId} {args : Array Value} {below : List Frame} {meth : Method} {c : Code} (F : Fx G p l s m args meth c cX6_play RX6 2 (some .int)) (a1 : Int32) (M : Mem) : Rf G p l e s m args below meth c 10 2 (emT vI) (f_X6_play a1 M) 0 [(0, .ref (gA G 0)), (1, .int a1)] [] M := by
  unfold f_X6_play
  refine r_aload_n F 0 dX6_play_0 rfl rfl ?_
  refine r_iload_n F 1 dX6_play_1 rfl rfl ?_
  refine r_tV (val := vU) (As := [.int a1]) (rest := []) (fun _ => []) F (c_X6_checkTown F.st F.gg a1 M) dX6_play_2 ml_X6_120 yv_X6_checkTown (rfl : kd 0 = 0) (by decide) rfl rfl (by decide) rfl (Nat.le_of_ble_eq_true rfl) (fun _ => rfl) (fun _ M2 => ?_)
  refine r_aload_n F 0 dX6_play_5 rfl rfl ?_
  refine r_cV (val := vU) (As := []) (rest := []) (fun _ => []) F (c_X6_saveState F.st F.gg  M2) (fun _ _ => rfl) dX6_play_6 ml_X6_73 yv_X6_saveState (rfl : kd 0 = 0) (by decide) rfl rfl (by decide) rfl (Nat.le_of_ble_eq_true rfl) (fun _ => rfl) (fun _ M6 => ?_)
  refine r_aload_n F 0 dX6_play_9 rfl rfl ?_
  refine r_iload_n F 1 dX6_play_10 rfl rfl ?_
  refine r_cV (val := vU) (As := [.int a1]) (rest := []) (fun _ => []) F (c_X6_foresee F.st F.gg a1 M6) (fun _ _ => rfl) dX6_play_11 ml_X6_145 yv_X6_foresee (rfl : kd 0 = 0) (by decide) rfl rfl (by decide) rfl (Nat.le_of_ble_eq_true rfl) (fun _ => rfl) (fun _ M11 => ?_)
  refine r_aload_n F 0 dX6_play_14 rfl rfl ?_
  refine gf_X6_10 F dX6_play_15 (rfl : kd 0 = 0) ?_
  refine gf_X6_76 F dX6_play_18 (rfl : kd 34 = 1) ?_
  refine r_iload_n F 1 dX6_play_21 rfl rfl ?_
  refine r_chk (fun h1 => ?_)
  refine r_aaldT F dX6_play_22 (rfl : kd 35 = 9) h1 ?_
  refine r_br (kTw' (rfl : kd 35 = 9) h1) (fun b22 k22 => ?_)
  refine r_aload_n F 0 dX6_play_23 rfl rfl ?_
  refine gf_X6_30 F dX6_play_24 (rfl : kd 0 = 0) ?_
  refine r_cVN (val := vU) (As := [.ref (gA G 5)]) (rest := []) (fun _ => []) F (c_X3_takeOver F.st F.gg b22 M11) (fun _ _ => rfl) dX6_play_27 mn_X6_148 yv_X3_takeOver k22 (by decide) rfl rfl (by decide) rfl (Nat.le_of_ble_eq_true rfl) (fun _ => rfl) (fun _ M27 => ?_)
  refine r_aload_n F 0 dX6_play_30 rfl rfl ?_
  refine gf_X6_30 F dX6_play_31 (rfl : kd 0 = 0) ?_
  refine gf_X6_152 F dX6_play_34 (rfl : kd 5 = 3) ?_
  exact r_iret F rfl dX6_play_37 rfl

set_option maxRecDepth 100000 in
set_option maxHeartbeats 4000000 in
theorem c_X6_play {l : Launch} {G : GM} (hl : l.stackTraces = false) (hG : GG G) (a1 : Int32) (M : Mem) : ∀ r, f_X6_play a1 M = some r → Ctr l G yX6_play (.code yX6_play cX6_play 2 (some .int) :: wsA) 10 [.ref (gA G 0), .int a1] M ((emT vI) r) :=
  ctr_of (by decide) hl hG (Nat.le_of_ble_eq_true rfl) (fun p e s m args below meth c F => b_X6_play F a1 M)

