-- ===== X2_tell DrumTowns$Ring.tell(I)I =====
theorem yv_X2_tell : yV yX2_tell cX2_tell 3 (some .int) 1 := ⟨im_X2_tell, sl_X2_tell, ini_X2, cd_X2_tell, ⟨by decide, by decide, by decide +kernel⟩, by decide⟩

def f_X2_tell_30 (z0 : Int32) (M : Mem) : Option (Int32 × Mem) := some (z0, M)

set_option maxRecDepth 100000 in
set_option maxHeartbeats 4000000 in
theorem l_X2_tell_30 {G : GM} {p : Program} {l : Launch} {e : Env} {s : State} {m : MethodId} {args : Array Value} {below : List Frame} {meth : Method} {c : Code} (F : Fx G p l s m args meth c cX2_tell RX2 3 (some .int)) (z0 : Int32) (M : Mem) : Rf G p l e s m args below meth c 6 3 emI (f_X2_tell_30  z0 M) 30 [] [.int z0] M := by
  unfold f_X2_tell_30
  exact r_iret F rfl dX2_tell_30 rfl

def f_X2_tell_54 (z0 : Int32) (M : Mem) : Option (Int32 × Mem) := some (z0, M)

set_option maxRecDepth 100000 in
set_option maxHeartbeats 4000000 in
theorem l_X2_tell_54 {G : GM} {p : Program} {l : Launch} {e : Env} {s : State} {m : MethodId} {args : Array Value} {below : List Frame} {meth : Method} {c : Code} (F : Fx G p l s m args meth c cX2_tell RX2 3 (some .int)) (z0 : Int32) (M : Mem) : Rf G p l e s m args below meth c 6 3 emI (f_X2_tell_54  z0 M) 54 [] [.int z0] M := by
  unfold f_X2_tell_54
  exact r_iret F rfl dX2_tell_54 rfl

def f_X2_tell (a1 : Int32) (M : Mem) : Option (Int32 × Mem) := if (M.1 10 1) = 0 then (some ((-1 : Int32), M)) else (if (10 : Int32) ≤ a1 then (bnd (a1 - (10 : Int32)) fun x35 => if (M.1 10 1) ≤ x35 then (f_X2_tell_54  (-1 : Int32) M) else (chk (inb x35 6) <| f_X2_tell_54  (M.1 11 x35.toNatClampNeg) M)) else (if a1 = 0 then (f_X2_tell_30  (M.1 10 1) M) else (f_X2_tell_30  (M.1 10 2) M)))

set_option maxRecDepth 100000 in
set_option maxHeartbeats 4000000 in
theorem b_X2_tell {G : GM} {p : Program} {l : Launch} {e : Env} {s : State} {m : MethodId} {args : Array Value} {below : List Frame} {meth : Method} {c : Code} (F : Fx G p l s m args meth c cX2_tell RX2 3 (some .int)) (a1 : Int32) (M : Mem) : Rf G p l e s m args below meth c 6 3 emI (f_X2_tell a1 M) 0 [(0, .ref (gA G 10)), (1, .int a1)] [] M := by
  unfold f_X2_tell
  refine r_aload_n F 0 dX2_tell_0 rfl rfl ?_
  refine gf_X2_15 F dX2_tell_1 (rfl : kd 10 = 4) ?_
  refine r_if_ne (tgt := 9) F dX2_tell_4 (by decide) (fun c1 => ?_) (fun c1 => ?_)
  · refine r_iconst F dX2_tell_7 (v := -1) (by decide) ?_
    exact r_iret F rfl dX2_tell_8 rfl
  · refine r_iload_n F 1 dX2_tell_9 rfl rfl ?_
    refine r_bipush F dX2_tell_10 (v := 10) (by decide) ?_
    refine r_icmp_ge (tgt := 31) F dX2_tell_12 (by decide) (fun c2 => ?_) (fun c2 => ?_)
    · refine r_iload_n F 1 dX2_tell_31 rfl rfl ?_
      refine r_bipush F dX2_tell_32 (v := 10) (by decide) ?_
      refine r_isub F dX2_tell_34 ?_
      refine r_bi (fun x35 => ?_)
      refine r_istore_n (ls' := [(2, .int x35), (0, .ref (gA G 10)), (1, .int a1)]) F dX2_tell_35 rfl (by decide) rfl ?_
      refine r_iload_n F 0 dX2_tell_36 rfl rfl ?_
      refine r_aload_n F 1 dX2_tell_37 rfl rfl ?_
      refine gf_X2_15 F dX2_tell_38 (rfl : kd 10 = 4) ?_
      refine r_icmp_ge (tgt := 53) F dX2_tell_41 (by decide) (fun c3 => ?_) (fun c3 => ?_)
      · refine r_iconst F dX2_tell_53 (v := -1) (by decide) ?_
        refine r_sub [] rfl ?_
        exact l_X2_tell_54 F   (-1 : Int32) M
      · refine r_aload_n F 1 dX2_tell_44 rfl rfl ?_
        refine gf_X2_9 F dX2_tell_45 (rfl : kd 10 = 4) ?_
        refine r_iload_n F 0 dX2_tell_48 rfl rfl ?_
        refine r_chk (fun h4 => ?_)
        refine r_iald F dX2_tell_49 (rfl : kd 11 = 8) (rfl : al 11 = 6) h4 ?_
        refine r_goto (tgt := 54) F dX2_tell_50 (by decide) ?_
        refine r_sub [] rfl ?_
        exact l_X2_tell_54 F   (M.1 11 x35.toNatClampNeg) M
    · refine r_iload_n F 1 dX2_tell_15 rfl rfl ?_
      refine r_if_ne (tgt := 26) F dX2_tell_16 (by decide) (fun c5 => ?_) (fun c5 => ?_)
      · refine r_aload_n F 0 dX2_tell_19 rfl rfl ?_
        refine gf_X2_15 F dX2_tell_20 (rfl : kd 10 = 4) ?_
        refine r_goto (tgt := 30) F dX2_tell_23 (by decide) ?_
        refine r_sub [] rfl ?_
        exact l_X2_tell_30 F   (M.1 10 1) M
      · refine r_aload_n F 0 dX2_tell_26 rfl rfl ?_
        refine gf_X2_19 F dX2_tell_27 (rfl : kd 10 = 4) ?_
        refine r_sub [] rfl ?_
        exact l_X2_tell_30 F   (M.1 10 2) M

set_option maxRecDepth 100000 in
set_option maxHeartbeats 4000000 in
theorem c_X2_tell {l : Launch} {G : GM} (hl : l.stackTraces = false) (hG : GG G) (a1 : Int32) (M : Mem) : ∀ r, f_X2_tell a1 M = some r → Ctr l G yX2_tell (.code yX2_tell cX2_tell 3 (some .int) :: wsA) 6 [.ref (gA G 10), .int a1] M (emI r) :=
  ctr_of (by decide) hl hG (Nat.le_of_ble_eq_true rfl) (fun p e s m args below meth c F => b_X2_tell F a1 M)

-- ===== X6_mixedWithRing DrumTowns.mixedWithRing(J)J =====
theorem yv_X6_mixedWithRing : yV yX6_mixedWithRing cX6_mixedWithRing 6 (some .long) 1 := ⟨im_X6_mixedWithRing, sl_X6_mixedWithRing, ini_X6, cd_X6_mixedWithRing, ⟨by decide, by decide, by decide +kernel⟩, by decide⟩

def f_X6_mixedWithRing_42 : Nat → Int64 → Int32 → Mem → Option (Int64 × Mem)
  | 0, _, _, _ => none
  | n + 1, y3, y5, M => if (6 : Int32) ≤ y5 then (some (y3, M)) else (bn (f_X2_tell ((10 : Int32) + y5) M) fun r59 M59 => bn (f_X6_mixed y3 ((r59).toInt64) M59) fun r63 M63 => bnd (y5 + (1 : Int32)) fun x67 => f_X6_mixedWithRing_42  n r63 x67 M63)

set_option maxRecDepth 100000 in
set_option maxHeartbeats 4000000 in
theorem l_X6_mixedWithRing_42 {G : GM} {p : Program} {l : Launch} {e : Env} {s : State} {m : MethodId} {args : Array Value} {below : List Frame} {meth : Method} {c : Code} (F : Fx G p l s m args meth c cX6_mixedWithRing RX6 6 (some .long)) : ∀ (n : Nat) (y3 : Int64) (y5 : Int32) (M : Mem), Rf G p l e s m args below meth c 17 6 emL (f_X6_mixedWithRing_42  n y3 y5 M) 42 [(0, .ref (gA G 0)), (3, .long y3), (5, .int y5)] [] M := by
  intro n
  induction n with
  | zero => intros; exact r_none
  | succ n ih =>
    intro y3 y5 M
    rw [f_X6_mixedWithRing_42]
    refine r_iload F 2 dX6_mixedWithRing_42 rfl ?_
    refine r_bipush F dX6_mixedWithRing_44 (v := 6) (by decide) ?_
    refine r_icmp_ge (tgt := 73) F dX6_mixedWithRing_46 (by decide) (fun c1 => ?_) (fun c1 => ?_)
    · refine r_lload_n F 1 dX6_mixedWithRing_73 rfl rfl ?_
      exact r_lret F rfl dX6_mixedWithRing_74 rfl
    · refine r_lload_n F 1 dX6_mixedWithRing_49 rfl rfl ?_
      refine r_aload_n F 0 dX6_mixedWithRing_50 rfl rfl ?_
      refine gf_X6_37 F dX6_mixedWithRing_51 (rfl : kd 0 = 0) ?_
      refine r_bipush F dX6_mixedWithRing_54 (v := 10) (by decide) ?_
      refine r_iload F 2 dX6_mixedWithRing_56 rfl ?_
      refine r_iadd F dX6_mixedWithRing_58 ?_
      refine r_cVN (val := vI) (As := [.int ((10 : Int32) + y5)]) (rest := [.long y3]) (fun q9 => .int q9 :: [.long y3]) F (c_X2_tell F.st F.gg ((10 : Int32) + y5) M) (fun _ _ => rfl) dX6_mixedWithRing_59 mn_X6_302 yv_X2_tell (rfl : kd 10 = 4) (by decide) rfl rfl (by decide) rfl (Nat.le_of_ble_eq_true rfl) (fun _ => rfl) (fun r59 M59 => ?_)
      refine r_i2l F dX6_mixedWithRing_62 ?_
      refine r_cS (val := vL) (As := [.long y3, .long ((r59).toInt64)]) (rest := []) (fun q9 => .long q9 :: []) F (c_X6_mixed F.st F.gg y3 ((r59).toInt64) M59) (fun _ _ => rfl) dX6_mixedWithRing_63 ml_X6_308 ys_X6_mixed rfl (by decide) rfl (Nat.le_of_ble_eq_true rfl) (fun _ => rfl) (fun r63 M63 => ?_)
      refine r_lstore_n (ls' := [(3, .long r63), (0, .ref (gA G 0)), (5, .int y5)]) F dX6_mixedWithRing_66 rfl (by decide) rfl ?_
      refine r_iinc (ls' := fun q9 => [(5, .int q9), (3, .long r63), (0, .ref (gA G 0))]) (k := 2) (v := y5 + (1 : Int32)) F dX6_mixedWithRing_67 rfl rfl (by decide) (fun _ => rfl) (fun x67 => ?_)
      refine r_goto (tgt := 42) F dX6_mixedWithRing_70 (by decide) ?_
      refine r_sub [2, 1, 0] rfl ?_
      exact ih r63 x67 M63

def f_X6_mixedWithRing (a1 : Int64) (M : Mem) : Option (Int64 × Mem) := bn (f_X2_find 34 M) fun _ M8 => bn (f_X2_tell (0 : Int32) M8) fun r17 M17 => bn (f_X6_mixed a1 ((r17).toInt64) M17) fun r21 M21 => bn (f_X2_tell (1 : Int32) M21) fun r31 M31 => bn (f_X6_mixed r21 ((r31).toInt64) M31) fun r35 M35 => f_X6_mixedWithRing_42  FU r35 (0 : Int32) M35

set_option maxRecDepth 100000 in
set_option maxHeartbeats 4000000 in
theorem b_X6_mixedWithRing {G : GM} {p : Program} {l : Launch} {e : Env} {s : State} {m : MethodId} {args : Array Value} {below : List Frame} {meth : Method} {c : Code} (F : Fx G p l s m args meth c cX6_mixedWithRing RX6 6 (some .long)) (a1 : Int64) (M : Mem) : Rf G p l e s m args below meth c 17 6 emL (f_X6_mixedWithRing a1 M) 0 [(0, .ref (gA G 0)), (1, .long a1)] [] M := by
  unfold f_X6_mixedWithRing
  refine r_aload_n F 0 dX6_mixedWithRing_0 rfl rfl ?_
  refine gf_X6_37 F dX6_mixedWithRing_1 (rfl : kd 0 = 0) ?_
  refine r_aload_n F 0 dX6_mixedWithRing_4 rfl rfl ?_
  refine gf_X6_10 F dX6_mixedWithRing_5 (rfl : kd 0 = 0) ?_
  refine r_cVN (val := vU) (As := [.ref (gA G 34)]) (rest := []) (fun _ => []) F (c_X2_find F.st F.gg 34 M) (fun _ _ => rfl) dX6_mixedWithRing_8 mn_X6_176 yv_X2_find (rfl : kd 10 = 4) (by decide) rfl rfl (by decide) rfl (Nat.le_of_ble_eq_true rfl) (fun _ => rfl) (fun _ M8 => ?_)
  refine r_lload_n F 1 dX6_mixedWithRing_11 rfl rfl ?_
  refine r_aload_n F 0 dX6_mixedWithRing_12 rfl rfl ?_
  refine gf_X6_37 F dX6_mixedWithRing_13 (rfl : kd 0 = 0) ?_
  refine r_iconst F dX6_mixedWithRing_16 (v := 0) (by decide) ?_
  refine r_cVN (val := vI) (As := [.int (0 : Int32)]) (rest := [.long a1]) (fun q9 => .int q9 :: [.long a1]) F (c_X2_tell F.st F.gg (0 : Int32) M8) (fun _ _ => rfl) dX6_mixedWithRing_17 mn_X6_302 yv_X2_tell (rfl : kd 10 = 4) (by decide) rfl rfl (by decide) rfl (Nat.le_of_ble_eq_true rfl) (fun _ => rfl) (fun r17 M17 => ?_)
  refine r_i2l F dX6_mixedWithRing_20 ?_
  refine r_cS (val := vL) (As := [.long a1, .long ((r17).toInt64)]) (rest := []) (fun q9 => .long q9 :: []) F (c_X6_mixed F.st F.gg a1 ((r17).toInt64) M17) (fun _ _ => rfl) dX6_mixedWithRing_21 ml_X6_308 ys_X6_mixed rfl (by decide) rfl (Nat.le_of_ble_eq_true rfl) (fun _ => rfl) (fun r21 M21 => ?_)
  refine r_lstore_n (ls' := [(3, .long r21), (0, .ref (gA G 0)), (1, .long a1)]) F dX6_mixedWithRing_24 rfl (by decide) rfl ?_
  refine r_lload_n F 0 dX6_mixedWithRing_25 rfl rfl ?_
  refine r_aload_n F 1 dX6_mixedWithRing_26 rfl rfl ?_
  refine gf_X6_37 F dX6_mixedWithRing_27 (rfl : kd 0 = 0) ?_
  refine r_iconst F dX6_mixedWithRing_30 (v := 1) (by decide) ?_
  refine r_cVN (val := vI) (As := [.int (1 : Int32)]) (rest := [.long r21]) (fun q9 => .int q9 :: [.long r21]) F (c_X2_tell F.st F.gg (1 : Int32) M21) (fun _ _ => rfl) dX6_mixedWithRing_31 mn_X6_302 yv_X2_tell (rfl : kd 10 = 4) (by decide) rfl rfl (by decide) rfl (Nat.le_of_ble_eq_true rfl) (fun _ => rfl) (fun r31 M31 => ?_)
  refine r_i2l F dX6_mixedWithRing_34 ?_
  refine r_cS (val := vL) (As := [.long r21, .long ((r31).toInt64)]) (rest := []) (fun q9 => .long q9 :: []) F (c_X6_mixed F.st F.gg r21 ((r31).toInt64) M31) (fun _ _ => rfl) dX6_mixedWithRing_35 ml_X6_308 ys_X6_mixed rfl (by decide) rfl (Nat.le_of_ble_eq_true rfl) (fun _ => rfl) (fun r35 M35 => ?_)
  refine r_lstore_n (ls' := [(3, .long r35), (0, .ref (gA G 0)), (1, .long a1)]) F dX6_mixedWithRing_38 rfl (by decide) rfl ?_
  refine r_iconst F dX6_mixedWithRing_39 (v := 0) (by decide) ?_
  refine r_istore (ls' := [(5, .int (0 : Int32)), (3, .long r35), (0, .ref (gA G 0)), (1, .long a1)]) F dX6_mixedWithRing_40 (by decide) rfl ?_
  refine r_sub [2, 1, 0] rfl ?_
  exact l_X6_mixedWithRing_42 F   FU r35 (0 : Int32) M35

set_option maxRecDepth 100000 in
set_option maxHeartbeats 4000000 in
theorem c_X6_mixedWithRing {l : Launch} {G : GM} (hl : l.stackTraces = false) (hG : GG G) (a1 : Int64) (M : Mem) : ∀ r, f_X6_mixedWithRing a1 M = some r → Ctr l G yX6_mixedWithRing (.code yX6_mixedWithRing cX6_mixedWithRing 6 (some .long) :: wsA) 17 [.ref (gA G 0), .long a1] M (emL r) :=
  ctr_of (by decide) hl hG (Nat.le_of_ble_eq_true rfl) (fun p e s m args below meth c F => b_X6_mixedWithRing F a1 M)

-- ===== X6_copyRow DrumTowns.copyRow([I[I)V =====
theorem ys_X6_copyRow : yS yX6_copyRow cX6_copyRow 2 none 2 := ⟨sc_X6_copyRow, ini_X6, cd_X6_copyRow, ⟨by decide, by decide, by decide +kernel⟩, by decide⟩

def f_X6_copyRow (a0 : Nat) (a1 : Nat) (M : Mem) : Option (Unit × Mem) := chk (kb a0 8) <| chk (kb a1 8) <| chk (!(decide ((if (Int32.ofNat (al a1)) < (Int32.ofNat (al a0)) then (Int32.ofNat (al a1)) else (Int32.ofNat (al a0))) < 0)) && (decide ((if (Int32.ofNat (al a1)) < (Int32.ofNat (al a0)) then (Int32.ofNat (al a1)) else (Int32.ofNat (al a0))).toNatClampNeg ≤ al a0) && decide ((if (Int32.ofNat (al a1)) < (Int32.ofNat (al a0)) then (Int32.ofNat (al a1)) else (Int32.ofNat (al a0))).toNatClampNeg ≤ al a1))) <| bnd (mcp M a0 a1 (if (Int32.ofNat (al a1)) < (Int32.ofNat (al a0)) then (Int32.ofNat (al a1)) else (Int32.ofNat (al a0)))) fun M11 => some ((), M11)

set_option maxRecDepth 100000 in
set_option maxHeartbeats 4000000 in
theorem b_X6_copyRow {G : GM} {p : Program} {l : Launch} {e : Env} {s : State} {m : MethodId} {args : Array Value} {below : List Frame} {meth : Method} {c : Code} (F : Fx G p l s m args meth c cX6_copyRow RX6 2 none) (a0 : Nat) (a1 : Nat) (M : Mem) : Rf G p l e s m args below meth c 6 2 emV (f_X6_copyRow a0 a1 M) 0 [(0, .ref (gA G a0)), (1, .ref (gA G a1))] [] M := by
  unfold f_X6_copyRow
  refine r_aload_n F 0 dX6_copyRow_0 rfl rfl ?_
  refine r_iconst F dX6_copyRow_1 (v := 0) (by decide) ?_
  refine r_aload_n F 1 dX6_copyRow_2 rfl rfl ?_
  refine r_iconst F dX6_copyRow_3 (v := 0) (by decide) ?_
  refine r_aload_n F 0 dX6_copyRow_4 rfl rfl ?_
  refine r_chk (fun h1 => ?_)
  refine r_alen F dX6_copyRow_5 (kb_k h1) rfl rfl ?_
  refine r_aload_n F 1 dX6_copyRow_6 rfl rfl ?_
  refine r_chk (fun h2 => ?_)
  refine r_alen F dX6_copyRow_7 (kb_k h2) rfl rfl ?_
  refine r_min F dX6_copyRow_8 ml_X6_375 ⟨sc_min, ini_J9, cd_min⟩ (by decide) (Nat.le_of_ble_eq_true rfl) ?_
  refine r_chk (fun h3 => ?_)
  refine r_copy F dX6_copyRow_11 ml_X6_380 ⟨na_arraycopy, sc_arraycopy, ini_J10⟩ (kb_k h1) (kb_k h2) h3 (by decide) (Nat.le_of_ble_eq_true rfl) (fun M11 => ?_)
  exact r_vret F rfl dX6_copyRow_14 rfl

set_option maxRecDepth 100000 in
set_option maxHeartbeats 4000000 in
theorem c_X6_copyRow {l : Launch} {G : GM} (hl : l.stackTraces = false) (hG : GG G) (a0 : Nat) (a1 : Nat) (M : Mem) : ∀ r, f_X6_copyRow a0 a1 M = some r → Ctr l G yX6_copyRow (.code yX6_copyRow cX6_copyRow 2 none :: wsA) 6 [.ref (gA G a0), .ref (gA G a1)] M (emV r) :=
  ctr_of (by decide) hl hG (Nat.le_of_ble_eq_true rfl) (fun p e s m args below meth c F => b_X6_copyRow F a0 a1 M)

-- ===== X1_begin DrumTowns$Playing.begin(LDrumTowns$Town;[I)V =====
theorem yv_X1_begin : yV yX1_begin cX1_begin 3 none 2 := ⟨im_X1_begin, sl_X1_begin, ini_X1, cd_X1_begin, ⟨by decide, by decide, by decide +kernel⟩, by decide⟩

def f_X1_begin (a1 : Nat) (a2 : Nat) (M : Mem) : Option (Unit × Mem) := chk (kb a1 2) <| bn (f_X6_copyRow (a1 + 1) 6 M) fun _ M8 => bn (f_X6_copyRow (a1 + 3) 7 M8) fun _ M19 => chk (kb a2 8) <| chk (inb (0 : Int32) (al a2)) <| bnd (mw M19 5 4 (M19.1 a2 (0 : Int32).toNatClampNeg)) fun M26 => chk (inb (1 : Int32) (al a2)) <| bnd (mw M26 5 5 (M26.1 a2 (1 : Int32).toNatClampNeg)) fun M33 => some ((), M33)

set_option maxRecDepth 100000 in
set_option maxHeartbeats 4000000 in
theorem b_X1_begin {G : GM} {p : Program} {l : Launch} {e : Env} {s : State} {m : MethodId} {args : Array Value} {below : List Frame} {meth : Method} {c : Code} (F : Fx G p l s m args meth c cX1_begin RX1 3 none) (a1 : Nat) (a2 : Nat) (M : Mem) : Rf G p l e s m args below meth c 7 3 emV (f_X1_begin a1 a2 M) 0 [(0, .ref (gA G 5)), (1, .ref (gA G a1)), (2, .ref (gA G a2))] [] M := by
  unfold f_X1_begin
  refine r_aload_n F 1 dX1_begin_0 rfl rfl ?_
  refine r_chk (fun h1 => ?_)
  refine gf_X1_24 F dX1_begin_1 (kb_k h1) ?_
  refine r_aload_n F 0 dX1_begin_4 rfl rfl ?_
  refine gf_X1_9 F dX1_begin_5 (rfl : kd 5 = 3) ?_
  refine r_cSN (val := vU) (As := [.ref (gA G (a1 + 1)), .ref (gA G 6)]) (rest := []) (fun _ => []) F (c_X6_copyRow F.st F.gg (a1 + 1) 6 M) (fun _ _ => rfl) dX1_begin_8 mn_X1_27 ys_X6_copyRow rfl (by decide) rfl (Nat.le_of_ble_eq_true rfl) (fun _ => rfl) (fun _ M8 => ?_)
  refine r_aload_n F 1 dX1_begin_11 rfl rfl ?_
  refine gf_X1_31 F dX1_begin_12 (kb_k h1) ?_
  refine r_aload_n F 0 dX1_begin_15 rfl rfl ?_
  refine gf_X1_15 F dX1_begin_16 (rfl : kd 5 = 3) ?_
  refine r_cSN (val := vU) (As := [.ref (gA G (a1 + 3)), .ref (gA G 7)]) (rest := []) (fun _ => []) F (c_X6_copyRow F.st F.gg (a1 + 3) 7 M8) (fun _ _ => rfl) dX1_begin_19 mn_X1_27 ys_X6_copyRow rfl (by decide) rfl (Nat.le_of_ble_eq_true rfl) (fun _ => rfl) (fun _ M19 => ?_)
  refine r_aload_n F 0 dX1_begin_22 rfl rfl ?_
  refine r_aload_n F 2 dX1_begin_23 rfl rfl ?_
  refine r_iconst F dX1_begin_24 (v := 0) (by decide) ?_
  refine r_chk (fun h2 => ?_)
  refine r_chk (fun h3 => ?_)
  refine r_iald F dX1_begin_25 (kb_k h2) rfl h3 ?_
  refine pf_X1_32 F dX1_begin_26 (rfl : kd 5 = 3) (fun M26 => ?_)
  refine r_aload_n F 0 dX1_begin_29 rfl rfl ?_
  refine r_aload_n F 2 dX1_begin_30 rfl rfl ?_
  refine r_iconst F dX1_begin_31 (v := 1) (by decide) ?_
  refine r_chk (fun h4 => ?_)
  refine r_iald F dX1_begin_32 (kb_k h2) rfl h4 ?_
  refine pf_X1_36 F dX1_begin_33 (rfl : kd 5 = 3) (fun M33 => ?_)
  exact r_vret F rfl dX1_begin_36 rfl

set_option maxRecDepth 100000 in
set_option maxHeartbeats 4000000 in
theorem c_X1_begin {l : Launch} {G : GM} (hl : l.stackTraces = false) (hG : GG G) (a1 : Nat) (a2 : Nat) (M : Mem) : ∀ r, f_X1_begin a1 a2 M = some r → Ctr l G yX1_begin (.code yX1_begin cX1_begin 3 none :: wsA) 7 [.ref (gA G 5), .ref (gA G a1), .ref (gA G a2)] M (emV r) :=
  ctr_of (by decide) hl hG (Nat.le_of_ble_eq_true rfl) (fun p e s m args below meth c F => b_X1_begin F a1 a2 M)

-- ===== X1_forgetSounds DrumTowns$Playing.forgetSounds()V =====
theorem yv_X1_forgetSounds : yV yX1_forgetSounds cX1_forgetSounds 2 none 0 := ⟨im_X1_forgetSounds, sl_X1_forgetSounds, ini_X1, cd_X1_forgetSounds, ⟨by decide, by decide, by decide +kernel⟩, by decide⟩

def f_X1_forgetSounds_48 : Nat → Int32 → Mem → Option (Unit × Mem)
  | 0, _, _ => none
  | n + 1, y1, M => if (12 : Int32) ≤ y1 then (some ((), M)) else (chk (inb y1 12) <| bnd (mw M 8 y1.toNatClampNeg (-24 : Int32)) fun M61 => bnd (y1 + (1 : Int32)) fun x62 => f_X1_forgetSounds_48  n x62 M61)

set_option maxRecDepth 100000 in
set_option maxHeartbeats 4000000 in
theorem l_X1_forgetSounds_48 {G : GM} {p : Program} {l : Launch} {e : Env} {s : State} {m : MethodId} {args : Array Value} {below : List Frame} {meth : Method} {c : Code} (F : Fx G p l s m args meth c cX1_forgetSounds RX1 2 none) : ∀ (n : Nat) (y1 : Int32) (M : Mem), Rf G p l e s m args below meth c 6 2 emV (f_X1_forgetSounds_48  n y1 M) 48 [(0, .ref (gA G 5)), (1, .int y1)] [] M := by
  intro n
  induction n with
  | zero => intros; exact r_none
  | succ n ih =>
    intro y1 M
    rw [f_X1_forgetSounds_48]
    refine r_iload_n F 1 dX1_forgetSounds_48 rfl rfl ?_
    refine r_bipush F dX1_forgetSounds_49 (v := 12) (by decide) ?_
    refine r_icmp_ge (tgt := 68) F dX1_forgetSounds_51 (by decide) (fun c1 => ?_) (fun c1 => ?_)
    · exact r_vret F rfl dX1_forgetSounds_68 rfl
    · refine r_aload_n F 0 dX1_forgetSounds_54 rfl rfl ?_
      refine gf_X1_18 F dX1_forgetSounds_55 (rfl : kd 5 = 3) ?_
      refine r_iload_n F 1 dX1_forgetSounds_58 rfl rfl ?_
      refine r_bipush F dX1_forgetSounds_59 (v := -24) (by decide) ?_
      refine r_chk (fun h2 => ?_)
      refine r_iast F dX1_forgetSounds_61 (rfl : kd 8 = 8) (rfl : al 8 = 12) h2 (fun M61 => ?_)
      refine r_iinc (ls' := fun q9 => [(1, .int q9), (0, .ref (gA G 5))]) (k := 1) (v := y1 + (1 : Int32)) F dX1_forgetSounds_62 rfl rfl (by decide) (fun _ => rfl) (fun x62 => ?_)
      refine r_goto (tgt := 48) F dX1_forgetSounds_65 (by decide) ?_
      refine r_sub [1, 0] rfl ?_
      exact ih x62 M61

def f_X1_forgetSounds_27 : Nat → Int32 → Mem → Option (Unit × Mem)
  | 0, _, _ => none
  | n + 1, y1, M => if (24 : Int32) ≤ y1 then (f_X1_forgetSounds_48  FU (0 : Int32) M) else (chk (inb y1 24) <| bnd (mw M 9 y1.toNatClampNeg (0 : Int32)) fun M39 => bnd (y1 + (1 : Int32)) fun x40 => f_X1_forgetSounds_27  n x40 M39)

set_option maxRecDepth 100000 in
set_option maxHeartbeats 4000000 in
theorem l_X1_forgetSounds_27 {G : GM} {p : Program} {l : Launch} {e : Env} {s : State} {m : MethodId} {args : Array Value} {below : List Frame} {meth : Method} {c : Code} (F : Fx G p l s m args meth c cX1_forgetSounds RX1 2 none) : ∀ (n : Nat) (y1 : Int32) (M : Mem), Rf G p l e s m args below meth c 6 2 emV (f_X1_forgetSounds_27  n y1 M) 27 [(0, .ref (gA G 5)), (1, .int y1)] [] M := by
  intro n
  induction n with
  | zero => intros; exact r_none
  | succ n ih =>
    intro y1 M
    rw [f_X1_forgetSounds_27]
    refine r_iload_n F 1 dX1_forgetSounds_27 rfl rfl ?_
    refine r_bipush F dX1_forgetSounds_28 (v := 24) (by decide) ?_
    refine r_icmp_ge (tgt := 46) F dX1_forgetSounds_30 (by decide) (fun c1 => ?_) (fun c1 => ?_)
    · refine r_iconst F dX1_forgetSounds_46 (v := 0) (by decide) ?_
      refine r_istore_n (ls' := [(1, .int (0 : Int32)), (0, .ref (gA G 5))]) F dX1_forgetSounds_47 rfl (by decide) rfl ?_
      refine r_sub [1, 0] rfl ?_
      exact l_X1_forgetSounds_48 F   FU (0 : Int32) M
    · refine r_aload_n F 0 dX1_forgetSounds_33 rfl rfl ?_
      refine gf_X1_21 F dX1_forgetSounds_34 (rfl : kd 5 = 3) ?_
      refine r_iload_n F 1 dX1_forgetSounds_37 rfl rfl ?_
      refine r_iconst F dX1_forgetSounds_38 (v := 0) (by decide) ?_
      refine r_chk (fun h2 => ?_)
      refine r_iast F dX1_forgetSounds_39 (rfl : kd 9 = 8) (rfl : al 9 = 24) h2 (fun M39 => ?_)
      refine r_iinc (ls' := fun q9 => [(1, .int q9), (0, .ref (gA G 5))]) (k := 1) (v := y1 + (1 : Int32)) F dX1_forgetSounds_40 rfl rfl (by decide) (fun _ => rfl) (fun x40 => ?_)
      refine r_goto (tgt := 27) F dX1_forgetSounds_43 (by decide) ?_
      refine r_sub [1, 0] rfl ?_
      exact ih x40 M39

def f_X1_forgetSounds  (M : Mem) : Option (Unit × Mem) := bnd (mw M 5 6 (0 : Int32)) fun M2 => bnd (mw M2 5 7 (0 : Int32)) fun M7 => bnd (mw M7 5 8 (0 : Int32)) fun M12 => bnd (mw M12 5 9 (0 : Int32)) fun M17 => bnd (mw M17 5 10 (0 : Int32)) fun M22 => f_X1_forgetSounds_27  FU (0 : Int32) M22

set_option maxRecDepth 100000 in
set_option maxHeartbeats 4000000 in
theorem b_X1_forgetSounds {G : GM} {p : Program} {l : Launch} {e : Env} {s : State} {m : MethodId} {args : Array Value} {below : List Frame} {meth : Method} {c : Code} (F : Fx G p l s m args meth c cX1_forgetSounds RX1 2 none)  (M : Mem) : Rf G p l e s m args below meth c 6 2 emV (f_X1_forgetSounds  M) 0 [(0, .ref (gA G 5))] [] M := by
  unfold f_X1_forgetSounds
  refine r_aload_n F 0 dX1_forgetSounds_0 rfl rfl ?_
  refine r_iconst F dX1_forgetSounds_1 (v := 0) (by decide) ?_
  refine pf_X1_50 F dX1_forgetSounds_2 (rfl : kd 5 = 3) (fun M2 => ?_)
  refine r_aload_n F 0 dX1_forgetSounds_5 rfl rfl ?_
  refine r_iconst F dX1_forgetSounds_6 (v := 0) (by decide) ?_
  refine pf_X1_53 F dX1_forgetSounds_7 (rfl : kd 5 = 3) (fun M7 => ?_)
  refine r_aload_n F 0 dX1_forgetSounds_10 rfl rfl ?_
  refine r_iconst F dX1_forgetSounds_11 (v := 0) (by decide) ?_
  refine pf_X1_56 F dX1_forgetSounds_12 (rfl : kd 5 = 3) (fun M12 => ?_)
  refine r_aload_n F 0 dX1_forgetSounds_15 rfl rfl ?_
  refine r_iconst F dX1_forgetSounds_16 (v := 0) (by decide) ?_
  refine pf_X1_59 F dX1_forgetSounds_17 (rfl : kd 5 = 3) (fun M17 => ?_)
  refine r_aload_n F 0 dX1_forgetSounds_20 rfl rfl ?_
  refine r_iconst F dX1_forgetSounds_21 (v := 0) (by decide) ?_
  refine pf_X1_62 F dX1_forgetSounds_22 (rfl : kd 5 = 3) (fun M22 => ?_)
  refine r_iconst F dX1_forgetSounds_25 (v := 0) (by decide) ?_
  refine r_istore_n (ls' := [(1, .int (0 : Int32)), (0, .ref (gA G 5))]) F dX1_forgetSounds_26 rfl (by decide) rfl ?_
  refine r_sub [1, 0] rfl ?_
  exact l_X1_forgetSounds_27 F   FU (0 : Int32) M22

set_option maxRecDepth 100000 in
set_option maxHeartbeats 4000000 in
theorem c_X1_forgetSounds {l : Launch} {G : GM} (hl : l.stackTraces = false) (hG : GG G)  (M : Mem) : ∀ r, f_X1_forgetSounds  M = some r → Ctr l G yX1_forgetSounds (.code yX1_forgetSounds cX1_forgetSounds 2 none :: wsA) 6 [.ref (gA G 5)] M (emV r) :=
  ctr_of (by decide) hl hG (Nat.le_of_ble_eq_true rfl) (fun p e s m args below meth c F => b_X1_forgetSounds F  M)

-- ===== X1_meetPin DrumTowns$Playing.meetPin(IIZ)V =====
theorem yv_X1_meetPin : yV yX1_meetPin cX1_meetPin 4 none 3 := ⟨im_X1_meetPin, sl_X1_meetPin, ini_X1, cd_X1_meetPin, ⟨by decide, by decide, by decide +kernel⟩, by decide⟩

def f_X1_meetPin_143  (M : Mem) : Option (Unit × Mem) := some ((), M)

set_option maxRecDepth 100000 in
set_option maxHeartbeats 4000000 in
theorem l_X1_meetPin_143 {G : GM} {p : Program} {l : Launch} {e : Env} {s : State} {m : MethodId} {args : Array Value} {below : List Frame} {meth : Method} {c : Code} (F : Fx G p l s m args meth c cX1_meetPin RX1 4 none)  (M : Mem) : Rf G p l e s m args below meth c 6 4 emV (f_X1_meetPin_143   M) 143 [] [] M := by
  unfold f_X1_meetPin_143
  exact r_vret F rfl dX1_meetPin_143 rfl

def f_X1_meetPin_51 (z1 : Int32) (z2 : Int32) (M : Mem) : Option (Unit × Mem) := bnd (mw M 5 10 (z1 + z2)) fun M52 => f_X1_meetPin_143   M52

set_option maxRecDepth 100000 in
set_option maxHeartbeats 4000000 in
theorem l_X1_meetPin_51 {G : GM} {p : Program} {l : Launch} {e : Env} {s : State} {m : MethodId} {args : Array Value} {below : List Frame} {meth : Method} {c : Code} (F : Fx G p l s m args meth c cX1_meetPin RX1 4 none) (z1 : Int32) (z2 : Int32) (M : Mem) : Rf G p l e s m args below meth c 6 4 emV (f_X1_meetPin_51  z1 z2 M) 51 [] [.int z2, .int z1, .ref (gA G 5)] M := by
  unfold f_X1_meetPin_51
  refine r_iadd F dX1_meetPin_51 ?_
  refine pf_X1_62 F dX1_meetPin_52 (rfl : kd 5 = 3) (fun M52 => ?_)
  refine r_goto (tgt := 143) F dX1_meetPin_55 (by decide) ?_
  refine r_sub [] rfl ?_
  exact l_X1_meetPin_143 F    M52

def f_X1_meetPin_139 (z1 : Int32) (z2 : Int32) (M : Mem) : Option (Unit × Mem) := bnd (mw M 5 9 (z1 + z2)) fun M140 => f_X1_meetPin_143   M140

set_option maxRecDepth 100000 in
set_option maxHeartbeats 4000000 in
theorem l_X1_meetPin_139 {G : GM} {p : Program} {l : Launch} {e : Env} {s : State} {m : MethodId} {args : Array Value} {below : List Frame} {meth : Method} {c : Code} (F : Fx G p l s m args meth c cX1_meetPin RX1 4 none) (z1 : Int32) (z2 : Int32) (M : Mem) : Rf G p l e s m args below meth c 6 4 emV (f_X1_meetPin_139  z1 z2 M) 139 [] [.int z2, .int z1, .ref (gA G 5)] M := by
  unfold f_X1_meetPin_139
  refine r_iadd F dX1_meetPin_139 ?_
  refine pf_X1_59 F dX1_meetPin_140 (rfl : kd 5 = 3) (fun M140 => ?_)
  refine r_sub [] rfl ?_
  exact l_X1_meetPin_143 F    M140

def f_X1_meetPin (a1 : Int32) (a2 : Int32) (a3 : Int32) (M : Mem) : Option (Unit × Mem) := chk (inb a2 12) <| if (M.1 7 a2.toNatClampNeg) < (M.1 5 5) then (chk (inb a2 12) <| if (M.1 5 4) ≤ (a1 - (M.1 8 a2.toNatClampNeg)) then (chk (inb a1 24) <| chk (inb a1 24) <| bnd (mw M 9 a1.toNatClampNeg ((M.1 9 a1.toNatClampNeg) ||| ((1 : Int32) <<< (a2 &&& 31)))) fun M97 => chk (inb a2 12) <| bnd (mw M97 8 a2.toNatClampNeg a1) fun M104 => chk (inb a2 12) <| chk (inb a2 12) <| bnd (mw M104 7 a2.toNatClampNeg ((M104.1 7 a2.toNatClampNeg) + (1 : Int32))) fun M114 => bnd (mw M114 5 6 ((M114.1 5 6) + (1 : Int32))) fun M122 => if a3 = 0 then (f_X1_meetPin_139  (M122.1 5 9) (0 : Int32) M122) else (f_X1_meetPin_139  (M122.1 5 9) (1 : Int32) M122)) else (bnd (mw M 5 7 ((M.1 5 7) + (1 : Int32))) fun M80 => f_X1_meetPin_143   M80)) else (chk (inb a1 24) <| chk (inb a1 24) <| bnd (mw M 6 a1.toNatClampNeg ((M.1 6 a1.toNatClampNeg) &&& (((1 : Int32) <<< (a2 &&& 31)) ^^^ (-1 : Int32)))) fun M26 => bnd (mw M26 5 8 ((M26.1 5 8) + (1 : Int32))) fun M34 => if a3 = 0 then (f_X1_meetPin_51  (M34.1 5 10) (0 : Int32) M34) else (f_X1_meetPin_51  (M34.1 5 10) (1 : Int32) M34))

set_option maxRecDepth 100000 in
set_option maxHeartbeats 4000000 in
theorem b_X1_meetPin {G : GM} {p : Program} {l : Launch} {e : Env} {s : State} {m : MethodId} {args : Array Value} {below : List Frame} {meth : Method} {c : Code} (F : Fx G p l s m args meth c cX1_meetPin RX1 4 none) (a1 : Int32) (a2 : Int32) (a3 : Int32) (M : Mem) : Rf G p l e s m args below meth c 6 4 emV (f_X1_meetPin a1 a2 a3 M) 0 [(0, .ref (gA G 5)), (1, .int a1), (2, .int a2), (3, .int a3)] [] M := by
  unfold f_X1_meetPin
  refine r_aload_n F 0 dX1_meetPin_0 rfl rfl ?_
  refine gf_X1_15 F dX1_meetPin_1 (rfl : kd 5 = 3) ?_
  refine r_iload_n F 2 dX1_meetPin_4 rfl rfl ?_
  refine r_chk (fun h1 => ?_)
  refine r_iald F dX1_meetPin_5 (rfl : kd 7 = 8) (rfl : al 7 = 12) h1 ?_
  refine r_aload_n F 0 dX1_meetPin_6 rfl rfl ?_
  refine gf_X1_36 F dX1_meetPin_7 (rfl : kd 5 = 3) ?_
  refine r_icmp_lt (tgt := 58) F dX1_meetPin_10 (by decide) (fun c2 => ?_) (fun c2 => ?_)
  · refine r_iload_n F 1 dX1_meetPin_58 rfl rfl ?_
    refine r_aload_n F 0 dX1_meetPin_59 rfl rfl ?_
    refine gf_X1_18 F dX1_meetPin_60 (rfl : kd 5 = 3) ?_
    refine r_iload_n F 2 dX1_meetPin_63 rfl rfl ?_
    refine r_chk (fun h3 => ?_)
    refine r_iald F dX1_meetPin_64 (rfl : kd 8 = 8) (rfl : al 8 = 12) h3 ?_
    refine r_isub F dX1_meetPin_65 ?_
    refine r_aload_n F 0 dX1_meetPin_66 rfl rfl ?_
    refine gf_X1_32 F dX1_meetPin_67 (rfl : kd 5 = 3) ?_
    refine r_icmp_ge (tgt := 86) F dX1_meetPin_70 (by decide) (fun c4 => ?_) (fun c4 => ?_)
    · refine r_aload_n F 0 dX1_meetPin_86 rfl rfl ?_
      refine gf_X1_21 F dX1_meetPin_87 (rfl : kd 5 = 3) ?_
      refine r_iload_n F 1 dX1_meetPin_90 rfl rfl ?_
      refine r_dup2 F dX1_meetPin_91 rfl rfl ?_
      refine r_chk (fun h5 => ?_)
      refine r_iald F dX1_meetPin_92 (rfl : kd 9 = 8) (rfl : al 9 = 24) h5 ?_
      refine r_iconst F dX1_meetPin_93 (v := 1) (by decide) ?_
      refine r_iload_n F 2 dX1_meetPin_94 rfl rfl ?_
      refine r_ishl F dX1_meetPin_95 ?_
      refine r_ior F dX1_meetPin_96 ?_
      refine r_chk (fun h6 => ?_)
      refine r_iast F dX1_meetPin_97 (rfl : kd 9 = 8) (rfl : al 9 = 24) h6 (fun M97 => ?_)
      refine r_aload_n F 0 dX1_meetPin_98 rfl rfl ?_
      refine gf_X1_18 F dX1_meetPin_99 (rfl : kd 5 = 3) ?_
      refine r_iload_n F 2 dX1_meetPin_102 rfl rfl ?_
      refine r_iload_n F 1 dX1_meetPin_103 rfl rfl ?_
      refine r_chk (fun h7 => ?_)
      refine r_iast F dX1_meetPin_104 (rfl : kd 8 = 8) (rfl : al 8 = 12) h7 (fun M104 => ?_)
      refine r_aload_n F 0 dX1_meetPin_105 rfl rfl ?_
      refine gf_X1_15 F dX1_meetPin_106 (rfl : kd 5 = 3) ?_
      refine r_iload_n F 2 dX1_meetPin_109 rfl rfl ?_
      refine r_dup2 F dX1_meetPin_110 rfl rfl ?_
      refine r_chk (fun h8 => ?_)
      refine r_iald F dX1_meetPin_111 (rfl : kd 7 = 8) (rfl : al 7 = 12) h8 ?_
      refine r_iconst F dX1_meetPin_112 (v := 1) (by decide) ?_
      refine r_iadd F dX1_meetPin_113 ?_
      refine r_chk (fun h9 => ?_)
      refine r_iast F dX1_meetPin_114 (rfl : kd 7 = 8) (rfl : al 7 = 12) h9 (fun M114 => ?_)
      refine r_aload_n F 0 dX1_meetPin_115 rfl rfl ?_
      refine r_dup F dX1_meetPin_116 rfl ?_
      refine gf_X1_50 F dX1_meetPin_117 (rfl : kd 5 = 3) ?_
      refine r_iconst F dX1_meetPin_120 (v := 1) (by decide) ?_
      refine r_iadd F dX1_meetPin_121 ?_
      refine pf_X1_50 F dX1_meetPin_122 (rfl : kd 5 = 3) (fun M122 => ?_)
      refine r_aload_n F 0 dX1_meetPin_125 rfl rfl ?_
      refine r_dup F dX1_meetPin_126 rfl ?_
      refine gf_X1_59 F dX1_meetPin_127 (rfl : kd 5 = 3) ?_
      refine r_iload_n F 3 dX1_meetPin_130 rfl rfl ?_
      refine r_if_eq (tgt := 138) F dX1_meetPin_131 (by decide) (fun c10 => ?_) (fun c10 => ?_)
      · refine r_iconst F dX1_meetPin_138 (v := 0) (by decide) ?_
        refine r_sub [] rfl ?_
        exact l_X1_meetPin_139 F   (M122.1 5 9) (0 : Int32) M122
      · refine r_iconst F dX1_meetPin_134 (v := 1) (by decide) ?_
        refine r_goto (tgt := 139) F dX1_meetPin_135 (by decide) ?_
        refine r_sub [] rfl ?_
        exact l_X1_meetPin_139 F   (M122.1 5 9) (1 : Int32) M122
    · refine r_aload_n F 0 dX1_meetPin_73 rfl rfl ?_
      refine r_dup F dX1_meetPin_74 rfl ?_
      refine gf_X1_53 F dX1_meetPin_75 (rfl : kd 5 = 3) ?_
      refine r_iconst F dX1_meetPin_78 (v := 1) (by decide) ?_
      refine r_iadd F dX1_meetPin_79 ?_
      refine pf_X1_53 F dX1_meetPin_80 (rfl : kd 5 = 3) (fun M80 => ?_)
      refine r_goto (tgt := 143) F dX1_meetPin_83 (by decide) ?_
      refine r_sub [] rfl ?_
      exact l_X1_meetPin_143 F    M80
  · refine r_aload_n F 0 dX1_meetPin_13 rfl rfl ?_
    refine gf_X1_9 F dX1_meetPin_14 (rfl : kd 5 = 3) ?_
    refine r_iload_n F 1 dX1_meetPin_17 rfl rfl ?_
    refine r_dup2 F dX1_meetPin_18 rfl rfl ?_
    refine r_chk (fun h11 => ?_)
    refine r_iald F dX1_meetPin_19 (rfl : kd 6 = 8) (rfl : al 6 = 24) h11 ?_
    refine r_iconst F dX1_meetPin_20 (v := 1) (by decide) ?_
    refine r_iload_n F 2 dX1_meetPin_21 rfl rfl ?_
    refine r_ishl F dX1_meetPin_22 ?_
    refine r_iconst F dX1_meetPin_23 (v := -1) (by decide) ?_
    refine r_ixor F dX1_meetPin_24 ?_
    refine r_iand F dX1_meetPin_25 ?_
    refine r_chk (fun h12 => ?_)
    refine r_iast F dX1_meetPin_26 (rfl : kd 6 = 8) (rfl : al 6 = 24) h12 (fun M26 => ?_)
    refine r_aload_n F 0 dX1_meetPin_27 rfl rfl ?_
    refine r_dup F dX1_meetPin_28 rfl ?_
    refine gf_X1_56 F dX1_meetPin_29 (rfl : kd 5 = 3) ?_
    refine r_iconst F dX1_meetPin_32 (v := 1) (by decide) ?_
    refine r_iadd F dX1_meetPin_33 ?_
    refine pf_X1_56 F dX1_meetPin_34 (rfl : kd 5 = 3) (fun M34 => ?_)
    refine r_aload_n F 0 dX1_meetPin_37 rfl rfl ?_
    refine r_dup F dX1_meetPin_38 rfl ?_
    refine gf_X1_62 F dX1_meetPin_39 (rfl : kd 5 = 3) ?_
    refine r_iload_n F 3 dX1_meetPin_42 rfl rfl ?_
    refine r_if_eq (tgt := 50) F dX1_meetPin_43 (by decide) (fun c13 => ?_) (fun c13 => ?_)
    · refine r_iconst F dX1_meetPin_50 (v := 0) (by decide) ?_
      refine r_sub [] rfl ?_
      exact l_X1_meetPin_51 F   (M34.1 5 10) (0 : Int32) M34
    · refine r_iconst F dX1_meetPin_46 (v := 1) (by decide) ?_
      refine r_goto (tgt := 51) F dX1_meetPin_47 (by decide) ?_
      refine r_sub [] rfl ?_
      exact l_X1_meetPin_51 F   (M34.1 5 10) (1 : Int32) M34

set_option maxRecDepth 100000 in
set_option maxHeartbeats 4000000 in
theorem c_X1_meetPin {l : Launch} {G : GM} (hl : l.stackTraces = false) (hG : GG G) (a1 : Int32) (a2 : Int32) (a3 : Int32) (M : Mem) : ∀ r, f_X1_meetPin a1 a2 a3 M = some r → Ctr l G yX1_meetPin (.code yX1_meetPin cX1_meetPin 4 none :: wsA) 6 [.ref (gA G 5), .int a1, .int a2, .int a3] M (emV r) :=
  ctr_of (by decide) hl hG (Nat.le_of_ble_eq_true rfl) (fun p e s m args below meth c F => b_X1_meetPin F a1 a2 a3 M)

-- ===== X1_passStep DrumTowns$Playing.passStep(II)V =====
theorem yv_X1_passStep : yV yX1_passStep cX1_passStep 4 none 2 := ⟨im_X1_passStep, sl_X1_passStep, ini_X1, cd_X1_passStep, ⟨by decide, by decide, by decide +kernel⟩, by decide⟩

def f_X1_passStep_40 (k2 : Int32 → Int32 → Int32 → Mem → Option (Unit × Mem)) (y1 : Int32) (y2 : Int32) (y3 : Int32) (M : Mem) : Option (Unit × Mem) := bnd (y3 + (1 : Int32)) fun x40 => k2 y1 y2 x40 M

set_option maxRecDepth 100000 in
set_option maxHeartbeats 4000000 in
theorem l_X1_passStep_40 {G : GM} {p : Program} {l : Launch} {e : Env} {s : State} {m : MethodId} {args : Array Value} {below : List Frame} {meth : Method} {c : Code} (F : Fx G p l s m args meth c cX1_passStep RX1 4 none) (k2 : Int32 → Int32 → Int32 → Mem → Option (Unit × Mem)) (H2 : ∀ (y1 : Int32) (y2 : Int32) (y3 : Int32) (M : Mem), Rf G p l e s m args below meth c 7 4 emV (k2 y1 y2 y3 M) 2 [(0, .ref (gA G 5)), (1, .int y1), (2, .int y2), (3, .int y3)] [] M) (y1 : Int32) (y2 : Int32) (y3 : Int32) (M : Mem) : Rf G p l e s m args below meth c 7 4 emV (f_X1_passStep_40 k2 y1 y2 y3 M) 40 [(0, .ref (gA G 5)), (1, .int y1), (2, .int y2), (3, .int y3)] [] M := by
  unfold f_X1_passStep_40
  refine r_iinc (ls' := fun q9 => [(3, .int q9), (0, .ref (gA G 5)), (1, .int y1), (2, .int y2)]) (k := 3) (v := y3 + (1 : Int32)) F dX1_passStep_40 rfl rfl (by decide) (fun _ => rfl) (fun x40 => ?_)
  refine r_goto (tgt := 2) F dX1_passStep_43 (by decide) ?_
  refine r_sub [1, 2, 3, 0] rfl ?_
  exact H2 y1 y2 x40 M

def f_X1_passStep_37 (k2 : Int32 → Int32 → Int32 → Mem → Option (Unit × Mem)) (y1 : Int32) (y2 : Int32) (y3 : Int32) (z1 : Int32) (z2 : Int32) (z3 : Int32) (M : Mem) : Option (Unit × Mem) := bn (f_X1_meetPin z1 z2 z3 M) fun _ M37 => f_X1_passStep_40 k2 y1 y2 y3 M37

set_option maxRecDepth 100000 in
set_option maxHeartbeats 4000000 in
theorem l_X1_passStep_37 {G : GM} {p : Program} {l : Launch} {e : Env} {s : State} {m : MethodId} {args : Array Value} {below : List Frame} {meth : Method} {c : Code} (F : Fx G p l s m args meth c cX1_passStep RX1 4 none) (k2 : Int32 → Int32 → Int32 → Mem → Option (Unit × Mem)) (H2 : ∀ (y1 : Int32) (y2 : Int32) (y3 : Int32) (M : Mem), Rf G p l e s m args below meth c 7 4 emV (k2 y1 y2 y3 M) 2 [(0, .ref (gA G 5)), (1, .int y1), (2, .int y2), (3, .int y3)] [] M) (y1 : Int32) (y2 : Int32) (y3 : Int32) (z1 : Int32) (z2 : Int32) (z3 : Int32) (M : Mem) : Rf G p l e s m args below meth c 7 4 emV (f_X1_passStep_37 k2 y1 y2 y3 z1 z2 z3 M) 37 [(0, .ref (gA G 5)), (1, .int y1), (2, .int y2), (3, .int y3)] [.int z3, .int z2, .int z1, .ref (gA G 5)] M := by
  unfold f_X1_passStep_37
  refine r_cV (val := vU) (As := [.int z1, .int z2, .int z3]) (rest := []) (fun _ => []) F (c_X1_meetPin F.st F.gg z1 z2 z3 M) (fun _ _ => rfl) dX1_passStep_37 ml_X1_46 yv_X1_meetPin (rfl : kd 5 = 3) (by decide) rfl rfl (by decide) rfl (Nat.le_of_ble_eq_true rfl) (fun _ => rfl) (fun _ M37 => ?_)
  refine r_sub [0, 1, 2, 3] rfl ?_
  exact l_X1_passStep_40 F k2 H2 y1 y2 y3 M37

def f_X1_passStep_2 : Nat → Int32 → Int32 → Int32 → Mem → Option (Unit × Mem)
  | 0, _, _, _, _ => none
  | n + 1, y1, y2, y3, M => if (12 : Int32) ≤ y3 then (some ((), M)) else (chk (inb y1 24) <| if ((M.1 6 y1.toNatClampNeg) &&& ((1 : Int32) <<< (y3 &&& 31))) = 0 then (f_X1_passStep_40 (f_X1_passStep_2  n) y1 y2 y3 M) else (if (y2 &&& ((1 : Int32) <<< (y3 &&& 31))) = 0 then (f_X1_passStep_37 (f_X1_passStep_2  n) y1 y2 y3 y1 y3 (0 : Int32) M) else (f_X1_passStep_37 (f_X1_passStep_2  n) y1 y2 y3 y1 y3 (1 : Int32) M)))

set_option maxRecDepth 100000 in
set_option maxHeartbeats 4000000 in
theorem l_X1_passStep_2 {G : GM} {p : Program} {l : Launch} {e : Env} {s : State} {m : MethodId} {args : Array Value} {below : List Frame} {meth : Method} {c : Code} (F : Fx G p l s m args meth c cX1_passStep RX1 4 none) : ∀ (n : Nat) (y1 : Int32) (y2 : Int32) (y3 : Int32) (M : Mem), Rf G p l e s m args below meth c 7 4 emV (f_X1_passStep_2  n y1 y2 y3 M) 2 [(0, .ref (gA G 5)), (1, .int y1), (2, .int y2), (3, .int y3)] [] M := by
  intro n
  induction n with
  | zero => intros; exact r_none
  | succ n ih =>
    intro y1 y2 y3 M
    rw [f_X1_passStep_2]
    refine r_iload_n F 3 dX1_passStep_2 rfl rfl ?_
    refine r_bipush F dX1_passStep_3 (v := 12) (by decide) ?_
    refine r_icmp_ge (tgt := 46) F dX1_passStep_5 (by decide) (fun c1 => ?_) (fun c1 => ?_)
    · exact r_vret F rfl dX1_passStep_46 rfl
    · refine r_aload_n F 0 dX1_passStep_8 rfl rfl ?_
      refine gf_X1_9 F dX1_passStep_9 (rfl : kd 5 = 3) ?_
      refine r_iload_n F 1 dX1_passStep_12 rfl rfl ?_
      refine r_chk (fun h2 => ?_)
      refine r_iald F dX1_passStep_13 (rfl : kd 6 = 8) (rfl : al 6 = 24) h2 ?_
      refine r_iconst F dX1_passStep_14 (v := 1) (by decide) ?_
      refine r_iload_n F 3 dX1_passStep_15 rfl rfl ?_
      refine r_ishl F dX1_passStep_16 ?_
      refine r_iand F dX1_passStep_17 ?_
      refine r_if_eq (tgt := 40) F dX1_passStep_18 (by decide) (fun c3 => ?_) (fun c3 => ?_)
      · refine r_sub [0, 1, 2, 3] rfl ?_
        exact l_X1_passStep_40 F (f_X1_passStep_2  n) (fun q0 q1 q2 M9 => ih q0 q1 q2 M9) y1 y2 y3 M
      · refine r_aload_n F 0 dX1_passStep_21 rfl rfl ?_
        refine r_iload_n F 1 dX1_passStep_22 rfl rfl ?_
        refine r_iload_n F 3 dX1_passStep_23 rfl rfl ?_
        refine r_iload_n F 2 dX1_passStep_24 rfl rfl ?_
        refine r_iconst F dX1_passStep_25 (v := 1) (by decide) ?_
        refine r_iload_n F 3 dX1_passStep_26 rfl rfl ?_
        refine r_ishl F dX1_passStep_27 ?_
        refine r_iand F dX1_passStep_28 ?_
        refine r_if_eq (tgt := 36) F dX1_passStep_29 (by decide) (fun c4 => ?_) (fun c4 => ?_)
        · refine r_iconst F dX1_passStep_36 (v := 0) (by decide) ?_
          refine r_sub [0, 1, 2, 3] rfl ?_
          exact l_X1_passStep_37 F (f_X1_passStep_2  n) (fun q0 q1 q2 M9 => ih q0 q1 q2 M9) y1 y2 y3 y1 y3 (0 : Int32) M
        · refine r_iconst F dX1_passStep_32 (v := 1) (by decide) ?_
          refine r_goto (tgt := 37) F dX1_passStep_33 (by decide) ?_
          refine r_sub [0, 1, 2, 3] rfl ?_
          exact l_X1_passStep_37 F (f_X1_passStep_2  n) (fun q0 q1 q2 M9 => ih q0 q1 q2 M9) y1 y2 y3 y1 y3 (1 : Int32) M

def f_X1_passStep (a1 : Int32) (a2 : Int32) (M : Mem) : Option (Unit × Mem) := f_X1_passStep_2  FU a1 a2 (0 : Int32) M

set_option maxRecDepth 100000 in
set_option maxHeartbeats 4000000 in
theorem b_X1_passStep {G : GM} {p : Program} {l : Launch} {e : Env} {s : State} {m : MethodId} {args : Array Value} {below : List Frame} {meth : Method} {c : Code} (F : Fx G p l s m args meth c cX1_passStep RX1 4 none) (a1 : Int32) (a2 : Int32) (M : Mem) : Rf G p l e s m args below meth c 7 4 emV (f_X1_passStep a1 a2 M) 0 [(0, .ref (gA G 5)), (1, .int a1), (2, .int a2)] [] M := by
  unfold f_X1_passStep
  refine r_iconst F dX1_passStep_0 (v := 0) (by decide) ?_
  refine r_istore_n (ls' := [(3, .int (0 : Int32)), (0, .ref (gA G 5)), (1, .int a1), (2, .int a2)]) F dX1_passStep_1 rfl (by decide) rfl ?_
  refine r_sub [1, 2, 3, 0] rfl ?_
  exact l_X1_passStep_2 F   FU a1 a2 (0 : Int32) M

set_option maxRecDepth 100000 in
set_option maxHeartbeats 4000000 in
theorem c_X1_passStep {l : Launch} {G : GM} (hl : l.stackTraces = false) (hG : GG G) (a1 : Int32) (a2 : Int32) (M : Mem) : ∀ r, f_X1_passStep a1 a2 M = some r → Ctr l G yX1_passStep (.code yX1_passStep cX1_passStep 4 none :: wsA) 7 [.ref (gA G 5), .int a1, .int a2] M (emV r) :=
  ctr_of (by decide) hl hG (Nat.le_of_ble_eq_true rfl) (fun p e s m args below meth c F => b_X1_passStep F a1 a2 M)

-- ===== X1_goThrough DrumTowns$Playing.goThrough([I)V =====
theorem yv_X1_goThrough : yV yX1_goThrough cX1_goThrough 3 none 1 := ⟨im_X1_goThrough, sl_X1_goThrough, ini_X1, cd_X1_goThrough, ⟨by decide, by decide, by decide +kernel⟩, by decide⟩

def f_X1_goThrough_29 (k6 : Nat → Int32 → Mem → Option (Unit × Mem)) (y1 : Nat) (y2 : Int32) (M : Mem) : Option (Unit × Mem) := bnd (y2 + (1 : Int32)) fun x29 => k6 y1 x29 M

set_option maxRecDepth 100000 in
set_option maxHeartbeats 4000000 in
theorem l_X1_goThrough_29 {G : GM} {p : Program} {l : Launch} {e : Env} {s : State} {m : MethodId} {args : Array Value} {below : List Frame} {meth : Method} {c : Code} (F : Fx G p l s m args meth c cX1_goThrough RX1 3 none) (k6 : Nat → Int32 → Mem → Option (Unit × Mem)) (H6 : ∀ (y1 : Nat) (y2 : Int32) (M : Mem), Rf G p l e s m args below meth c 8 3 emV (k6 y1 y2 M) 6 [(0, .ref (gA G 5)), (1, .ref (gA G y1)), (2, .int y2)] [] M) (y1 : Nat) (y2 : Int32) (M : Mem) : Rf G p l e s m args below meth c 8 3 emV (f_X1_goThrough_29 k6 y1 y2 M) 29 [(0, .ref (gA G 5)), (1, .ref (gA G y1)), (2, .int y2)] [] M := by
  unfold f_X1_goThrough_29
  refine r_iinc (ls' := fun q9 => [(2, .int q9), (0, .ref (gA G 5)), (1, .ref (gA G y1))]) (k := 2) (v := y2 + (1 : Int32)) F dX1_goThrough_29 rfl rfl (by decide) (fun _ => rfl) (fun x29 => ?_)
  refine r_goto (tgt := 6) F dX1_goThrough_32 (by decide) ?_
  refine r_sub [1, 2, 0] rfl ?_
  exact H6 y1 x29 M

def f_X1_goThrough_6 : Nat → Nat → Int32 → Mem → Option (Unit × Mem)
  | 0, _, _, _ => none
  | n + 1, y1, y2, M => if (24 : Int32) ≤ y2 then (some ((), M)) else (chk (inb y2 24) <| if (M.1 6 y2.toNatClampNeg) = 0 then (f_X1_goThrough_29 (f_X1_goThrough_6  n) y1 y2 M) else (chk (kb y1 8) <| chk (inb y2 (al y1)) <| bn (f_X1_passStep y2 (M.1 y1 y2.toNatClampNeg) M) fun _ M26 => f_X1_goThrough_29 (f_X1_goThrough_6  n) y1 y2 M26))

set_option maxRecDepth 100000 in
set_option maxHeartbeats 4000000 in
theorem l_X1_goThrough_6 {G : GM} {p : Program} {l : Launch} {e : Env} {s : State} {m : MethodId} {args : Array Value} {below : List Frame} {meth : Method} {c : Code} (F : Fx G p l s m args meth c cX1_goThrough RX1 3 none) : ∀ (n : Nat) (y1 : Nat) (y2 : Int32) (M : Mem), Rf G p l e s m args below meth c 8 3 emV (f_X1_goThrough_6  n y1 y2 M) 6 [(0, .ref (gA G 5)), (1, .ref (gA G y1)), (2, .int y2)] [] M := by
  intro n
  induction n with
  | zero => intros; exact r_none
  | succ n ih =>
    intro y1 y2 M
    rw [f_X1_goThrough_6]
    refine r_iload_n F 2 dX1_goThrough_6 rfl rfl ?_
    refine r_bipush F dX1_goThrough_7 (v := 24) (by decide) ?_
    refine r_icmp_ge (tgt := 35) F dX1_goThrough_9 (by decide) (fun c1 => ?_) (fun c1 => ?_)
    · exact r_vret F rfl dX1_goThrough_35 rfl
    · refine r_aload_n F 0 dX1_goThrough_12 rfl rfl ?_
      refine gf_X1_9 F dX1_goThrough_13 (rfl : kd 5 = 3) ?_
      refine r_iload_n F 2 dX1_goThrough_16 rfl rfl ?_
      refine r_chk (fun h2 => ?_)
      refine r_iald F dX1_goThrough_17 (rfl : kd 6 = 8) (rfl : al 6 = 24) h2 ?_
      refine r_if_eq (tgt := 29) F dX1_goThrough_18 (by decide) (fun c3 => ?_) (fun c3 => ?_)
      · refine r_sub [0, 1, 2] rfl ?_
        exact l_X1_goThrough_29 F (f_X1_goThrough_6  n) (fun q0 q1 M9 => ih q0 q1 M9) y1 y2 M
      · refine r_aload_n F 0 dX1_goThrough_21 rfl rfl ?_
        refine r_iload_n F 2 dX1_goThrough_22 rfl rfl ?_
        refine r_aload_n F 1 dX1_goThrough_23 rfl rfl ?_
        refine r_iload_n F 2 dX1_goThrough_24 rfl rfl ?_
        refine r_chk (fun h4 => ?_)
        refine r_chk (fun h5 => ?_)
        refine r_iald F dX1_goThrough_25 (kb_k h4) rfl h5 ?_
        refine r_cV (val := vU) (As := [.int y2, .int (M.1 y1 y2.toNatClampNeg)]) (rest := []) (fun _ => []) F (c_X1_passStep F.st F.gg y2 (M.1 y1 y2.toNatClampNeg) M) (fun _ _ => rfl) dX1_goThrough_26 ml_X1_42 yv_X1_passStep (rfl : kd 5 = 3) (by decide) rfl rfl (by decide) rfl (Nat.le_of_ble_eq_true rfl) (fun _ => rfl) (fun _ M26 => ?_)
        refine r_sub [0, 1, 2] rfl ?_
        exact l_X1_goThrough_29 F (f_X1_goThrough_6  n) (fun q0 q1 M9 => ih q0 q1 M9) y1 y2 M26

def f_X1_goThrough (a1 : Nat) (M : Mem) : Option (Unit × Mem) := bn (f_X1_forgetSounds M) fun _ M1 => f_X1_goThrough_6  FU a1 (0 : Int32) M1

set_option maxRecDepth 100000 in
set_option maxHeartbeats 4000000 in
theorem b_X1_goThrough {G : GM} {p : Program} {l : Launch} {e : Env} {s : State} {m : MethodId} {args : Array Value} {below : List Frame} {meth : Method} {c : Code} (F : Fx G p l s m args meth c cX1_goThrough RX1 3 none) (a1 : Nat) (M : Mem) : Rf G p l e s m args below meth c 8 3 emV (f_X1_goThrough a1 M) 0 [(0, .ref (gA G 5)), (1, .ref (gA G a1))] [] M := by
  unfold f_X1_goThrough
  refine r_aload_n F 0 dX1_goThrough_0 rfl rfl ?_
  refine r_cV (val := vU) (As := []) (rest := []) (fun _ => []) F (c_X1_forgetSounds F.st F.gg  M) (fun _ _ => rfl) dX1_goThrough_1 ml_X1_39 yv_X1_forgetSounds (rfl : kd 5 = 3) (by decide) rfl rfl (by decide) rfl (Nat.le_of_ble_eq_true rfl) (fun _ => rfl) (fun _ M1 => ?_)
  refine r_iconst F dX1_goThrough_4 (v := 0) (by decide) ?_
  refine r_istore_n (ls' := [(2, .int (0 : Int32)), (0, .ref (gA G 5)), (1, .ref (gA G a1))]) F dX1_goThrough_5 rfl (by decide) rfl ?_
  refine r_sub [1, 2, 0] rfl ?_
  exact l_X1_goThrough_6 F   FU a1 (0 : Int32) M1

set_option maxRecDepth 100000 in
set_option maxHeartbeats 4000000 in
theorem c_X1_goThrough {l : Launch} {G : GM} (hl : l.stackTraces = false) (hG : GG G) (a1 : Nat) (M : Mem) : ∀ r, f_X1_goThrough a1 M = some r → Ctr l G yX1_goThrough (.code yX1_goThrough cX1_goThrough 3 none :: wsA) 8 [.ref (gA G 5), .ref (gA G a1)] M (emV r) :=
  ctr_of (by decide) hl hG (Nat.le_of_ble_eq_true rfl) (fun p e s m args below meth c F => b_X1_goThrough F a1 M)

-- ===== X6_foresee DrumTowns.foresee(I)V =====
theorem yv_X6_foresee : yV yX6_foresee cX6_foresee 3 none 1 := ⟨im_X6_foresee, sl_X6_foresee, ini_X6, cd_X6_foresee, ⟨by decide, by decide, by decide +kernel⟩, by decide⟩

def f_X6_foresee (a1 : Int32) (M : Mem) : Option (Unit × Mem) := chk (inb a1 6) <| bnd (tw 35 a1) fun b8 => bn (f_X1_begin b8 36 M) fun _ M22 => bn (f_X1_goThrough (b8 + 2) M22) fun _ M33 => some ((), M33)

set_option maxRecDepth 100000 in
set_option maxHeartbeats 4000000 in
theorem b_X6_foresee {G : GM} {p : Program} {l : Launch} {e : Env} {s : State} {m : MethodId} {args : Array Value} {below : List Frame} {meth : Method} {c : Code} (F : Fx G p l s m args meth c cX6_foresee RX6 3 none) (a1 : Int32) (M : Mem) : Rf G p l e s m args below meth c 9 3 emV (f_X6_foresee a1 M) 0 [(0, .ref (gA G 0)), (1, .int a1)] [] M := by
  unfold f_X6_foresee
  refine r_aload_n F 0 dX6_foresee_0 rfl rfl ?_
  refine gf_X6_10 F dX6_foresee_1 (rfl : kd 0 = 0) ?_
  refine gf_X6_76 F dX6_foresee_4 (rfl : kd 34 = 1) ?_
  refine r_iload_n F 1 dX6_foresee_7 rfl rfl ?_
  refine r_chk (fun h1 => ?_)
  refine r_aaldT F dX6_foresee_8 (rfl : kd 35 = 9) h1 ?_
  refine r_br (kTw' (rfl : kd 35 = 9) h1) (fun b8 k8 => ?_)
  refine r_astore_n (ls' := [(2, .ref (gA G b8)), (0, .ref (gA G 0)), (1, .int a1)]) F dX6_foresee_9 rfl (by decide) rfl ?_
  refine r_aload_n F 1 dX6_foresee_10 rfl rfl ?_
  refine gf_X6_30 F dX6_foresee_11 (rfl : kd 0 = 0) ?_
  refine r_aload_n F 0 dX6_foresee_14 rfl rfl ?_
  refine r_aload_n F 1 dX6_foresee_15 rfl rfl ?_
  refine gf_X6_10 F dX6_foresee_16 (rfl : kd 0 = 0) ?_
  refine gf_X6_68 F dX6_foresee_19 (rfl : kd 34 = 1) ?_
  refine r_cVN (val := vU) (As := [.ref (gA G b8), .ref (gA G 36)]) (rest := []) (fun _ => []) F (c_X1_begin F.st F.gg b8 36 M) (fun _ _ => rfl) dX6_foresee_22 mn_X6_272 yv_X1_begin (rfl : kd 5 = 3) (by decide) rfl rfl (by decide) rfl (Nat.le_of_ble_eq_true rfl) (fun _ => rfl) (fun _ M22 => ?_)
  refine r_aload_n F 1 dX6_foresee_25 rfl rfl ?_
  refine gf_X6_30 F dX6_foresee_26 (rfl : kd 0 = 0) ?_
  refine r_aload_n F 0 dX6_foresee_29 rfl rfl ?_
  refine gf_X6_207 F dX6_foresee_30 k8 ?_
  refine r_cVN (val := vU) (As := [.ref (gA G (b8 + 2))]) (rest := []) (fun _ => []) F (c_X1_goThrough F.st F.gg (b8 + 2) M22) (fun _ _ => rfl) dX6_foresee_33 mn_X6_276 yv_X1_goThrough (rfl : kd 5 = 3) (by decide) rfl rfl (by decide) rfl (Nat.le_of_ble_eq_true rfl) (fun _ => rfl) (fun _ M33 => ?_)
  exact r_vret F rfl dX6_foresee_36 rfl

set_option maxRecDepth 100000 in
set_option maxHeartbeats 4000000 in
theorem c_X6_foresee {l : Launch} {G : GM} (hl : l.stackTraces = false) (hG : GG G) (a1 : Int32) (M : Mem) : ∀ r, f_X6_foresee a1 M = some r → Ctr l G yX6_foresee (.code yX6_foresee cX6_foresee 3 none :: wsA) 9 [.ref (gA G 0), .int a1] M (emV r) :=
  ctr_of (by decide) hl hG (Nat.le_of_ble_eq_true rfl) (fun p e s m args below meth c F => b_X6_foresee F a1 M)

-- ===== X6_mixedWithRows DrumTowns.mixedWithRows(JI)J =====
theorem yv_X6_mixedWithRows : yV yX6_mixedWithRows cX6_mixedWithRows 8 (some .long) 2 := ⟨im_X6_mixedWithRows, sl_X6_mixedWithRows, ini_X6, cd_X6_mixedWithRows, ⟨by decide, by decide, by decide +kernel⟩, by decide⟩

def f_X6_mixedWithRows_95 : Nat → Int64 → Nat → Int32 → Mem → Option (Int64 × Mem)
  | 0, _, _, _, _ => none
  | n + 1, y4, y6, y7, M => if (24 : Int32) ≤ y7 then (some (y4, M)) else (chk (kb y6 2) <| chk (inb y7 24) <| bn (f_X6_mixed y4 (((M.1 (y6 + 1) y7.toNatClampNeg)).toInt64) M) fun r113 M113 => chk (inb y7 24) <| bn (f_X6_mixed r113 (((M113.1 (y6 + 2) y7.toNatClampNeg)).toInt64) M113) fun r129 M129 => chk (inb y7 24) <| bn (f_X6_mixed r129 (((M129.1 9 y7.toNatClampNeg)).toInt64) M129) fun r147 M147 => bnd (y7 + (1 : Int32)) fun x152 => f_X6_mixedWithRows_95  n r147 y6 x152 M147)

set_option maxRecDepth 100000 in
set_option maxHeartbeats 4000000 in
theorem l_X6_mixedWithRows_95 {G : GM} {p : Program} {l : Launch} {e : Env} {s : State} {m : MethodId} {args : Array Value} {below : List Frame} {meth : Method} {c : Code} (F : Fx G p l s m args meth c cX6_mixedWithRows RX6 8 (some .long)) : ∀ (n : Nat) (y4 : Int64) (y6 : Nat) (y7 : Int32) (M : Mem), Rf G p l e s m args below meth c 10 8 emL (f_X6_mixedWithRows_95  n y4 y6 y7 M) 95 [(0, .ref (gA G 0)), (4, .long y4), (6, .ref (gA G y6)), (7, .int y7)] [] M := by
  intro n
  induction n with
  | zero => intros; exact r_none
  | succ n ih =>
    intro y4 y6 y7 M
    rw [f_X6_mixedWithRows_95]
    refine r_iload F 3 dX6_mixedWithRows_95 rfl ?_
    refine r_bipush F dX6_mixedWithRows_97 (v := 24) (by decide) ?_
    refine r_icmp_ge (tgt := 158) F dX6_mixedWithRows_99 (by decide) (fun c1 => ?_) (fun c1 => ?_)
    · refine r_lload F 1 dX6_mixedWithRows_158 rfl ?_
      exact r_lret F rfl dX6_mixedWithRows_160 rfl
    · refine r_lload F 1 dX6_mixedWithRows_102 rfl ?_
      refine r_aload F 2 dX6_mixedWithRows_104 rfl ?_
      refine r_chk (fun h2 => ?_)
      refine gf_X6_109 F dX6_mixedWithRows_106 (kb_k h2) ?_
      refine r_iload F 3 dX6_mixedWithRows_109 rfl ?_
      refine r_chk (fun h3 => ?_)
      refine r_iald F dX6_mixedWithRows_111 (kTd (kb_k h2)) (aTd (kb_k h2)) h3 ?_
      refine r_i2l F dX6_mixedWithRows_112 ?_
      refine r_cS (val := vL) (As := [.long y4, .long (((M.1 (y6 + 1) y7.toNatClampNeg)).toInt64)]) (rest := []) (fun q9 => .long q9 :: []) F (c_X6_mixed F.st F.gg y4 (((M.1 (y6 + 1) y7.toNatClampNeg)).toInt64) M) (fun _ _ => rfl) dX6_mixedWithRows_113 ml_X6_308 ys_X6_mixed rfl (by decide) rfl (Nat.le_of_ble_eq_true rfl) (fun _ => rfl) (fun r113 M113 => ?_)
      refine r_lstore (ls' := [(4, .long r113), (0, .ref (gA G 0)), (6, .ref (gA G y6)), (7, .int y7)]) F dX6_mixedWithRows_116 (by decide) rfl ?_
      refine r_lload F 0 dX6_mixedWithRows_118 rfl ?_
      refine r_aload F 2 dX6_mixedWithRows_120 rfl ?_
      refine gf_X6_207 F dX6_mixedWithRows_122 (kb_k h2) ?_
      refine r_iload F 3 dX6_mixedWithRows_125 rfl ?_
      refine r_chk (fun h4 => ?_)
      refine r_iald F dX6_mixedWithRows_127 (kTt (kb_k h2)) (aTt (kb_k h2)) h4 ?_
      refine r_i2l F dX6_mixedWithRows_128 ?_
      refine r_cS (val := vL) (As := [.long r113, .long (((M113.1 (y6 + 2) y7.toNatClampNeg)).toInt64)]) (rest := []) (fun q9 => .long q9 :: []) F (c_X6_mixed F.st F.gg r113 (((M113.1 (y6 + 2) y7.toNatClampNeg)).toInt64) M113) (fun _ _ => rfl) dX6_mixedWithRows_129 ml_X6_308 ys_X6_mixed rfl (by decide) rfl (Nat.le_of_ble_eq_true rfl) (fun _ => rfl) (fun r129 M129 => ?_)
      refine r_lstore (ls' := [(4, .long r129), (0, .ref (gA G 0)), (6, .ref (gA G y6)), (7, .int y7)]) F dX6_mixedWithRows_132 (by decide) rfl ?_
      refine r_lload F 0 dX6_mixedWithRows_134 rfl ?_
      refine r_aload_n F 1 dX6_mixedWithRows_136 rfl rfl ?_
      refine gf_X6_30 F dX6_mixedWithRows_137 (rfl : kd 0 = 0) ?_
      refine gf_X6_239 F dX6_mixedWithRows_140 (rfl : kd 5 = 3) ?_
      refine r_iload F 3 dX6_mixedWithRows_143 rfl ?_
      refine r_chk (fun h5 => ?_)
      refine r_iald F dX6_mixedWithRows_145 (rfl : kd 9 = 8) (rfl : al 9 = 24) h5 ?_
      refine r_i2l F dX6_mixedWithRows_146 ?_
      refine r_cS (val := vL) (As := [.long r129, .long (((M129.1 9 y7.toNatClampNeg)).toInt64)]) (rest := []) (fun q9 => .long q9 :: []) F (c_X6_mixed F.st F.gg r129 (((M129.1 9 y7.toNatClampNeg)).toInt64) M129) (fun _ _ => rfl) dX6_mixedWithRows_147 ml_X6_308 ys_X6_mixed rfl (by decide) rfl (Nat.le_of_ble_eq_true rfl) (fun _ => rfl) (fun r147 M147 => ?_)
      refine r_lstore (ls' := [(4, .long r147), (0, .ref (gA G 0)), (6, .ref (gA G y6)), (7, .int y7)]) F dX6_mixedWithRows_150 (by decide) rfl ?_
      refine r_iinc (ls' := fun q9 => [(7, .int q9), (4, .long r147), (0, .ref (gA G 0)), (6, .ref (gA G y6))]) (k := 3) (v := y7 + (1 : Int32)) F dX6_mixedWithRows_152 rfl rfl (by decide) (fun _ => rfl) (fun x152 => ?_)
      refine r_goto (tgt := 95) F dX6_mixedWithRows_155 (by decide) ?_
      refine r_sub [2, 1, 3, 0] rfl ?_
      exact ih r147 y6 x152 M147

def f_X6_mixedWithRows_49 : Nat → Int32 → Int64 → Nat → Int32 → Mem → Option (Int64 × Mem)
  | 0, _, _, _, _, _ => none
  | n + 1, y3, y4, y6, y7, M => if (M.1 34 1) ≤ y7 then (bn (f_X6_foresee y3 M) fun _ M89 => f_X6_mixedWithRows_95  FU y4 y6 (0 : Int32) M89) else (chk (inb y3 6) <| bnd (rw' 37 y3) fun b71 => chk (inb y7 6) <| bn (f_X6_mixed y4 (((M.1 b71 y7.toNatClampNeg)).toInt64) M) fun r76 M76 => bnd (y7 + (1 : Int32)) fun x81 => f_X6_mixedWithRows_49  n y3 r76 y6 x81 M76)

set_option maxRecDepth 100000 in
set_option maxHeartbeats 4000000 in
theorem l_X6_mixedWithRows_49 {G : GM} {p : Program} {l : Launch} {e : Env} {s : State} {m : MethodId} {args : Array Value} {below : List Frame} {meth : Method} {c : Code} (F : Fx G p l s m args meth c cX6_mixedWithRows RX6 8 (some .long)) : ∀ (n : Nat) (y3 : Int32) (y4 : Int64) (y6 : Nat) (y7 : Int32) (M : Mem), Rf G p l e s m args below meth c 10 8 emL (f_X6_mixedWithRows_49  n y3 y4 y6 y7 M) 49 [(0, .ref (gA G 0)), (3, .int y3), (4, .long y4), (6, .ref (gA G y6)), (7, .int y7)] [] M := by
  intro n
  induction n with
  | zero => intros; exact r_none
  | succ n ih =>
    intro y3 y4 y6 y7 M
    rw [f_X6_mixedWithRows_49]
    refine r_iload F 4 dX6_mixedWithRows_49 rfl ?_
    refine r_aload_n F 0 dX6_mixedWithRows_51 rfl rfl ?_
    refine gf_X6_10 F dX6_mixedWithRows_52 (rfl : kd 0 = 0) ?_
    refine gf_X6_59 F dX6_mixedWithRows_55 (rfl : kd 34 = 1) ?_
    refine r_icmp_ge (tgt := 87) F dX6_mixedWithRows_58 (by decide) (fun c1 => ?_) (fun c1 => ?_)
    · refine r_aload_n F 0 dX6_mixedWithRows_87 rfl rfl ?_
      refine r_iload_n F 1 dX6_mixedWithRows_88 rfl rfl ?_
      refine r_cV (val := vU) (As := [.int y3]) (rest := []) (fun _ => []) F (c_X6_foresee F.st F.gg y3 M) (fun _ _ => rfl) dX6_mixedWithRows_89 ml_X6_145 yv_X6_foresee (rfl : kd 0 = 0) (by decide) rfl rfl (by decide) rfl (Nat.le_of_ble_eq_true rfl) (fun _ => rfl) (fun _ M89 => ?_)
      refine r_iconst F dX6_mixedWithRows_92 (v := 0) (by decide) ?_
      refine r_istore (ls' := [(7, .int (0 : Int32)), (0, .ref (gA G 0)), (3, .int y3), (4, .long y4), (6, .ref (gA G y6))]) F dX6_mixedWithRows_93 (by decide) rfl ?_
      refine r_sub [1, 3, 4, 0] rfl ?_
      exact l_X6_mixedWithRows_95 F   FU y4 y6 (0 : Int32) M89
    · refine r_lload F 2 dX6_mixedWithRows_61 rfl ?_
      refine r_aload_n F 0 dX6_mixedWithRows_63 rfl rfl ?_
      refine gf_X6_10 F dX6_mixedWithRows_64 (rfl : kd 0 = 0) ?_
      refine gf_X6_164 F dX6_mixedWithRows_67 (rfl : kd 34 = 1) ?_
      refine r_iload_n F 1 dX6_mixedWithRows_70 rfl rfl ?_
      refine r_chk (fun h2 => ?_)
      refine r_aaldR F dX6_mixedWithRows_71 (rfl : kd 37 = 11) h2 ?_
      refine r_bra (kRw (rfl : kd 37 = 11) h2) (aRw (rfl : kd 37 = 11) h2) (fun b71 k71 k71a => ?_)
      refine r_iload F 4 dX6_mixedWithRows_72 rfl ?_
      refine r_chk (fun h3 => ?_)
      refine r_iald F dX6_mixedWithRows_74 k71 k71a h3 ?_
      refine r_i2l F dX6_mixedWithRows_75 ?_
      refine r_cS (val := vL) (As := [.long y4, .long (((M.1 b71 y7.toNatClampNeg)).toInt64)]) (rest := []) (fun q9 => .long q9 :: []) F (c_X6_mixed F.st F.gg y4 (((M.1 b71 y7.toNatClampNeg)).toInt64) M) (fun _ _ => rfl) dX6_mixedWithRows_76 ml_X6_308 ys_X6_mixed rfl (by decide) rfl (Nat.le_of_ble_eq_true rfl) (fun _ => rfl) (fun r76 M76 => ?_)
      refine r_lstore (ls' := [(4, .long r76), (0, .ref (gA G 0)), (3, .int y3), (6, .ref (gA G y6)), (7, .int y7)]) F dX6_mixedWithRows_79 (by decide) rfl ?_
      refine r_iinc (ls' := fun q9 => [(7, .int q9), (4, .long r76), (0, .ref (gA G 0)), (3, .int y3), (6, .ref (gA G y6))]) (k := 4) (v := y7 + (1 : Int32)) F dX6_mixedWithRows_81 rfl rfl (by decide) (fun _ => rfl) (fun x81 => ?_)
      refine r_goto (tgt := 49) F dX6_mixedWithRows_84 (by decide) ?_
      refine r_sub [2, 3, 1, 4, 0] rfl ?_
      exact ih y3 r76 y6 x81 M76

def f_X6_mixedWithRows_17 : Nat → Int32 → Int64 → Nat → Int32 → Mem → Option (Int64 × Mem)
  | 0, _, _, _, _, _ => none
  | n + 1, y3, y4, y6, y7, M => if (12 : Int32) ≤ y7 then (f_X6_mixedWithRows_49  FU y3 y4 y6 (0 : Int32) M) else (chk (kb y6 2) <| chk (inb y7 12) <| bn (f_X6_mixed y4 (((M.1 (y6 + 3) y7.toNatClampNeg)).toInt64) M) fun r35 M35 => bnd (y7 + (1 : Int32)) fun x40 => f_X6_mixedWithRows_17  n y3 r35 y6 x40 M35)

set_option maxRecDepth 100000 in
set_option maxHeartbeats 4000000 in
theorem l_X6_mixedWithRows_17 {G : GM} {p : Program} {l : Launch} {e : Env} {s : State} {m : MethodId} {args : Array Value} {below : List Frame} {meth : Method} {c : Code} (F : Fx G p l s m args meth c cX6_mixedWithRows RX6 8 (some .long)) : ∀ (n : Nat) (y3 : Int32) (y4 : Int64) (y6 : Nat) (y7 : Int32) (M : Mem), Rf G p l e s m args below meth c 10 8 emL (f_X6_mixedWithRows_17  n y3 y4 y6 y7 M) 17 [(0, .ref (gA G 0)), (3, .int y3), (4, .long y4), (6, .ref (gA G y6)), (7, .int y7)] [] M := by
  intro n
  induction n with
  | zero => intros; exact r_none
  | succ n ih =>
    intro y3 y4 y6 y7 M
    rw [f_X6_mixedWithRows_17]
    refine r_iload F 4 dX6_mixedWithRows_17 rfl ?_
    refine r_bipush F dX6_mixedWithRows_19 (v := 12) (by decide) ?_
    refine r_icmp_ge (tgt := 46) F dX6_mixedWithRows_21 (by decide) (fun c1 => ?_) (fun c1 => ?_)
    · refine r_iconst F dX6_mixedWithRows_46 (v := 0) (by decide) ?_
      refine r_istore (ls' := [(7, .int (0 : Int32)), (0, .ref (gA G 0)), (3, .int y3), (4, .long y4), (6, .ref (gA G y6))]) F dX6_mixedWithRows_47 (by decide) rfl ?_
      refine r_sub [1, 2, 3, 4, 0] rfl ?_
      exact l_X6_mixedWithRows_49 F   FU y3 y4 y6 (0 : Int32) M
    · refine r_lload F 2 dX6_mixedWithRows_24 rfl ?_
      refine r_aload F 3 dX6_mixedWithRows_26 rfl ?_
      refine r_chk (fun h2 => ?_)
      refine gf_X6_142 F dX6_mixedWithRows_28 (kb_k h2) ?_
      refine r_iload F 4 dX6_mixedWithRows_31 rfl ?_
      refine r_chk (fun h3 => ?_)
      refine r_iald F dX6_mixedWithRows_33 (kTw (kb_k h2)) (aTw (kb_k h2)) h3 ?_
      refine r_i2l F dX6_mixedWithRows_34 ?_
      refine r_cS (val := vL) (As := [.long y4, .long (((M.1 (y6 + 3) y7.toNatClampNeg)).toInt64)]) (rest := []) (fun q9 => .long q9 :: []) F (c_X6_mixed F.st F.gg y4 (((M.1 (y6 + 3) y7.toNatClampNeg)).toInt64) M) (fun _ _ => rfl) dX6_mixedWithRows_35 ml_X6_308 ys_X6_mixed rfl (by decide) rfl (Nat.le_of_ble_eq_true rfl) (fun _ => rfl) (fun r35 M35 => ?_)
      refine r_lstore (ls' := [(4, .long r35), (0, .ref (gA G 0)), (3, .int y3), (6, .ref (gA G y6)), (7, .int y7)]) F dX6_mixedWithRows_38 (by decide) rfl ?_
      refine r_iinc (ls' := fun q9 => [(7, .int q9), (4, .long r35), (0, .ref (gA G 0)), (3, .int y3), (6, .ref (gA G y6))]) (k := 4) (v := y7 + (1 : Int32)) F dX6_mixedWithRows_40 rfl rfl (by decide) (fun _ => rfl) (fun x40 => ?_)
      refine r_goto (tgt := 17) F dX6_mixedWithRows_43 (by decide) ?_
      refine r_sub [2, 3, 1, 4, 0] rfl ?_
      exact ih y3 r35 y6 x40 M35

def f_X6_mixedWithRows (a1 : Int64) (a3 : Int32) (M : Mem) : Option (Int64 × Mem) := chk (inb a3 6) <| bnd (tw 35 a3) fun b11 => f_X6_mixedWithRows_17  FU a3 a1 b11 (0 : Int32) M

set_option maxRecDepth 100000 in
set_option maxHeartbeats 4000000 in
theorem b_X6_mixedWithRows {G : GM} {p : Program} {l : Launch} {e : Env} {s : State} {m : MethodId} {args : Array Value} {below : List Frame} {meth : Method} {c : Code} (F : Fx G p l s m args meth c cX6_mixedWithRows RX6 8 (some .long)) (a1 : Int64) (a3 : Int32) (M : Mem) : Rf G p l e s m args below meth c 10 8 emL (f_X6_mixedWithRows a1 a3 M) 0 [(0, .ref (gA G 0)), (1, .long a1), (3, .int a3)] [] M := by
  unfold f_X6_mixedWithRows
  refine r_lload_n F 1 dX6_mixedWithRows_0 rfl rfl ?_
  refine r_lstore (ls' := [(4, .long a1), (0, .ref (gA G 0)), (1, .long a1), (3, .int a3)]) F dX6_mixedWithRows_1 (by decide) rfl ?_
  refine r_aload_n F 1 dX6_mixedWithRows_3 rfl rfl ?_
  refine gf_X6_10 F dX6_mixedWithRows_4 (rfl : kd 0 = 0) ?_
  refine gf_X6_76 F dX6_mixedWithRows_7 (rfl : kd 34 = 1) ?_
  refine r_iload_n F 3 dX6_mixedWithRows_10 rfl rfl ?_
  refine r_chk (fun h1 => ?_)
  refine r_aaldT F dX6_mixedWithRows_11 (rfl : kd 35 = 9) h1 ?_
  refine r_br (kTw' (rfl : kd 35 = 9) h1) (fun b11 k11 => ?_)
  refine r_astore (ls' := [(6, .ref (gA G b11)), (4, .long a1), (0, .ref (gA G 0)), (1, .long a1), (3, .int a3)]) F dX6_mixedWithRows_12 (by decide) rfl ?_
  refine r_iconst F dX6_mixedWithRows_14 (v := 0) (by decide) ?_
  refine r_istore (ls' := [(7, .int (0 : Int32)), (6, .ref (gA G b11)), (4, .long a1), (0, .ref (gA G 0)), (1, .long a1), (3, .int a3)]) F dX6_mixedWithRows_15 (by decide) rfl ?_
  refine r_sub [3, 5, 2, 1, 0] rfl ?_
  exact l_X6_mixedWithRows_17 F   FU a3 a1 b11 (0 : Int32) M

set_option maxRecDepth 100000 in
set_option maxHeartbeats 4000000 in
theorem c_X6_mixedWithRows {l : Launch} {G : GM} (hl : l.stackTraces = false) (hG : GG G) (a1 : Int64) (a3 : Int32) (M : Mem) : ∀ r, f_X6_mixedWithRows a1 a3 M = some r → Ctr l G yX6_mixedWithRows (.code yX6_mixedWithRows cX6_mixedWithRows 8 (some .long) :: wsA) 10 [.ref (gA G 0), .long a1, .int a3] M (emL r) :=
  ctr_of (by decide) hl hG (Nat.le_of_ble_eq_true rfl) (fun p e s m args below meth c F => b_X6_mixedWithRows F a1 a3 M)

