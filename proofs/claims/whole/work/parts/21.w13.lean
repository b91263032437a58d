-- ===== X7_errorAt DrumTownsModel.errorAt()I =====
theorem yv_X7_errorAt : yV yX7_errorAt cX7_errorAt 3 (some .int) 0 := ⟨im_X7_errorAt, sl_X7_errorAt, ini_X7, cd_X7_errorAt, ⟨by decide, by decide, by decide +kernel⟩, by decide⟩

def f_X7_errorAt_50 (k12 : Int32 → Mem → Option (Int32 × Mem)) (y1 : Int32) (z0 : Int32) (M : Mem) : Option (Int32 × Mem) := if z0 = 0 then (some (y1, M)) else (bnd (y1 + (1 : Int32)) fun x57 => k12 x57 M)

set_option maxRecDepth 100000 in
set_option maxHeartbeats 4000000 in
theorem l_X7_errorAt_50 {G : GM} {p : Program} {l : Launch} {e : Env} {s : State} {m : MethodId} {args : Array Value} {below : List Frame} {meth : Method} {c : Code} (F : Fx G p l s m args meth c cX7_errorAt RX7 3 (some .int)) (k12 : Int32 → Mem → Option (Int32 × Mem)) (H12 : ∀ (y1 : Int32) (M : Mem), Rf G p l e s m args below meth c 8 3 emI (k12 y1 M) 12 [(0, .ref (gA G 24)), (1, .int y1)] [] M) (y1 : Int32) (z0 : Int32) (M : Mem) : Rf G p l e s m args below meth c 8 3 emI (f_X7_errorAt_50 k12 y1 z0 M) 50 [(0, .ref (gA G 24)), (1, .int y1)] [.int z0] M := by
  unfold f_X7_errorAt_50
  refine r_istore_n (ls' := [(2, .int z0), (0, .ref (gA G 24)), (1, .int y1)]) F dX7_errorAt_50 rfl (by decide) rfl ?_
  refine r_iload_n F 0 dX7_errorAt_51 rfl rfl ?_
  refine r_if_ne (tgt := 57) F dX7_errorAt_52 (by decide) (fun c1 => ?_) (fun c1 => ?_)
  · refine r_iload_n F 2 dX7_errorAt_55 rfl rfl ?_
    exact r_iret F rfl dX7_errorAt_56 rfl
  · refine r_iinc (ls' := fun q9 => [(1, .int q9), (2, .int z0), (0, .ref (gA G 24))]) (k := 2) (v := y1 + (1 : Int32)) F dX7_errorAt_57 rfl rfl (by decide) (fun _ => rfl) (fun x57 => ?_)
    refine r_goto (tgt := 12) F dX7_errorAt_60 (by decide) ?_
    refine r_sub [2, 0] rfl ?_
    exact H12 x57 M

def f_X7_errorAt_12 : Nat → Int32 → Mem → Option (Int32 × Mem)
  | 0, _, _ => none
  | n + 1, y1, M => if (M.1 24 4) ≤ y1 then (some ((M.1 24 4), M)) else (if (M.1 24 16) = 0 then (chk (inb y1 60) <| bn (f_X7_begins (M.1 26 y1.toNatClampNeg) M) fun r47 M47 => f_X7_errorAt_50 (f_X7_errorAt_12  n) y1 r47 M47) else (chk (inb y1 60) <| bn (f_X7_goesOn (M.1 26 y1.toNatClampNeg) M) fun r34 M34 => f_X7_errorAt_50 (f_X7_errorAt_12  n) y1 r34 M34))

set_option maxRecDepth 100000 in
set_option maxHeartbeats 4000000 in
theorem l_X7_errorAt_12 {G : GM} {p : Program} {l : Launch} {e : Env} {s : State} {m : MethodId} {args : Array Value} {below : List Frame} {meth : Method} {c : Code} (F : Fx G p l s m args meth c cX7_errorAt RX7 3 (some .int)) : ∀ (n : Nat) (y1 : Int32) (M : Mem), Rf G p l e s m args below meth c 8 3 emI (f_X7_errorAt_12  n y1 M) 12 [(0, .ref (gA G 24)), (1, .int y1)] [] M := by
  intro n
  induction n with
  | zero => intros; exact r_none
  | succ n ih =>
    intro y1 M
    rw [f_X7_errorAt_12]
    refine r_iload_n F 1 dX7_errorAt_12 rfl rfl ?_
    refine r_aload_n F 0 dX7_errorAt_13 rfl rfl ?_
    refine gf_X7_149 F dX7_errorAt_14 (rfl : kd 24 = 7) ?_
    refine r_icmp_ge (tgt := 63) F dX7_errorAt_17 (by decide) (fun c1 => ?_) (fun c1 => ?_)
    · refine r_aload_n F 0 dX7_errorAt_63 rfl rfl ?_
      refine gf_X7_149 F dX7_errorAt_64 (rfl : kd 24 = 7) ?_
      exact r_iret F rfl dX7_errorAt_67 rfl
    · refine r_aload_n F 0 dX7_errorAt_20 rfl rfl ?_
      refine gf_X7_155 F dX7_errorAt_21 (rfl : kd 24 = 7) ?_
      refine r_if_eq (tgt := 40) F dX7_errorAt_24 (by decide) (fun c2 => ?_) (fun c2 => ?_)
      · refine r_aload_n F 0 dX7_errorAt_40 rfl rfl ?_
        refine r_aload_n F 0 dX7_errorAt_41 rfl rfl ?_
        refine gf_X7_13 F dX7_errorAt_42 (rfl : kd 24 = 7) ?_
        refine r_iload_n F 1 dX7_errorAt_45 rfl rfl ?_
        refine r_chk (fun h3 => ?_)
        refine r_iald F dX7_errorAt_46 (rfl : kd 26 = 8) (rfl : al 26 = 60) h3 ?_
        refine r_cV (val := vI) (As := [.int (M.1 26 y1.toNatClampNeg)]) (rest := []) (fun q9 => .int q9 :: []) F (c_X7_begins F.st F.gg (M.1 26 y1.toNatClampNeg) M) (fun _ _ => rfl) dX7_errorAt_47 ml_X7_168 yv_X7_begins (rfl : kd 24 = 7) (by decide) rfl rfl (by decide) rfl (Nat.le_of_ble_eq_true rfl) (fun _ => rfl) (fun r47 M47 => ?_)
        refine r_sub [0, 1] rfl ?_
        exact l_X7_errorAt_50 F (f_X7_errorAt_12  n) (fun q0 M9 => ih q0 M9) y1 r47 M47
      · refine r_aload_n F 0 dX7_errorAt_27 rfl rfl ?_
        refine r_aload_n F 0 dX7_errorAt_28 rfl rfl ?_
        refine gf_X7_13 F dX7_errorAt_29 (rfl : kd 24 = 7) ?_
        refine r_iload_n F 1 dX7_errorAt_32 rfl rfl ?_
        refine r_chk (fun h4 => ?_)
        refine r_iald F dX7_errorAt_33 (rfl : kd 26 = 8) (rfl : al 26 = 60) h4 ?_
        refine r_cV (val := vI) (As := [.int (M.1 26 y1.toNatClampNeg)]) (rest := []) (fun q9 => .int q9 :: []) F (c_X7_goesOn F.st F.gg (M.1 26 y1.toNatClampNeg) M) (fun _ _ => rfl) dX7_errorAt_34 ml_X7_165 yv_X7_goesOn (rfl : kd 24 = 7) (by decide) rfl rfl (by decide) rfl (Nat.le_of_ble_eq_true rfl) (fun _ => rfl) (fun r34 M34 => ?_)
        refine r_goto (tgt := 50) F dX7_errorAt_37 (by decide) ?_
        refine r_sub [0, 1] rfl ?_
        exact l_X7_errorAt_50 F (f_X7_errorAt_12  n) (fun q0 M9 => ih q0 M9) y1 r34 M34

def f_X7_errorAt  (M : Mem) : Option (Int32 × Mem) := bnd (mw M 24 15 (0 : Int32)) fun M2 => bnd (mw M2 24 16 (0 : Int32)) fun M7 => f_X7_errorAt_12  FU (0 : Int32) M7

set_option maxRecDepth 100000 in
set_option maxHeartbeats 4000000 in
theorem b_X7_errorAt {G : GM} {p : Program} {l : Launch} {e : Env} {s : State} {m : MethodId} {args : Array Value} {below : List Frame} {meth : Method} {c : Code} (F : Fx G p l s m args meth c cX7_errorAt RX7 3 (some .int))  (M : Mem) : Rf G p l e s m args below meth c 8 3 emI (f_X7_errorAt  M) 0 [(0, .ref (gA G 24))] [] M := by
  unfold f_X7_errorAt
  refine r_aload_n F 0 dX7_errorAt_0 rfl rfl ?_
  refine r_iconst F dX7_errorAt_1 (v := 0) (by decide) ?_
  refine pf_X7_152 F dX7_errorAt_2 (rfl : kd 24 = 7) (fun M2 => ?_)
  refine r_aload_n F 0 dX7_errorAt_5 rfl rfl ?_
  refine r_iconst F dX7_errorAt_6 (v := 0) (by decide) ?_
  refine pf_X7_155 F dX7_errorAt_7 (rfl : kd 24 = 7) rfl (fun M7 => ?_)
  refine r_iconst F dX7_errorAt_10 (v := 0) (by decide) ?_
  refine r_istore_n (ls' := [(1, .int (0 : Int32)), (0, .ref (gA G 24))]) F dX7_errorAt_11 rfl (by decide) rfl ?_
  refine r_sub [1, 0] rfl ?_
  exact l_X7_errorAt_12 F   FU (0 : Int32) M7

set_option maxRecDepth 100000 in
set_option maxHeartbeats 4000000 in
theorem c_X7_errorAt {l : Launch} {G : GM} (hl : l.stackTraces = false) (hG : GG G)  (M : Mem) : ∀ r, f_X7_errorAt  M = some r → Ctr l G yX7_errorAt (.code yX7_errorAt cX7_errorAt 3 (some .int) :: wsA) 8 [.ref (gA G 24)] M (emI r) :=
  ctr_of (by decide) hl hG (Nat.le_of_ble_eq_true rfl) (fun p e s m args below meth c F => b_X7_errorAt F  M)

-- ===== X7_isPlace DrumTownsModel.isPlace(III)Z =====
theorem yv_X7_isPlace : yV yX7_isPlace cX7_isPlace 4 (some .boolean) 3 := ⟨im_X7_isPlace, sl_X7_isPlace, ini_X7, cd_X7_isPlace, ⟨by decide, by decide, by decide +kernel⟩, by decide⟩

def f_X7_isPlace_33 (z0 : Int32) (M : Mem) : Option (Int32 × Mem) := chk (isb z0) <| some (z0, M)

set_option maxRecDepth 100000 in
set_option maxHeartbeats 4000000 in
theorem l_X7_isPlace_33 {G : GM} {p : Program} {l : Launch} {e : Env} {s : State} {m : MethodId} {args : Array Value} {below : List Frame} {meth : Method} {c : Code} (F : Fx G p l s m args meth c cX7_isPlace RX7 4 (some .boolean)) (z0 : Int32) (M : Mem) : Rf G p l e s m args below meth c 8 4 emI (f_X7_isPlace_33  z0 M) 33 [] [.int z0] M := by
  unfold f_X7_isPlace_33
  refine r_chk (fun h1 => ?_)
  exact r_zret F rfl dX7_isPlace_33 rfl (isb_or h1)

def f_X7_isPlace_32  (M : Mem) : Option (Int32 × Mem) := f_X7_isPlace_33  (0 : Int32) M

set_option maxRecDepth 100000 in
set_option maxHeartbeats 4000000 in
theorem l_X7_isPlace_32 {G : GM} {p : Program} {l : Launch} {e : Env} {s : State} {m : MethodId} {args : Array Value} {below : List Frame} {meth : Method} {c : Code} (F : Fx G p l s m args meth c cX7_isPlace RX7 4 (some .boolean))  (M : Mem) : Rf G p l e s m args below meth c 8 4 emI (f_X7_isPlace_32   M) 32 [] [] M := by
  unfold f_X7_isPlace_32
  refine r_iconst F dX7_isPlace_32 (v := 0) (by decide) ?_
  refine r_sub [] rfl ?_
  exact l_X7_isPlace_33 F   (0 : Int32) M

def f_X7_isPlace (a1 : Int32) (a2 : Int32) (a3 : Int32) (M : Mem) : Option (Int32 × Mem) := bn (f_X7_isTown a1 M) fun r2 M2 => if r2 = 0 then (f_X7_isPlace_32   M2) else (bn (f_X7_in a2 (0 : Int32) (23 : Int32) M2) fun r12 M12 => if r12 = 0 then (f_X7_isPlace_32   M12) else (bn (f_X7_in a3 (0 : Int32) (11 : Int32) M12) fun r22 M22 => if r22 = 0 then (f_X7_isPlace_32   M22) else (f_X7_isPlace_33  (1 : Int32) M22)))

set_option maxRecDepth 100000 in
set_option maxHeartbeats 4000000 in
theorem b_X7_isPlace {G : GM} {p : Program} {l : Launch} {e : Env} {s : State} {m : MethodId} {args : Array Value} {below : List Frame} {meth : Method} {c : Code} (F : Fx G p l s m args meth c cX7_isPlace RX7 4 (some .boolean)) (a1 : Int32) (a2 : Int32) (a3 : Int32) (M : Mem) : Rf G p l e s m args below meth c 8 4 emI (f_X7_isPlace a1 a2 a3 M) 0 [(0, .ref (gA G 24)), (1, .int a1), (2, .int a2), (3, .int a3)] [] M := by
  unfold f_X7_isPlace
  refine r_aload_n F 0 dX7_isPlace_0 rfl rfl ?_
  refine r_iload_n F 1 dX7_isPlace_1 rfl rfl ?_
  refine r_cV (val := vI) (As := [.int a1]) (rest := []) (fun q9 => .int q9 :: []) F (c_X7_isTown F.st F.gg a1 M) (fun _ _ => rfl) dX7_isPlace_2 ml_X7_45 yv_X7_isTown (rfl : kd 24 = 7) (by decide) rfl rfl (by decide) rfl (Nat.le_of_ble_eq_true rfl) (fun _ => rfl) (fun r2 M2 => ?_)
  refine r_if_eq (tgt := 32) F dX7_isPlace_5 (by decide) (fun c1 => ?_) (fun c1 => ?_)
  · refine r_sub [] rfl ?_
    exact l_X7_isPlace_32 F    M2
  · refine r_iload_n F 2 dX7_isPlace_8 rfl rfl ?_
    refine r_iconst F dX7_isPlace_9 (v := 0) (by decide) ?_
    refine r_bipush F dX7_isPlace_10 (v := 23) (by decide) ?_
    refine r_cS (val := vI) (As := [.int a2, .int (0 : Int32), .int (23 : Int32)]) (rest := []) (fun q9 => .int q9 :: []) F (c_X7_in F.st F.gg a2 (0 : Int32) (23 : Int32) M2) (fun _ _ => rfl) dX7_isPlace_12 ml_X7_41 ys_X7_in rfl (by decide) rfl (Nat.le_of_ble_eq_true rfl) (fun _ => rfl) (fun r12 M12 => ?_)
    refine r_if_eq (tgt := 32) F dX7_isPlace_15 (by decide) (fun c2 => ?_) (fun c2 => ?_)
    · refine r_sub [] rfl ?_
      exact l_X7_isPlace_32 F    M12
    · refine r_iload_n F 3 dX7_isPlace_18 rfl rfl ?_
      refine r_iconst F dX7_isPlace_19 (v := 0) (by decide) ?_
      refine r_bipush F dX7_isPlace_20 (v := 11) (by decide) ?_
      refine r_cS (val := vI) (As := [.int a3, .int (0 : Int32), .int (11 : Int32)]) (rest := []) (fun q9 => .int q9 :: []) F (c_X7_in F.st F.gg a3 (0 : Int32) (11 : Int32) M12) (fun _ _ => rfl) dX7_isPlace_22 ml_X7_41 ys_X7_in rfl (by decide) rfl (Nat.le_of_ble_eq_true rfl) (fun _ => rfl) (fun r22 M22 => ?_)
      refine r_if_eq (tgt := 32) F dX7_isPlace_25 (by decide) (fun c3 => ?_) (fun c3 => ?_)
      · refine r_sub [] rfl ?_
        exact l_X7_isPlace_32 F    M22
      · refine r_iconst F dX7_isPlace_28 (v := 1) (by decide) ?_
        refine r_goto (tgt := 33) F dX7_isPlace_29 (by decide) ?_
        refine r_sub [] rfl ?_
        exact l_X7_isPlace_33 F   (1 : Int32) M22

set_option maxRecDepth 100000 in
set_option maxHeartbeats 4000000 in
theorem c_X7_isPlace {l : Launch} {G : GM} (hl : l.stackTraces = false) (hG : GG G) (a1 : Int32) (a2 : Int32) (a3 : Int32) (M : Mem) : ∀ r, f_X7_isPlace a1 a2 a3 M = some r → Ctr l G yX7_isPlace (.code yX7_isPlace cX7_isPlace 4 (some .boolean) :: wsA) 8 [.ref (gA G 24), .int a1, .int a2, .int a3] M (emI r) :=
  ctr_of (by decide) hl hG (Nat.le_of_ble_eq_true rfl) (fun p e s m args below meth c F => b_X7_isPlace F a1 a2 a3 M)

-- ===== X7_file DrumTownsModel.file(II)I =====
theorem yv_X7_file : yV yX7_file cX7_file 4 (some .int) 2 := ⟨im_X7_file, sl_X7_file, ini_X7, cd_X7_file, ⟨by decide, by decide, by decide +kernel⟩, by decide⟩

def f_X7_file_16 (y1 : Int32) (y2 : Int32) (z1 : Int32) (M : Mem) : Option (Int32 × Mem) := bnd (mw M 24 2 z1) fun M16 => if (M16.1 24 2) = 0 then (bn (f_X7_keep M16) fun _ M29 => chk (inb (((294 : Int32) + ((12 : Int32) * y1)) + y2) 3424) <| bnd (M29.1 25 (((294 : Int32) + ((12 : Int32) * y1)) + y2).toNatClampNeg) fun x47 => chk (inb (((294 : Int32) + ((12 : Int32) * y1)) + y2) 3424) <| bnd (mw M29 25 (((294 : Int32) + ((12 : Int32) * y1)) + y2).toNatClampNeg (0 : Int32)) fun M63 => some (x47, M63)) else (some ((0 : Int32), M16))

set_option maxRecDepth 100000 in
set_option maxHeartbeats 4000000 in
theorem l_X7_file_16 {G : GM} {p : Program} {l : Launch} {e : Env} {s : State} {m : MethodId} {args : Array Value} {below : List Frame} {meth : Method} {c : Code} (F : Fx G p l s m args meth c cX7_file RX7 4 (some .int)) (y1 : Int32) (y2 : Int32) (z1 : Int32) (M : Mem) : Rf G p l e s m args below meth c 9 4 emI (f_X7_file_16  y1 y2 z1 M) 16 [(0, .ref (gA G 24)), (1, .int y1), (2, .int y2)] [.int z1, .ref (gA G 24)] M := by
  unfold f_X7_file_16
  refine pf_X7_37 F dX7_file_16 (rfl : kd 24 = 7) (fun M16 => ?_)
  refine r_aload_n F 0 dX7_file_19 rfl rfl ?_
  refine gf_X7_37 F dX7_file_20 (rfl : kd 24 = 7) ?_
  refine r_if_eq (tgt := 28) F dX7_file_23 (by decide) (fun c1 => ?_) (fun c1 => ?_)
  · refine r_aload_n F 0 dX7_file_28 rfl rfl ?_
    refine r_cV (val := vU) (As := []) (rest := []) (fun _ => []) F (c_X7_keep F.st F.gg  M16) (fun _ _ => rfl) dX7_file_29 ml_X7_64 yv_X7_keep (rfl : kd 24 = 7) (by decide) rfl rfl (by decide) rfl (Nat.le_of_ble_eq_true rfl) (fun _ => rfl) (fun _ M29 => ?_)
    refine r_aload_n F 0 dX7_file_32 rfl rfl ?_
    refine gf_X7_7 F dX7_file_33 (rfl : kd 24 = 7) ?_
    refine r_sipush F dX7_file_36 (v := 294) (by decide) ?_
    refine r_bipush F dX7_file_39 (v := 12) (by decide) ?_
    refine r_iload_n F 1 dX7_file_41 rfl rfl ?_
    refine r_imul F dX7_file_42 ?_
    refine r_iadd F dX7_file_43 ?_
    refine r_iload_n F 2 dX7_file_44 rfl rfl ?_
    refine r_iadd F dX7_file_45 ?_
    refine r_chk (fun h2 => ?_)
    refine r_iald F dX7_file_46 (rfl : kd 25 = 8) (rfl : al 25 = 3424) h2 ?_
    refine r_bi (fun x47 => ?_)
    refine r_istore_n (ls' := [(3, .int x47), (0, .ref (gA G 24)), (1, .int y1), (2, .int y2)]) F dX7_file_47 rfl (by decide) rfl ?_
    refine r_aload_n F 1 dX7_file_48 rfl rfl ?_
    refine gf_X7_7 F dX7_file_49 (rfl : kd 24 = 7) ?_
    refine r_sipush F dX7_file_52 (v := 294) (by decide) ?_
    refine r_bipush F dX7_file_55 (v := 12) (by decide) ?_
    refine r_iload_n F 2 dX7_file_57 rfl rfl ?_
    refine r_imul F dX7_file_58 ?_
    refine r_iadd F dX7_file_59 ?_
    refine r_iload_n F 3 dX7_file_60 rfl rfl ?_
    refine r_iadd F dX7_file_61 ?_
    refine r_iconst F dX7_file_62 (v := 0) (by decide) ?_
    refine r_chk (fun h3 => ?_)
    refine r_iast F dX7_file_63 (rfl : kd 25 = 8) (rfl : al 25 = 3424) h3 (fun M63 => ?_)
    refine r_iload_n F 0 dX7_file_64 rfl rfl ?_
    exact r_iret F rfl dX7_file_65 rfl
  · refine r_iconst F dX7_file_26 (v := 0) (by decide) ?_
    exact r_iret F rfl dX7_file_27 rfl

def f_X7_file (a1 : Int32) (a2 : Int32) (M : Mem) : Option (Int32 × Mem) := bn (f_X7_isPlace a1 (0 : Int32) a2 M) fun r5 M5 => if r5 = 0 then (f_X7_file_16  a1 a2 (1 : Int32) M5) else (f_X7_file_16  a1 a2 (0 : Int32) M5)

set_option maxRecDepth 100000 in
set_option maxHeartbeats 4000000 in
theorem b_X7_file {G : GM} {p : Program} {l : Launch} {e : Env} {s : State} {m : MethodId} {args : Array Value} {below : List Frame} {meth : Method} {c : Code} (F : Fx G p l s m args meth c cX7_file RX7 4 (some .int)) (a1 : Int32) (a2 : Int32) (M : Mem) : Rf G p l e s m args below meth c 9 4 emI (f_X7_file a1 a2 M) 0 [(0, .ref (gA G 24)), (1, .int a1), (2, .int a2)] [] M := by
  unfold f_X7_file
  refine r_aload_n F 0 dX7_file_0 rfl rfl ?_
  refine r_aload_n F 0 dX7_file_1 rfl rfl ?_
  refine r_iload_n F 1 dX7_file_2 rfl rfl ?_
  refine r_iconst F dX7_file_3 (v := 0) (by decide) ?_
  refine r_iload_n F 2 dX7_file_4 rfl rfl ?_
  refine r_cV (val := vI) (As := [.int a1, .int (0 : Int32), .int a2]) (rest := [.ref (gA G 24)]) (fun q9 => .int q9 :: [.ref (gA G 24)]) F (c_X7_isPlace F.st F.gg a1 (0 : Int32) a2 M) (fun _ _ => rfl) dX7_file_5 ml_X7_67 yv_X7_isPlace (rfl : kd 24 = 7) (by decide) rfl rfl (by decide) rfl (Nat.le_of_ble_eq_true rfl) (fun _ => rfl) (fun r5 M5 => ?_)
  refine r_if_eq (tgt := 15) F dX7_file_8 (by decide) (fun c1 => ?_) (fun c1 => ?_)
  · refine r_iconst F dX7_file_15 (v := 1) (by decide) ?_
    refine r_sub [0, 1, 2] rfl ?_
    exact l_X7_file_16 F   a1 a2 (1 : Int32) M5
  · refine r_iconst F dX7_file_11 (v := 0) (by decide) ?_
    refine r_goto (tgt := 16) F dX7_file_12 (by decide) ?_
    refine r_sub [0, 1, 2] rfl ?_
    exact l_X7_file_16 F   a1 a2 (0 : Int32) M5

set_option maxRecDepth 100000 in
set_option maxHeartbeats 4000000 in
theorem c_X7_file {l : Launch} {G : GM} (hl : l.stackTraces = false) (hG : GG G) (a1 : Int32) (a2 : Int32) (M : Mem) : ∀ r, f_X7_file a1 a2 M = some r → Ctr l G yX7_file (.code yX7_file cX7_file 4 (some .int) :: wsA) 9 [.ref (gA G 24), .int a1, .int a2] M (emI r) :=
  ctr_of (by decide) hl hG (Nat.le_of_ble_eq_true rfl) (fun p e s m args below meth c F => b_X7_file F a1 a2 M)

-- ===== X7_firstError DrumTownsModel.firstError()I =====
theorem yv_X7_firstError : yV yX7_firstError cX7_firstError 1 (some .int) 0 := ⟨im_X7_firstError, sl_X7_firstError, ini_X7, cd_X7_firstError, ⟨by decide, by decide, by decide +kernel⟩, by decide⟩

def f_X7_firstError  (M : Mem) : Option (Int32 × Mem) := bnd (mw M 24 2 (0 : Int32)) fun M2 => bn (f_X7_errorAt M2) fun r6 M6 => some (r6, M6)

set_option maxRecDepth 100000 in
set_option maxHeartbeats 4000000 in
theorem b_X7_firstError {G : GM} {p : Program} {l : Launch} {e : Env} {s : State} {m : MethodId} {args : Array Value} {below : List Frame} {meth : Method} {c : Code} (F : Fx G p l s m args meth c cX7_firstError RX7 1 (some .int))  (M : Mem) : Rf G p l e s m args below meth c 9 1 emI (f_X7_firstError  M) 0 [(0, .ref (gA G 24))] [] M := by
  unfold f_X7_firstError
  refine r_aload_n F 0 dX7_firstError_0 rfl rfl ?_
  refine r_iconst F dX7_firstError_1 (v := 0) (by decide) ?_
  refine pf_X7_37 F dX7_firstError_2 (rfl : kd 24 = 7) (fun M2 => ?_)
  refine r_aload_n F 0 dX7_firstError_5 rfl rfl ?_
  refine r_cV (val := vI) (As := []) (rest := []) (fun q9 => .int q9 :: []) F (c_X7_errorAt F.st F.gg  M2) (fun _ _ => rfl) dX7_firstError_6 ml_X7_171 yv_X7_errorAt (rfl : kd 24 = 7) (by decide) rfl rfl (by decide) rfl (Nat.le_of_ble_eq_true rfl) (fun _ => rfl) (fun r6 M6 => ?_)
  exact r_iret F rfl dX7_firstError_9 rfl

set_option maxRecDepth 100000 in
set_option maxHeartbeats 4000000 in
theorem c_X7_firstError {l : Launch} {G : GM} (hl : l.stackTraces = false) (hG : GG G)  (M : Mem) : ∀ r, f_X7_firstError  M = some r → Ctr l G yX7_firstError (.code yX7_firstError cX7_firstError 1 (some .int) :: wsA) 9 [.ref (gA G 24)] M (emI r) :=
  ctr_of (by decide) hl hG (Nat.le_of_ble_eq_true rfl) (fun p e s m args below meth c F => b_X7_firstError F  M)

-- ===== X7_go DrumTownsModel.go(III)V =====
theorem yv_X7_go : yV yX7_go cX7_go 4 none 3 := ⟨im_X7_go, sl_X7_go, ini_X7, cd_X7_go, ⟨by decide, by decide, by decide +kernel⟩, by decide⟩

def f_X7_go (a1 : Int32) (a2 : Int32) (a3 : Int32) (M : Mem) : Option (Unit × Mem) := chk (inb ((0 : Int32) + a1) 3424) <| chk (inb ((0 : Int32) + a1) 3424) <| bnd (mw M 25 ((0 : Int32) + a1).toNatClampNeg ((M.1 25 ((0 : Int32) + a1).toNatClampNeg) - a3)) fun M11 => chk (inb ((0 : Int32) + a2) 3424) <| chk (inb ((0 : Int32) + a2) 3424) <| bnd (mw M11 25 ((0 : Int32) + a2).toNatClampNeg ((M11.1 25 ((0 : Int32) + a2).toNatClampNeg) + a3)) fun M23 => some ((), M23)

set_option maxRecDepth 100000 in
set_option maxHeartbeats 4000000 in
theorem b_X7_go {G : GM} {p : Program} {l : Launch} {e : Env} {s : State} {m : MethodId} {args : Array Value} {below : List Frame} {meth : Method} {c : Code} (F : Fx G p l s m args meth c cX7_go RX7 4 none) (a1 : Int32) (a2 : Int32) (a3 : Int32) (M : Mem) : Rf G p l e s m args below meth c 6 4 emV (f_X7_go a1 a2 a3 M) 0 [(0, .ref (gA G 24)), (1, .int a1), (2, .int a2), (3, .int a3)] [] M := by
  unfold f_X7_go
  refine r_aload_n F 0 dX7_go_0 rfl rfl ?_
  refine gf_X7_7 F dX7_go_1 (rfl : kd 24 = 7) ?_
  refine r_iconst F dX7_go_4 (v := 0) (by decide) ?_
  refine r_iload_n F 1 dX7_go_5 rfl rfl ?_
  refine r_iadd F dX7_go_6 ?_
  refine r_dup2 F dX7_go_7 rfl rfl ?_
  refine r_chk (fun h1 => ?_)
  refine r_iald F dX7_go_8 (rfl : kd 25 = 8) (rfl : al 25 = 3424) h1 ?_
  refine r_iload_n F 3 dX7_go_9 rfl rfl ?_
  refine r_isub F dX7_go_10 ?_
  refine r_chk (fun h2 => ?_)
  refine r_iast F dX7_go_11 (rfl : kd 25 = 8) (rfl : al 25 = 3424) h2 (fun M11 => ?_)
  refine r_aload_n F 0 dX7_go_12 rfl rfl ?_
  refine gf_X7_7 F dX7_go_13 (rfl : kd 24 = 7) ?_
  refine r_iconst F dX7_go_16 (v := 0) (by decide) ?_
  refine r_iload_n F 2 dX7_go_17 rfl rfl ?_
  refine r_iadd F dX7_go_18 ?_
  refine r_dup2 F dX7_go_19 rfl rfl ?_
  refine r_chk (fun h3 => ?_)
  refine r_iald F dX7_go_20 (rfl : kd 25 = 8) (rfl : al 25 = 3424) h3 ?_
  refine r_iload_n F 3 dX7_go_21 rfl rfl ?_
  refine r_iadd F dX7_go_22 ?_
  refine r_chk (fun h4 => ?_)
  refine r_iast F dX7_go_23 (rfl : kd 25 = 8) (rfl : al 25 = 3424) h4 (fun M23 => ?_)
  exact r_vret F rfl dX7_go_24 rfl

set_option maxRecDepth 100000 in
set_option maxHeartbeats 4000000 in
theorem c_X7_go {l : Launch} {G : GM} (hl : l.stackTraces = false) (hG : GG G) (a1 : Int32) (a2 : Int32) (a3 : Int32) (M : Mem) : ∀ r, f_X7_go a1 a2 a3 M = some r → Ctr l G yX7_go (.code yX7_go cX7_go 4 none :: wsA) 6 [.ref (gA G 24), .int a1, .int a2, .int a3] M (emV r) :=
  ctr_of (by decide) hl hG (Nat.le_of_ble_eq_true rfl) (fun p e s m args below meth c F => b_X7_go F a1 a2 a3 M)

-- ===== X7_ifPlayed DrumTownsModel.ifPlayed(II)I =====
theorem yv_X7_ifPlayed : yV yX7_ifPlayed cX7_ifPlayed 3 (some .int) 2 := ⟨im_X7_ifPlayed, sl_X7_ifPlayed, ini_X7, cd_X7_ifPlayed, ⟨by decide, by decide, by decide +kernel⟩, by decide⟩

def f_X7_ifPlayed_47 (z0 : Int32) (M : Mem) : Option (Int32 × Mem) := some (z0, M)

set_option maxRecDepth 100000 in
set_option maxHeartbeats 4000000 in
theorem l_X7_ifPlayed_47 {G : GM} {p : Program} {l : Launch} {e : Env} {s : State} {m : MethodId} {args : Array Value} {below : List Frame} {meth : Method} {c : Code} (F : Fx G p l s m args meth c cX7_ifPlayed RX7 3 (some .int)) (z0 : Int32) (M : Mem) : Rf G p l e s m args below meth c 11 3 emI (f_X7_ifPlayed_47  z0 M) 47 [] [.int z0] M := by
  unfold f_X7_ifPlayed_47
  exact r_iret F rfl dX7_ifPlayed_47 rfl

def f_X7_ifPlayed_27 (y1 : Int32) (y2 : Int32) (z1 : Int32) (M : Mem) : Option (Int32 × Mem) := bnd (mw M 24 2 z1) fun M27 => if (M27.1 24 2) = 0 then (bn (f_X7_ifPlayedOf y1 y2 M27) fun r40 M40 => f_X7_ifPlayed_47  r40 M40) else (f_X7_ifPlayed_47  (0 : Int32) M27)

set_option maxRecDepth 100000 in
set_option maxHeartbeats 4000000 in
theorem l_X7_ifPlayed_27 {G : GM} {p : Program} {l : Launch} {e : Env} {s : State} {m : MethodId} {args : Array Value} {below : List Frame} {meth : Method} {c : Code} (F : Fx G p l s m args meth c cX7_ifPlayed RX7 3 (some .int)) (y1 : Int32) (y2 : Int32) (z1 : Int32) (M : Mem) : Rf G p l e s m args below meth c 11 3 emI (f_X7_ifPlayed_27  y1 y2 z1 M) 27 [(0, .ref (gA G 24)), (1, .int y1), (2, .int y2)] [.int z1, .ref (gA G 24)] M := by
  unfold f_X7_ifPlayed_27
  refine pf_X7_37 F dX7_ifPlayed_27 (rfl : kd 24 = 7) (fun M27 => ?_)
  refine r_aload_n F 0 dX7_ifPlayed_30 rfl rfl ?_
  refine gf_X7_37 F dX7_ifPlayed_31 (rfl : kd 24 = 7) ?_
  refine r_if_ne (tgt := 46) F dX7_ifPlayed_34 (by decide) (fun c1 => ?_) (fun c1 => ?_)
  · refine r_aload_n F 0 dX7_ifPlayed_37 rfl rfl ?_
    refine r_iload_n F 1 dX7_ifPlayed_38 rfl rfl ?_
    refine r_iload_n F 2 dX7_ifPlayed_39 rfl rfl ?_
    refine r_cV (val := vI) (As := [.int y1, .int y2]) (rest := []) (fun q9 => .int q9 :: []) F (c_X7_ifPlayedOf F.st F.gg y1 y2 M27) (fun _ _ => rfl) dX7_ifPlayed_40 ml_X7_110 yv_X7_ifPlayedOf (rfl : kd 24 = 7) (by decide) rfl rfl (by decide) rfl (Nat.le_of_ble_eq_true rfl) (fun _ => rfl) (fun r40 M40 => ?_)
    refine r_goto (tgt := 47) F dX7_ifPlayed_43 (by decide) ?_
    refine r_sub [] rfl ?_
    exact l_X7_ifPlayed_47 F   r40 M40
  · refine r_iconst F dX7_ifPlayed_46 (v := 0) (by decide) ?_
    refine r_sub [] rfl ?_
    exact l_X7_ifPlayed_47 F   (0 : Int32) M27

def f_X7_ifPlayed (a1 : Int32) (a2 : Int32) (M : Mem) : Option (Int32 × Mem) := bn (f_X7_isTown a1 M) fun r3 M3 => if r3 = 0 then (f_X7_ifPlayed_27  a1 a2 (1 : Int32) M3) else (bn (f_X7_in a2 (0 : Int32) (4 : Int32) M3) fun r16 M16 => if r16 = 0 then (f_X7_ifPlayed_27  a1 a2 (2 : Int32) M16) else (f_X7_ifPlayed_27  a1 a2 (0 : Int32) M16))

set_option maxRecDepth 100000 in
set_option maxHeartbeats 4000000 in
theorem b_X7_ifPlayed {G : GM} {p : Program} {l : Launch} {e : Env} {s : State} {m : MethodId} {args : Array Value} {below : List Frame} {meth : Method} {c : Code} (F : Fx G p l s m args meth c cX7_ifPlayed RX7 3 (some .int)) (a1 : Int32) (a2 : Int32) (M : Mem) : Rf G p l e s m args below meth c 11 3 emI (f_X7_ifPlayed a1 a2 M) 0 [(0, .ref (gA G 24)), (1, .int a1), (2, .int a2)] [] M := by
  unfold f_X7_ifPlayed
  refine r_aload_n F 0 dX7_ifPlayed_0 rfl rfl ?_
  refine r_aload_n F 0 dX7_ifPlayed_1 rfl rfl ?_
  refine r_iload_n F 1 dX7_ifPlayed_2 rfl rfl ?_
  refine r_cV (val := vI) (As := [.int a1]) (rest := [.ref (gA G 24)]) (fun q9 => .int q9 :: [.ref (gA G 24)]) F (c_X7_isTown F.st F.gg a1 M) (fun _ _ => rfl) dX7_ifPlayed_3 ml_X7_45 yv_X7_isTown (rfl : kd 24 = 7) (by decide) rfl rfl (by decide) rfl (Nat.le_of_ble_eq_true rfl) (fun _ => rfl) (fun r3 M3 => ?_)
  refine r_if_ne (tgt := 13) F dX7_ifPlayed_6 (by decide) (fun c1 => ?_) (fun c1 => ?_)
  · refine r_iconst F dX7_ifPlayed_9 (v := 1) (by decide) ?_
    refine r_goto (tgt := 27) F dX7_ifPlayed_10 (by decide) ?_
    refine r_sub [0, 1, 2] rfl ?_
    exact l_X7_ifPlayed_27 F   a1 a2 (1 : Int32) M3
  · refine r_iload_n F 2 dX7_ifPlayed_13 rfl rfl ?_
    refine r_iconst F dX7_ifPlayed_14 (v := 0) (by decide) ?_
    refine r_iconst F dX7_ifPlayed_15 (v := 4) (by decide) ?_
    refine r_cS (val := vI) (As := [.int a2, .int (0 : Int32), .int (4 : Int32)]) (rest := [.ref (gA G 24)]) (fun q9 => .int q9 :: [.ref (gA G 24)]) F (c_X7_in F.st F.gg a2 (0 : Int32) (4 : Int32) M3) (fun _ _ => rfl) dX7_ifPlayed_16 ml_X7_41 ys_X7_in rfl (by decide) rfl (Nat.le_of_ble_eq_true rfl) (fun _ => rfl) (fun r16 M16 => ?_)
    refine r_if_ne (tgt := 26) F dX7_ifPlayed_19 (by decide) (fun c2 => ?_) (fun c2 => ?_)
    · refine r_iconst F dX7_ifPlayed_22 (v := 2) (by decide) ?_
      refine r_goto (tgt := 27) F dX7_ifPlayed_23 (by decide) ?_
      refine r_sub [0, 1, 2] rfl ?_
      exact l_X7_ifPlayed_27 F   a1 a2 (2 : Int32) M16
    · refine r_iconst F dX7_ifPlayed_26 (v := 0) (by decide) ?_
      refine r_sub [0, 1, 2] rfl ?_
      exact l_X7_ifPlayed_27 F   a1 a2 (0 : Int32) M16

set_option maxRecDepth 100000 in
set_option maxHeartbeats 4000000 in
theorem c_X7_ifPlayed {l : Launch} {G : GM} (hl : l.stackTraces = false) (hG : GG G) (a1 : Int32) (a2 : Int32) (M : Mem) : ∀ r, f_X7_ifPlayed a1 a2 M = some r → Ctr l G yX7_ifPlayed (.code yX7_ifPlayed cX7_ifPlayed 3 (some .int) :: wsA) 11 [.ref (gA G 24), .int a1, .int a2] M (emI r) :=
  ctr_of (by decide) hl hG (Nat.le_of_ble_eq_true rfl) (fun p e s m args below meth c F => b_X7_ifPlayed F a1 a2 M)

-- ===== X7_isTune DrumTownsModel.isTune()Z =====
theorem yv_X7_isTune : yV yX7_isTune cX7_isTune 1 (some .boolean) 0 := ⟨im_X7_isTune, sl_X7_isTune, ini_X7, cd_X7_isTune, ⟨by decide, by decide, by decide +kernel⟩, by decide⟩

def f_X7_isTune_30 (z0 : Int32) (M : Mem) : Option (Int32 × Mem) := chk (isb z0) <| some (z0, M)

set_option maxRecDepth 100000 in
set_option maxHeartbeats 4000000 in
theorem l_X7_isTune_30 {G : GM} {p : Program} {l : Launch} {e : Env} {s : State} {m : MethodId} {args : Array Value} {below : List Frame} {meth : Method} {c : Code} (F : Fx G p l s m args meth c cX7_isTune RX7 1 (some .boolean)) (z0 : Int32) (M : Mem) : Rf G p l e s m args below meth c 9 1 emI (f_X7_isTune_30  z0 M) 30 [] [.int z0] M := by
  unfold f_X7_isTune_30
  refine r_chk (fun h1 => ?_)
  exact r_zret F rfl dX7_isTune_30 rfl (isb_or h1)

def f_X7_isTune_29  (M : Mem) : Option (Int32 × Mem) := f_X7_isTune_30  (0 : Int32) M

set_option maxRecDepth 100000 in
set_option maxHeartbeats 4000000 in
theorem l_X7_isTune_29 {G : GM} {p : Program} {l : Launch} {e : Env} {s : State} {m : MethodId} {args : Array Value} {below : List Frame} {meth : Method} {c : Code} (F : Fx G p l s m args meth c cX7_isTune RX7 1 (some .boolean))  (M : Mem) : Rf G p l e s m args below meth c 9 1 emI (f_X7_isTune_29   M) 29 [] [] M := by
  unfold f_X7_isTune_29
  refine r_iconst F dX7_isTune_29 (v := 0) (by decide) ?_
  refine r_sub [] rfl ?_
  exact l_X7_isTune_30 F   (0 : Int32) M

def f_X7_isTune  (M : Mem) : Option (Int32 × Mem) := bn (f_X7_errorAt M) fun r1 M1 => if r1 = (M1.1 24 4) then (if (M1.1 24 16) = 0 then (if (M1.1 24 15) ≤ 0 then (f_X7_isTune_29   M1) else (f_X7_isTune_30  (1 : Int32) M1)) else (f_X7_isTune_29   M1)) else (f_X7_isTune_29   M1)

set_option maxRecDepth 100000 in
set_option maxHeartbeats 4000000 in
theorem b_X7_isTune {G : GM} {p : Program} {l : Launch} {e : Env} {s : State} {m : MethodId} {args : Array Value} {below : List Frame} {meth : Method} {c : Code} (F : Fx G p l s m args meth c cX7_isTune RX7 1 (some .boolean))  (M : Mem) : Rf G p l e s m args below meth c 9 1 emI (f_X7_isTune  M) 0 [(0, .ref (gA G 24))] [] M := by
  unfold f_X7_isTune
  refine r_aload_n F 0 dX7_isTune_0 rfl rfl ?_
  refine r_cV (val := vI) (As := []) (rest := []) (fun q9 => .int q9 :: []) F (c_X7_errorAt F.st F.gg  M) (fun _ _ => rfl) dX7_isTune_1 ml_X7_171 yv_X7_errorAt (rfl : kd 24 = 7) (by decide) rfl rfl (by decide) rfl (Nat.le_of_ble_eq_true rfl) (fun _ => rfl) (fun r1 M1 => ?_)
  refine r_aload_n F 0 dX7_isTune_4 rfl rfl ?_
  refine gf_X7_149 F dX7_isTune_5 (rfl : kd 24 = 7) ?_
  refine r_icmp_ne (tgt := 29) F dX7_isTune_8 (by decide) (fun c1 => ?_) (fun c1 => ?_)
  · refine r_aload_n F 0 dX7_isTune_11 rfl rfl ?_
    refine gf_X7_155 F dX7_isTune_12 (rfl : kd 24 = 7) ?_
    refine r_if_ne (tgt := 29) F dX7_isTune_15 (by decide) (fun c2 => ?_) (fun c2 => ?_)
    · refine r_aload_n F 0 dX7_isTune_18 rfl rfl ?_
      refine gf_X7_152 F dX7_isTune_19 (rfl : kd 24 = 7) ?_
      refine r_if_le (tgt := 29) F dX7_isTune_22 (by decide) (fun c3 => ?_) (fun c3 => ?_)
      · refine r_sub [] rfl ?_
        exact l_X7_isTune_29 F    M1
      · refine r_iconst F dX7_isTune_25 (v := 1) (by decide) ?_
        refine r_goto (tgt := 30) F dX7_isTune_26 (by decide) ?_
        refine r_sub [] rfl ?_
        exact l_X7_isTune_30 F   (1 : Int32) M1
    · refine r_sub [] rfl ?_
      exact l_X7_isTune_29 F    M1
  · refine r_sub [] rfl ?_
    exact l_X7_isTune_29 F    M1

set_option maxRecDepth 100000 in
set_option maxHeartbeats 4000000 in
theorem c_X7_isTune {l : Launch} {G : GM} (hl : l.stackTraces = false) (hG : GG G)  (M : Mem) : ∀ r, f_X7_isTune  M = some r → Ctr l G yX7_isTune (.code yX7_isTune cX7_isTune 1 (some .boolean) :: wsA) 9 [.ref (gA G 24)] M (emI r) :=
  ctr_of (by decide) hl hG (Nat.le_of_ble_eq_true rfl) (fun p e s m args below meth c F => b_X7_isTune F  M)

-- ===== X7_lastsFor DrumTownsModel.lastsFor(I)I =====
theorem yv_X7_lastsFor : yV yX7_lastsFor cX7_lastsFor 2 (some .int) 1 := ⟨im_X7_lastsFor, sl_X7_lastsFor, ini_X7, cd_X7_lastsFor, ⟨by decide, by decide, by decide +kernel⟩, by decide⟩

def f_X7_lastsFor_33 (z0 : Int32) (M : Mem) : Option (Int32 × Mem) := some (z0, M)

set_option maxRecDepth 100000 in
set_option maxHeartbeats 4000000 in
theorem l_X7_lastsFor_33 {G : GM} {p : Program} {l : Launch} {e : Env} {s : State} {m : MethodId} {args : Array Value} {below : List Frame} {meth : Method} {c : Code} (F : Fx G p l s m args meth c cX7_lastsFor RX7 2 (some .int)) (z0 : Int32) (M : Mem) : Rf G p l e s m args below meth c 10 2 emI (f_X7_lastsFor_33  z0 M) 33 [] [.int z0] M := by
  unfold f_X7_lastsFor_33
  exact r_iret F rfl dX7_lastsFor_33 rfl

def f_X7_lastsFor_14 (y1 : Int32) (z1 : Int32) (M : Mem) : Option (Int32 × Mem) := bnd (mw M 24 2 z1) fun M14 => if (M14.1 24 2) = 0 then (bn (f_X7_lastsOf y1 M14) fun r26 M26 => f_X7_lastsFor_33  r26 M26) else (f_X7_lastsFor_33  (0 : Int32) M14)

set_option maxRecDepth 100000 in
set_option maxHeartbeats 4000000 in
theorem l_X7_lastsFor_14 {G : GM} {p : Program} {l : Launch} {e : Env} {s : State} {m : MethodId} {args : Array Value} {below : List Frame} {meth : Method} {c : Code} (F : Fx G p l s m args meth c cX7_lastsFor RX7 2 (some .int)) (y1 : Int32) (z1 : Int32) (M : Mem) : Rf G p l e s m args below meth c 10 2 emI (f_X7_lastsFor_14  y1 z1 M) 14 [(0, .ref (gA G 24)), (1, .int y1)] [.int z1, .ref (gA G 24)] M := by
  unfold f_X7_lastsFor_14
  refine pf_X7_37 F dX7_lastsFor_14 (rfl : kd 24 = 7) (fun M14 => ?_)
  refine r_aload_n F 0 dX7_lastsFor_17 rfl rfl ?_
  refine gf_X7_37 F dX7_lastsFor_18 (rfl : kd 24 = 7) ?_
  refine r_if_ne (tgt := 32) F dX7_lastsFor_21 (by decide) (fun c1 => ?_) (fun c1 => ?_)
  · refine r_aload_n F 0 dX7_lastsFor_24 rfl rfl ?_
    refine r_iload_n F 1 dX7_lastsFor_25 rfl rfl ?_
    refine r_cV (val := vI) (As := [.int y1]) (rest := []) (fun q9 => .int q9 :: []) F (c_X7_lastsOf F.st F.gg y1 M14) (fun _ _ => rfl) dX7_lastsFor_26 ml_X7_113 yv_X7_lastsOf (rfl : kd 24 = 7) (by decide) rfl rfl (by decide) rfl (Nat.le_of_ble_eq_true rfl) (fun _ => rfl) (fun r26 M26 => ?_)
    refine r_goto (tgt := 33) F dX7_lastsFor_29 (by decide) ?_
    refine r_sub [] rfl ?_
    exact l_X7_lastsFor_33 F   r26 M26
  · refine r_iconst F dX7_lastsFor_32 (v := 0) (by decide) ?_
    refine r_sub [] rfl ?_
    exact l_X7_lastsFor_33 F   (0 : Int32) M14

def f_X7_lastsFor (a1 : Int32) (M : Mem) : Option (Int32 × Mem) := bn (f_X7_isTown a1 M) fun r3 M3 => if r3 = 0 then (f_X7_lastsFor_14  a1 (1 : Int32) M3) else (f_X7_lastsFor_14  a1 (0 : Int32) M3)

set_option maxRecDepth 100000 in
set_option maxHeartbeats 4000000 in
theorem b_X7_lastsFor {G : GM} {p : Program} {l : Launch} {e : Env} {s : State} {m : MethodId} {args : Array Value} {below : List Frame} {meth : Method} {c : Code} (F : Fx G p l s m args meth c cX7_lastsFor RX7 2 (some .int)) (a1 : Int32) (M : Mem) : Rf G p l e s m args below meth c 10 2 emI (f_X7_lastsFor a1 M) 0 [(0, .ref (gA G 24)), (1, .int a1)] [] M := by
  unfold f_X7_lastsFor
  refine r_aload_n F 0 dX7_lastsFor_0 rfl rfl ?_
  refine r_aload_n F 0 dX7_lastsFor_1 rfl rfl ?_
  refine r_iload_n F 1 dX7_lastsFor_2 rfl rfl ?_
  refine r_cV (val := vI) (As := [.int a1]) (rest := [.ref (gA G 24)]) (fun q9 => .int q9 :: [.ref (gA G 24)]) F (c_X7_isTown F.st F.gg a1 M) (fun _ _ => rfl) dX7_lastsFor_3 ml_X7_45 yv_X7_isTown (rfl : kd 24 = 7) (by decide) rfl rfl (by decide) rfl (Nat.le_of_ble_eq_true rfl) (fun _ => rfl) (fun r3 M3 => ?_)
  refine r_if_eq (tgt := 13) F dX7_lastsFor_6 (by decide) (fun c1 => ?_) (fun c1 => ?_)
  · refine r_iconst F dX7_lastsFor_13 (v := 1) (by decide) ?_
    refine r_sub [0, 1] rfl ?_
    exact l_X7_lastsFor_14 F   a1 (1 : Int32) M3
  · refine r_iconst F dX7_lastsFor_9 (v := 0) (by decide) ?_
    refine r_goto (tgt := 14) F dX7_lastsFor_10 (by decide) ?_
    refine r_sub [0, 1] rfl ?_
    exact l_X7_lastsFor_14 F   a1 (0 : Int32) M3

set_option maxRecDepth 100000 in
set_option maxHeartbeats 4000000 in
theorem c_X7_lastsFor {l : Launch} {G : GM} (hl : l.stackTraces = false) (hG : GG G) (a1 : Int32) (M : Mem) : ∀ r, f_X7_lastsFor a1 M = some r → Ctr l G yX7_lastsFor (.code yX7_lastsFor cX7_lastsFor 2 (some .int) :: wsA) 10 [.ref (gA G 24), .int a1] M (emI r) :=
  ctr_of (by decide) hl hG (Nat.le_of_ble_eq_true rfl) (fun p e s m args below meth c F => b_X7_lastsFor F a1 M)

-- ===== X7_learn DrumTownsModel.learn(I)I =====
theorem yv_X7_learn : yV yX7_learn cX7_learn 3 (some .int) 1 := ⟨im_X7_learn, sl_X7_learn, ini_X7, cd_X7_learn, ⟨by decide, by decide, by decide +kernel⟩, by decide⟩

def f_X7_learn_79 (k43 : Int32 → Int32 → Mem → Option (Int32 × Mem)) (y1 : Int32) (y2 : Int32) (z1 : Int32) (z2 : Int32) (M : Mem) : Option (Int32 × Mem) := chk (inb z1 3424) <| bnd (mw M 25 z1.toNatClampNeg z2) fun M79 => bnd (y2 + (1 : Int32)) fun x80 => k43 y1 x80 M79

set_option maxRecDepth 100000 in
set_option maxHeartbeats 4000000 in
theorem l_X7_learn_79 {G : GM} {p : Program} {l : Launch} {e : Env} {s : State} {m : MethodId} {args : Array Value} {below : List Frame} {meth : Method} {c : Code} (F : Fx G p l s m args meth c cX7_learn RX7 3 (some .int)) (k43 : Int32 → Int32 → Mem → Option (Int32 × Mem)) (H43 : ∀ (y1 : Int32) (y2 : Int32) (M : Mem), Rf G p l e s m args below meth c 10 3 emI (k43 y1 y2 M) 43 [(0, .ref (gA G 24)), (1, .int y1), (2, .int y2)] [] M) (y1 : Int32) (y2 : Int32) (z1 : Int32) (z2 : Int32) (M : Mem) : Rf G p l e s m args below meth c 10 3 emI (f_X7_learn_79 k43 y1 y2 z1 z2 M) 79 [(0, .ref (gA G 24)), (1, .int y1), (2, .int y2)] [.int z2, .int z1, .ref (gA G 25)] M := by
  unfold f_X7_learn_79
  refine r_chk (fun h1 => ?_)
  refine r_iast F dX7_learn_79 (rfl : kd 25 = 8) (rfl : al 25 = 3424) h1 (fun M79 => ?_)
  refine r_iinc (ls' := fun q9 => [(2, .int q9), (0, .ref (gA G 24)), (1, .int y1)]) (k := 2) (v := y2 + (1 : Int32)) F dX7_learn_80 rfl rfl (by decide) (fun _ => rfl) (fun x80 => ?_)
  refine r_goto (tgt := 43) F dX7_learn_83 (by decide) ?_
  refine r_sub [1, 2, 0] rfl ?_
  exact H43 y1 x80 M79

def f_X7_learn_43 : Nat → Int32 → Int32 → Mem → Option (Int32 × Mem)
  | 0, _, _, _ => none
  | n + 1, y1, y2, M => if (24 : Int32) ≤ y2 then (bnd (mw M 24 4 (0 : Int32)) fun M88 => bn (f_X7_pinsOf (150 : Int32) y1 M88) fun r96 M96 => some (r96, M96)) else (bn (f_X7_at (150 : Int32) y1 y2 M) fun r58 M58 => if (M58.1 24 15) ≤ y2 then (f_X7_learn_79 (f_X7_learn_43  n) y1 y2 r58 (0 : Int32) M58) else (chk (inb y2 24) <| f_X7_learn_79 (f_X7_learn_43  n) y1 y2 r58 (M58.1 30 y2.toNatClampNeg) M58))

set_option maxRecDepth 100000 in
set_option maxHeartbeats 4000000 in
theorem l_X7_learn_43 {G : GM} {p : Program} {l : Launch} {e : Env} {s : State} {m : MethodId} {args : Array Value} {below : List Frame} {meth : Method} {c : Code} (F : Fx G p l s m args meth c cX7_learn RX7 3 (some .int)) : ∀ (n : Nat) (y1 : Int32) (y2 : Int32) (M : Mem), Rf G p l e s m args below meth c 10 3 emI (f_X7_learn_43  n y1 y2 M) 43 [(0, .ref (gA G 24)), (1, .int y1), (2, .int y2)] [] M := by
  intro n
  induction n with
  | zero => intros; exact r_none
  | succ n ih =>
    intro y1 y2 M
    rw [f_X7_learn_43]
    refine r_iload_n F 2 dX7_learn_43 rfl rfl ?_
    refine r_bipush F dX7_learn_44 (v := 24) (by decide) ?_
    refine r_icmp_ge (tgt := 86) F dX7_learn_46 (by decide) (fun c1 => ?_) (fun c1 => ?_)
    · refine r_aload_n F 0 dX7_learn_86 rfl rfl ?_
      refine r_iconst F dX7_learn_87 (v := 0) (by decide) ?_
      refine pf_X7_149 F dX7_learn_88 (rfl : kd 24 = 7) (fun M88 => ?_)
      refine r_aload_n F 0 dX7_learn_91 rfl rfl ?_
      refine r_sipush F dX7_learn_92 (v := 150) (by decide) ?_
      refine r_iload_n F 1 dX7_learn_95 rfl rfl ?_
      refine r_cV (val := vI) (As := [.int (150 : Int32), .int y1]) (rest := []) (fun q9 => .int q9 :: []) F (c_X7_pinsOf F.st F.gg (150 : Int32) y1 M88) (fun _ _ => rfl) dX7_learn_96 ml_X7_74 yv_X7_pinsOf (rfl : kd 24 = 7) (by decide) rfl rfl (by decide) rfl (Nat.le_of_ble_eq_true rfl) (fun _ => rfl) (fun r96 M96 => ?_)
      exact r_iret F rfl dX7_learn_99 rfl
    · refine r_aload_n F 0 dX7_learn_49 rfl rfl ?_
      refine gf_X7_7 F dX7_learn_50 (rfl : kd 24 = 7) ?_
      refine r_sipush F dX7_learn_53 (v := 150) (by decide) ?_
      refine r_iload_n F 1 dX7_learn_56 rfl rfl ?_
      refine r_iload_n F 2 dX7_learn_57 rfl rfl ?_
      refine r_cS (val := vI) (As := [.int (150 : Int32), .int y1, .int y2]) (rest := [.ref (gA G 25)]) (fun q9 => .int q9 :: [.ref (gA G 25)]) F (c_X7_at F.st F.gg (150 : Int32) y1 y2 M) (fun _ _ => rfl) dX7_learn_58 ml_X7_56 ys_X7_at rfl (by decide) rfl (Nat.le_of_ble_eq_true rfl) (fun _ => rfl) (fun r58 M58 => ?_)
      refine r_iload_n F 2 dX7_learn_61 rfl rfl ?_
      refine r_aload_n F 0 dX7_learn_62 rfl rfl ?_
      refine gf_X7_152 F dX7_learn_63 (rfl : kd 24 = 7) ?_
      refine r_icmp_ge (tgt := 78) F dX7_learn_66 (by decide) (fun c2 => ?_) (fun c2 => ?_)
      · refine r_iconst F dX7_learn_78 (v := 0) (by decide) ?_
        refine r_sub [0, 1, 2] rfl ?_
        exact l_X7_learn_79 F (f_X7_learn_43  n) (fun q0 q1 M9 => ih q0 q1 M9) y1 y2 r58 (0 : Int32) M58
      · refine r_aload_n F 0 dX7_learn_69 rfl rfl ?_
        refine gf_X7_25 F dX7_learn_70 (rfl : kd 24 = 7) ?_
        refine r_iload_n F 2 dX7_learn_73 rfl rfl ?_
        refine r_chk (fun h3 => ?_)
        refine r_iald F dX7_learn_74 (rfl : kd 30 = 8) (rfl : al 30 = 24) h3 ?_
        refine r_goto (tgt := 79) F dX7_learn_75 (by decide) ?_
        refine r_sub [0, 1, 2] rfl ?_
        exact l_X7_learn_79 F (f_X7_learn_43  n) (fun q0 q1 M9 => ih q0 q1 M9) y1 y2 r58 (M58.1 30 y2.toNatClampNeg) M58

def f_X7_learn_25 (y1 : Int32) (z1 : Int32) (M : Mem) : Option (Int32 × Mem) := bnd (mw M 24 2 z1) fun M25 => if (M25.1 24 2) = 0 then (bn (f_X7_keep M25) fun _ M38 => f_X7_learn_43  FU y1 (0 : Int32) M38) else (some ((0 : Int32), M25))

set_option maxRecDepth 100000 in
set_option maxHeartbeats 4000000 in
theorem l_X7_learn_25 {G : GM} {p : Program} {l : Launch} {e : Env} {s : State} {m : MethodId} {args : Array Value} {below : List Frame} {meth : Method} {c : Code} (F : Fx G p l s m args meth c cX7_learn RX7 3 (some .int)) (y1 : Int32) (z1 : Int32) (M : Mem) : Rf G p l e s m args below meth c 10 3 emI (f_X7_learn_25  y1 z1 M) 25 [(0, .ref (gA G 24)), (1, .int y1)] [.int z1, .ref (gA G 24)] M := by
  unfold f_X7_learn_25
  refine pf_X7_37 F dX7_learn_25 (rfl : kd 24 = 7) (fun M25 => ?_)
  refine r_aload_n F 0 dX7_learn_28 rfl rfl ?_
  refine gf_X7_37 F dX7_learn_29 (rfl : kd 24 = 7) ?_
  refine r_if_eq (tgt := 37) F dX7_learn_32 (by decide) (fun c1 => ?_) (fun c1 => ?_)
  · refine r_aload_n F 0 dX7_learn_37 rfl rfl ?_
    refine r_cV (val := vU) (As := []) (rest := []) (fun _ => []) F (c_X7_keep F.st F.gg  M25) (fun _ _ => rfl) dX7_learn_38 ml_X7_64 yv_X7_keep (rfl : kd 24 = 7) (by decide) rfl rfl (by decide) rfl (Nat.le_of_ble_eq_true rfl) (fun _ => rfl) (fun _ M38 => ?_)
    refine r_iconst F dX7_learn_41 (v := 0) (by decide) ?_
    refine r_istore_n (ls' := [(2, .int (0 : Int32)), (0, .ref (gA G 24)), (1, .int y1)]) F dX7_learn_42 rfl (by decide) rfl ?_
    refine r_sub [1, 2, 0] rfl ?_
    exact l_X7_learn_43 F   FU y1 (0 : Int32) M38
  · refine r_iconst F dX7_learn_35 (v := 0) (by decide) ?_
    exact r_iret F rfl dX7_learn_36 rfl

def f_X7_learn (a1 : Int32) (M : Mem) : Option (Int32 × Mem) := bn (f_X7_isTown a1 M) fun r3 M3 => if r3 = 0 then (f_X7_learn_25  a1 (1 : Int32) M3) else (bn (f_X7_isTune M3) fun r14 M14 => if r14 = 0 then (f_X7_learn_25  a1 (2 : Int32) M14) else (f_X7_learn_25  a1 (0 : Int32) M14))

set_option maxRecDepth 100000 in
set_option maxHeartbeats 4000000 in
theorem b_X7_learn {G : GM} {p : Program} {l : Launch} {e : Env} {s : State} {m : MethodId} {args : Array Value} {below : List Frame} {meth : Method} {c : Code} (F : Fx G p l s m args meth c cX7_learn RX7 3 (some .int)) (a1 : Int32) (M : Mem) : Rf G p l e s m args below meth c 10 3 emI (f_X7_learn a1 M) 0 [(0, .ref (gA G 24)), (1, .int a1)] [] M := by
  unfold f_X7_learn
  refine r_aload_n F 0 dX7_learn_0 rfl rfl ?_
  refine r_aload_n F 0 dX7_learn_1 rfl rfl ?_
  refine r_iload_n F 1 dX7_learn_2 rfl rfl ?_
  refine r_cV (val := vI) (As := [.int a1]) (rest := [.ref (gA G 24)]) (fun q9 => .int q9 :: [.ref (gA G 24)]) F (c_X7_isTown F.st F.gg a1 M) (fun _ _ => rfl) dX7_learn_3 ml_X7_45 yv_X7_isTown (rfl : kd 24 = 7) (by decide) rfl rfl (by decide) rfl (Nat.le_of_ble_eq_true rfl) (fun _ => rfl) (fun r3 M3 => ?_)
  refine r_if_ne (tgt := 13) F dX7_learn_6 (by decide) (fun c1 => ?_) (fun c1 => ?_)
  · refine r_iconst F dX7_learn_9 (v := 1) (by decide) ?_
    refine r_goto (tgt := 25) F dX7_learn_10 (by decide) ?_
    refine r_sub [0, 1] rfl ?_
    exact l_X7_learn_25 F   a1 (1 : Int32) M3
  · refine r_aload_n F 0 dX7_learn_13 rfl rfl ?_
    refine r_cV (val := vI) (As := []) (rest := [.ref (gA G 24)]) (fun q9 => .int q9 :: [.ref (gA G 24)]) F (c_X7_isTune F.st F.gg  M3) (fun _ _ => rfl) dX7_learn_14 ml_X7_174 yv_X7_isTune (rfl : kd 24 = 7) (by decide) rfl rfl (by decide) rfl (Nat.le_of_ble_eq_true rfl) (fun _ => rfl) (fun r14 M14 => ?_)
    refine r_if_ne (tgt := 24) F dX7_learn_17 (by decide) (fun c2 => ?_) (fun c2 => ?_)
    · refine r_iconst F dX7_learn_20 (v := 2) (by decide) ?_
      refine r_goto (tgt := 25) F dX7_learn_21 (by decide) ?_
      refine r_sub [0, 1] rfl ?_
      exact l_X7_learn_25 F   a1 (2 : Int32) M14
    · refine r_iconst F dX7_learn_24 (v := 0) (by decide) ?_
      refine r_sub [0, 1] rfl ?_
      exact l_X7_learn_25 F   a1 (0 : Int32) M14

set_option maxRecDepth 100000 in
set_option maxHeartbeats 4000000 in
theorem c_X7_learn {l : Launch} {G : GM} (hl : l.stackTraces = false) (hG : GG G) (a1 : Int32) (M : Mem) : ∀ r, f_X7_learn a1 M = some r → Ctr l G yX7_learn (.code yX7_learn cX7_learn 3 (some .int) :: wsA) 10 [.ref (gA G 24), .int a1] M (emI r) :=
  ctr_of (by decide) hl hG (Nat.le_of_ble_eq_true rfl) (fun p e s m args below meth c F => b_X7_learn F a1 M)

-- ===== X7_lend DrumTownsModel.lend(III)I =====
theorem yv_X7_lend : yV yX7_lend cX7_lend 4 (some .int) 3 := ⟨im_X7_lend, sl_X7_lend, ini_X7, cd_X7_lend, ⟨by decide, by decide, by decide +kernel⟩, by decide⟩

def f_X7_lend_56 (y1 : Int32) (y2 : Int32) (y3 : Int32) (z1 : Int32) (M : Mem) : Option (Int32 × Mem) := bnd (mw M 24 2 z1) fun M56 => if (M56.1 24 2) = 0 then (bn (f_X7_keep M56) fun _ M69 => bn (f_X7_go y1 y2 y3 M69) fun _ M76 => bn (f_X7_owes y2 y1 M76) fun r85 M85 => chk (inb r85 3424) <| chk (inb r85 3424) <| bnd (mw M85 25 r85.toNatClampNeg ((M85.1 25 r85.toNatClampNeg) + y3)) fun M92 => chk (inb (424 : Int32) 3424) <| chk (inb (424 : Int32) 3424) <| bnd (mw M92 25 (424 : Int32).toNatClampNeg ((M92.1 25 (424 : Int32).toNatClampNeg) + y3)) fun M104 => bn (f_X7_owes y2 y1 M104) fun r111 M111 => chk (inb r111 3424) <| some ((M111.1 25 r111.toNatClampNeg), M111)) else (some ((0 : Int32), M56))

set_option maxRecDepth 100000 in
set_option maxHeartbeats 4000000 in
theorem l_X7_lend_56 {G : GM} {p : Program} {l : Launch} {e : Env} {s : State} {m : MethodId} {args : Array Value} {below : List Frame} {meth : Method} {c : Code} (F : Fx G p l s m args meth c cX7_lend RX7 4 (some .int)) (y1 : Int32) (y2 : Int32) (y3 : Int32) (z1 : Int32) (M : Mem) : Rf G p l e s m args below meth c 8 4 emI (f_X7_lend_56  y1 y2 y3 z1 M) 56 [(0, .ref (gA G 24)), (1, .int y1), (2, .int y2), (3, .int y3)] [.int z1, .ref (gA G 24)] M := by
  unfold f_X7_lend_56
  refine pf_X7_37 F dX7_lend_56 (rfl : kd 24 = 7) (fun M56 => ?_)
  refine r_aload_n F 0 dX7_lend_59 rfl rfl ?_
  refine gf_X7_37 F dX7_lend_60 (rfl : kd 24 = 7) ?_
  refine r_if_eq (tgt := 68) F dX7_lend_63 (by decide) (fun c1 => ?_) (fun c1 => ?_)
  · refine r_aload_n F 0 dX7_lend_68 rfl rfl ?_
    refine r_cV (val := vU) (As := []) (rest := []) (fun _ => []) F (c_X7_keep F.st F.gg  M56) (fun _ _ => rfl) dX7_lend_69 ml_X7_64 yv_X7_keep (rfl : kd 24 = 7) (by decide) rfl rfl (by decide) rfl (Nat.le_of_ble_eq_true rfl) (fun _ => rfl) (fun _ M69 => ?_)
    refine r_aload_n F 0 dX7_lend_72 rfl rfl ?_
    refine r_iload_n F 1 dX7_lend_73 rfl rfl ?_
    refine r_iload_n F 2 dX7_lend_74 rfl rfl ?_
    refine r_iload_n F 3 dX7_lend_75 rfl rfl ?_
    refine r_cV (val := vU) (As := [.int y1, .int y2, .int y3]) (rest := []) (fun _ => []) F (c_X7_go F.st F.gg y1 y2 y3 M69) (fun _ _ => rfl) dX7_lend_76 ml_X7_119 yv_X7_go (rfl : kd 24 = 7) (by decide) rfl rfl (by decide) rfl (Nat.le_of_ble_eq_true rfl) (fun _ => rfl) (fun _ M76 => ?_)
    refine r_aload_n F 0 dX7_lend_79 rfl rfl ?_
    refine gf_X7_7 F dX7_lend_80 (rfl : kd 24 = 7) ?_
    refine r_iload_n F 2 dX7_lend_83 rfl rfl ?_
    refine r_iload_n F 1 dX7_lend_84 rfl rfl ?_
    refine r_cS (val := vI) (As := [.int y2, .int y1]) (rest := [.ref (gA G 25)]) (fun q9 => .int q9 :: [.ref (gA G 25)]) F (c_X7_owes F.st F.gg y2 y1 M76) (fun _ _ => rfl) dX7_lend_85 ml_X7_123 ys_X7_owes rfl (by decide) rfl (Nat.le_of_ble_eq_true rfl) (fun _ => rfl) (fun r85 M85 => ?_)
    refine r_dup2 F dX7_lend_88 rfl rfl ?_
    refine r_chk (fun h2 => ?_)
    refine r_iald F dX7_lend_89 (rfl : kd 25 = 8) (rfl : al 25 = 3424) h2 ?_
    refine r_iload_n F 3 dX7_lend_90 rfl rfl ?_
    refine r_iadd F dX7_lend_91 ?_
    refine r_chk (fun h3 => ?_)
    refine r_iast F dX7_lend_92 (rfl : kd 25 = 8) (rfl : al 25 = 3424) h3 (fun M92 => ?_)
    refine r_aload_n F 0 dX7_lend_93 rfl rfl ?_
    refine gf_X7_7 F dX7_lend_94 (rfl : kd 24 = 7) ?_
    refine r_sipush F dX7_lend_97 (v := 424) (by decide) ?_
    refine r_dup2 F dX7_lend_100 rfl rfl ?_
    refine r_chk (fun h4 => ?_)
    refine r_iald F dX7_lend_101 (rfl : kd 25 = 8) (rfl : al 25 = 3424) h4 ?_
    refine r_iload_n F 3 dX7_lend_102 rfl rfl ?_
    refine r_iadd F dX7_lend_103 ?_
    refine r_chk (fun h5 => ?_)
    refine r_iast F dX7_lend_104 (rfl : kd 25 = 8) (rfl : al 25 = 3424) h5 (fun M104 => ?_)
    refine r_aload_n F 0 dX7_lend_105 rfl rfl ?_
    refine gf_X7_7 F dX7_lend_106 (rfl : kd 24 = 7) ?_
    refine r_iload_n F 2 dX7_lend_109 rfl rfl ?_
    refine r_iload_n F 1 dX7_lend_110 rfl rfl ?_
    refine r_cS (val := vI) (As := [.int y2, .int y1]) (rest := [.ref (gA G 25)]) (fun q9 => .int q9 :: [.ref (gA G 25)]) F (c_X7_owes F.st F.gg y2 y1 M104) (fun _ _ => rfl) dX7_lend_111 ml_X7_123 ys_X7_owes rfl (by decide) rfl (Nat.le_of_ble_eq_true rfl) (fun _ => rfl) (fun r111 M111 => ?_)
    refine r_chk (fun h6 => ?_)
    refine r_iald F dX7_lend_114 (rfl : kd 25 = 8) (rfl : al 25 = 3424) h6 ?_
    exact r_iret F rfl dX7_lend_115 rfl
  · refine r_iconst F dX7_lend_66 (v := 0) (by decide) ?_
    exact r_iret F rfl dX7_lend_67 rfl

def f_X7_lend_17 (y1 : Int32) (y2 : Int32) (y3 : Int32) (M : Mem) : Option (Int32 × Mem) := f_X7_lend_56  y1 y2 y3 (1 : Int32) M

set_option maxRecDepth 100000 in
set_option maxHeartbeats 4000000 in
theorem l_X7_lend_17 {G : GM} {p : Program} {l : Launch} {e : Env} {s : State} {m : MethodId} {args : Array Value} {below : List Frame} {meth : Method} {c : Code} (F : Fx G p l s m args meth c cX7_lend RX7 4 (some .int)) (y1 : Int32) (y2 : Int32) (y3 : Int32) (M : Mem) : Rf G p l e s m args below meth c 8 4 emI (f_X7_lend_17  y1 y2 y3 M) 17 [(0, .ref (gA G 24)), (1, .int y1), (2, .int y2), (3, .int y3)] [.ref (gA G 24)] M := by
  unfold f_X7_lend_17
  refine r_iconst F dX7_lend_17 (v := 1) (by decide) ?_
  refine r_goto (tgt := 56) F dX7_lend_18 (by decide) ?_
  refine r_sub [0, 1, 2, 3] rfl ?_
  exact l_X7_lend_56 F   y1 y2 y3 (1 : Int32) M

def f_X7_lend_37 (y1 : Int32) (y2 : Int32) (y3 : Int32) (M : Mem) : Option (Int32 × Mem) := f_X7_lend_56  y1 y2 y3 (2 : Int32) M

set_option maxRecDepth 100000 in
set_option maxHeartbeats 4000000 in
theorem l_X7_lend_37 {G : GM} {p : Program} {l : Launch} {e : Env} {s : State} {m : MethodId} {args : Array Value} {below : List Frame} {meth : Method} {c : Code} (F : Fx G p l s m args meth c cX7_lend RX7 4 (some .int)) (y1 : Int32) (y2 : Int32) (y3 : Int32) (M : Mem) : Rf G p l e s m args below meth c 8 4 emI (f_X7_lend_37  y1 y2 y3 M) 37 [(0, .ref (gA G 24)), (1, .int y1), (2, .int y2), (3, .int y3)] [.ref (gA G 24)] M := by
  unfold f_X7_lend_37
  refine r_iconst F dX7_lend_37 (v := 2) (by decide) ?_
  refine r_goto (tgt := 56) F dX7_lend_38 (by decide) ?_
  refine r_sub [0, 1, 2, 3] rfl ?_
  exact l_X7_lend_56 F   y1 y2 y3 (2 : Int32) M

def f_X7_lend (a1 : Int32) (a2 : Int32) (a3 : Int32) (M : Mem) : Option (Int32 × Mem) := bn (f_X7_isTown a1 M) fun r3 M3 => if r3 = 0 then (f_X7_lend_17  a1 a2 a3 M3) else (bn (f_X7_isTown a2 M3) fun r11 M11 => if r11 = 0 then (f_X7_lend_17  a1 a2 a3 M11) else (if a1 = a2 then (f_X7_lend_37  a1 a2 a3 M11) else (bn (f_X7_in a3 (1 : Int32) (200 : Int32) M11) fun r31 M31 => if r31 = 0 then (f_X7_lend_37  a1 a2 a3 M31) else (bn (f_X7_canGo a1 a2 a3 M31) fun r45 M45 => if r45 = 0 then (f_X7_lend_56  a1 a2 a3 (3 : Int32) M45) else (f_X7_lend_56  a1 a2 a3 (0 : Int32) M45)))))

set_option maxRecDepth 100000 in
set_option maxHeartbeats 4000000 in
theorem b_X7_lend {G : GM} {p : Program} {l : Launch} {e : Env} {s : State} {m : MethodId} {args : Array Value} {below : List Frame} {meth : Method} {c : Code} (F : Fx G p l s m args meth c cX7_lend RX7 4 (some .int)) (a1 : Int32) (a2 : Int32) (a3 : Int32) (M : Mem) : Rf G p l e s m args below meth c 8 4 emI (f_X7_lend a1 a2 a3 M) 0 [(0, .ref (gA G 24)), (1, .int a1), (2, .int a2), (3, .int a3)] [] M := by
  unfold f_X7_lend
  refine r_aload_n F 0 dX7_lend_0 rfl rfl ?_
  refine r_aload_n F 0 dX7_lend_1 rfl rfl ?_
  refine r_iload_n F 1 dX7_lend_2 rfl rfl ?_
  refine r_cV (val := vI) (As := [.int a1]) (rest := [.ref (gA G 24)]) (fun q9 => .int q9 :: [.ref (gA G 24)]) F (c_X7_isTown F.st F.gg a1 M) (fun _ _ => rfl) dX7_lend_3 ml_X7_45 yv_X7_isTown (rfl : kd 24 = 7) (by decide) rfl rfl (by decide) rfl (Nat.le_of_ble_eq_true rfl) (fun _ => rfl) (fun r3 M3 => ?_)
  refine r_if_eq (tgt := 17) F dX7_lend_6 (by decide) (fun c1 => ?_) (fun c1 => ?_)
  · refine r_sub [0, 1, 2, 3] rfl ?_
    exact l_X7_lend_17 F   a1 a2 a3 M3
  · refine r_aload_n F 0 dX7_lend_9 rfl rfl ?_
    refine r_iload_n F 2 dX7_lend_10 rfl rfl ?_
    refine r_cV (val := vI) (As := [.int a2]) (rest := [.ref (gA G 24)]) (fun q9 => .int q9 :: [.ref (gA G 24)]) F (c_X7_isTown F.st F.gg a2 M3) (fun _ _ => rfl) dX7_lend_11 ml_X7_45 yv_X7_isTown (rfl : kd 24 = 7) (by decide) rfl rfl (by decide) rfl (Nat.le_of_ble_eq_true rfl) (fun _ => rfl) (fun r11 M11 => ?_)
    refine r_if_ne (tgt := 21) F dX7_lend_14 (by decide) (fun c2 => ?_) (fun c2 => ?_)
    · refine r_sub [0, 1, 2, 3] rfl ?_
      exact l_X7_lend_17 F   a1 a2 a3 M11
    · refine r_iload_n F 1 dX7_lend_21 rfl rfl ?_
      refine r_iload_n F 2 dX7_lend_22 rfl rfl ?_
      refine r_icmp_eq (tgt := 37) F dX7_lend_23 (by decide) (fun c3 => ?_) (fun c3 => ?_)
      · refine r_sub [0, 1, 2, 3] rfl ?_
        exact l_X7_lend_37 F   a1 a2 a3 M11
      · refine r_iload_n F 3 dX7_lend_26 rfl rfl ?_
        refine r_iconst F dX7_lend_27 (v := 1) (by decide) ?_
        refine r_sipush F dX7_lend_28 (v := 200) (by decide) ?_
        refine r_cS (val := vI) (As := [.int a3, .int (1 : Int32), .int (200 : Int32)]) (rest := [.ref (gA G 24)]) (fun q9 => .int q9 :: [.ref (gA G 24)]) F (c_X7_in F.st F.gg a3 (1 : Int32) (200 : Int32) M11) (fun _ _ => rfl) dX7_lend_31 ml_X7_41 ys_X7_in rfl (by decide) rfl (Nat.le_of_ble_eq_true rfl) (fun _ => rfl) (fun r31 M31 => ?_)
        refine r_if_ne (tgt := 41) F dX7_lend_34 (by decide) (fun c4 => ?_) (fun c4 => ?_)
        · refine r_sub [0, 1, 2, 3] rfl ?_
          exact l_X7_lend_37 F   a1 a2 a3 M31
        · refine r_aload_n F 0 dX7_lend_41 rfl rfl ?_
          refine r_iload_n F 1 dX7_lend_42 rfl rfl ?_
          refine r_iload_n F 2 dX7_lend_43 rfl rfl ?_
          refine r_iload_n F 3 dX7_lend_44 rfl rfl ?_
          refine r_cV (val := vI) (As := [.int a1, .int a2, .int a3]) (rest := [.ref (gA G 24)]) (fun q9 => .int q9 :: [.ref (gA G 24)]) F (c_X7_canGo F.st F.gg a1 a2 a3 M31) (fun _ _ => rfl) dX7_lend_45 ml_X7_116 yv_X7_canGo (rfl : kd 24 = 7) (by decide) rfl rfl (by decide) rfl (Nat.le_of_ble_eq_true rfl) (fun _ => rfl) (fun r45 M45 => ?_)
          refine r_if_ne (tgt := 55) F dX7_lend_48 (by decide) (fun c5 => ?_) (fun c5 => ?_)
          · refine r_iconst F dX7_lend_51 (v := 3) (by decide) ?_
            refine r_goto (tgt := 56) F dX7_lend_52 (by decide) ?_
            refine r_sub [0, 1, 2, 3] rfl ?_
            exact l_X7_lend_56 F   a1 a2 a3 (3 : Int32) M45
          · refine r_iconst F dX7_lend_55 (v := 0) (by decide) ?_
            refine r_sub [0, 1, 2, 3] rfl ?_
            exact l_X7_lend_56 F   a1 a2 a3 (0 : Int32) M45

set_option maxRecDepth 100000 in
set_option maxHeartbeats 4000000 in
theorem c_X7_lend {l : Launch} {G : GM} (hl : l.stackTraces = false) (hG : GG G) (a1 : Int32) (a2 : Int32) (a3 : Int32) (M : Mem) : ∀ r, f_X7_lend a1 a2 a3 M = some r → Ctr l G yX7_lend (.code yX7_lend cX7_lend 4 (some .int) :: wsA) 8 [.ref (gA G 24), .int a1, .int a2, .int a3] M (emI r) :=
  ctr_of (by decide) hl hG (Nat.le_of_ble_eq_true rfl) (fun p e s m args below meth c F => b_X7_lend F a1 a2 a3 M)

-- ===== X7_move DrumTownsModel.move(IIII)I =====
theorem yv_X7_move : yV yX7_move cX7_move 5 (some .int) 4 := ⟨im_X7_move, sl_X7_move, ini_X7, cd_X7_move, ⟨by decide, by decide, by decide +kernel⟩, by decide⟩

def f_X7_move_78 (y1 : Int32) (y2 : Int32) (y3 : Int32) (y4 : Int32) (z1 : Int32) (M : Mem) : Option (Int32 × Mem) := bnd (mw M 24 2 z1) fun M78 => if (M78.1 24 2) = 0 then (bn (f_X7_keep M78) fun _ M91 => bn (f_X7_at (6 : Int32) y1 y3 M91) fun r102 M102 => chk (inb r102 3424) <| chk (inb r102 3424) <| bnd (mw M102 25 r102.toNatClampNeg ((M102.1 25 r102.toNatClampNeg) ^^^ ((1 : Int32) <<< (y4 &&& 31)))) fun M112 => bn (f_X7_at (6 : Int32) y2 y3 M112) fun r121 M121 => chk (inb r121 3424) <| chk (inb r121 3424) <| bnd (mw M121 25 r121.toNatClampNeg ((M121.1 25 r121.toNatClampNeg) ^^^ ((1 : Int32) <<< (y4 &&& 31)))) fun M131 => bn (f_X7_pinsOf (6 : Int32) y2 M131) fun r136 M136 => some (r136, M136)) else (some ((0 : Int32), M78))

set_option maxRecDepth 100000 in
set_option maxHeartbeats 4000000 in
theorem l_X7_move_78 {G : GM} {p : Program} {l : Launch} {e : Env} {s : State} {m : MethodId} {args : Array Value} {below : List Frame} {meth : Method} {c : Code} (F : Fx G p l s m args meth c cX7_move RX7 5 (some .int)) (y1 : Int32) (y2 : Int32) (y3 : Int32) (y4 : Int32) (z1 : Int32) (M : Mem) : Rf G p l e s m args below meth c 9 5 emI (f_X7_move_78  y1 y2 y3 y4 z1 M) 78 [(0, .ref (gA G 24)), (1, .int y1), (2, .int y2), (3, .int y3), (4, .int y4)] [.int z1, .ref (gA G 24)] M := by
  unfold f_X7_move_78
  refine pf_X7_37 F dX7_move_78 (rfl : kd 24 = 7) (fun M78 => ?_)
  refine r_aload_n F 0 dX7_move_81 rfl rfl ?_
  refine gf_X7_37 F dX7_move_82 (rfl : kd 24 = 7) ?_
  refine r_if_eq (tgt := 90) F dX7_move_85 (by decide) (fun c1 => ?_) (fun c1 => ?_)
  · refine r_aload_n F 0 dX7_move_90 rfl rfl ?_
    refine r_cV (val := vU) (As := []) (rest := []) (fun _ => []) F (c_X7_keep F.st F.gg  M78) (fun _ _ => rfl) dX7_move_91 ml_X7_64 yv_X7_keep (rfl : kd 24 = 7) (by decide) rfl rfl (by decide) rfl (Nat.le_of_ble_eq_true rfl) (fun _ => rfl) (fun _ M91 => ?_)
    refine r_aload_n F 0 dX7_move_94 rfl rfl ?_
    refine gf_X7_7 F dX7_move_95 (rfl : kd 24 = 7) ?_
    refine r_bipush F dX7_move_98 (v := 6) (by decide) ?_
    refine r_iload_n F 1 dX7_move_100 rfl rfl ?_
    refine r_iload_n F 3 dX7_move_101 rfl rfl ?_
    refine r_cS (val := vI) (As := [.int (6 : Int32), .int y1, .int y3]) (rest := [.ref (gA G 25)]) (fun q9 => .int q9 :: [.ref (gA G 25)]) F (c_X7_at F.st F.gg (6 : Int32) y1 y3 M91) (fun _ _ => rfl) dX7_move_102 ml_X7_56 ys_X7_at rfl (by decide) rfl (Nat.le_of_ble_eq_true rfl) (fun _ => rfl) (fun r102 M102 => ?_)
    refine r_dup2 F dX7_move_105 rfl rfl ?_
    refine r_chk (fun h2 => ?_)
    refine r_iald F dX7_move_106 (rfl : kd 25 = 8) (rfl : al 25 = 3424) h2 ?_
    refine r_iconst F dX7_move_107 (v := 1) (by decide) ?_
    refine r_iload F 4 dX7_move_108 rfl ?_
    refine r_ishl F dX7_move_110 ?_
    refine r_ixor F dX7_move_111 ?_
    refine r_chk (fun h3 => ?_)
    refine r_iast F dX7_move_112 (rfl : kd 25 = 8) (rfl : al 25 = 3424) h3 (fun M112 => ?_)
    refine r_aload_n F 0 dX7_move_113 rfl rfl ?_
    refine gf_X7_7 F dX7_move_114 (rfl : kd 24 = 7) ?_
    refine r_bipush F dX7_move_117 (v := 6) (by decide) ?_
    refine r_iload_n F 2 dX7_move_119 rfl rfl ?_
    refine r_iload_n F 3 dX7_move_120 rfl rfl ?_
    refine r_cS (val := vI) (As := [.int (6 : Int32), .int y2, .int y3]) (rest := [.ref (gA G 25)]) (fun q9 => .int q9 :: [.ref (gA G 25)]) F (c_X7_at F.st F.gg (6 : Int32) y2 y3 M112) (fun _ _ => rfl) dX7_move_121 ml_X7_56 ys_X7_at rfl (by decide) rfl (Nat.le_of_ble_eq_true rfl) (fun _ => rfl) (fun r121 M121 => ?_)
    refine r_dup2 F dX7_move_124 rfl rfl ?_
    refine r_chk (fun h4 => ?_)
    refine r_iald F dX7_move_125 (rfl : kd 25 = 8) (rfl : al 25 = 3424) h4 ?_
    refine r_iconst F dX7_move_126 (v := 1) (by decide) ?_
    refine r_iload F 4 dX7_move_127 rfl ?_
    refine r_ishl F dX7_move_129 ?_
    refine r_ixor F dX7_move_130 ?_
    refine r_chk (fun h5 => ?_)
    refine r_iast F dX7_move_131 (rfl : kd 25 = 8) (rfl : al 25 = 3424) h5 (fun M131 => ?_)
    refine r_aload_n F 0 dX7_move_132 rfl rfl ?_
    refine r_bipush F dX7_move_133 (v := 6) (by decide) ?_
    refine r_iload_n F 2 dX7_move_135 rfl rfl ?_
    refine r_cV (val := vI) (As := [.int (6 : Int32), .int y2]) (rest := []) (fun q9 => .int q9 :: []) F (c_X7_pinsOf F.st F.gg (6 : Int32) y2 M131) (fun _ _ => rfl) dX7_move_136 ml_X7_74 yv_X7_pinsOf (rfl : kd 24 = 7) (by decide) rfl rfl (by decide) rfl (Nat.le_of_ble_eq_true rfl) (fun _ => rfl) (fun r136 M136 => ?_)
    exact r_iret F rfl dX7_move_139 rfl
  · refine r_iconst F dX7_move_88 (v := 0) (by decide) ?_
    exact r_iret F rfl dX7_move_89 rfl

def f_X7_move_20 (y1 : Int32) (y2 : Int32) (y3 : Int32) (y4 : Int32) (M : Mem) : Option (Int32 × Mem) := f_X7_move_78  y1 y2 y3 y4 (1 : Int32) M

set_option maxRecDepth 100000 in
set_option maxHeartbeats 4000000 in
theorem l_X7_move_20 {G : GM} {p : Program} {l : Launch} {e : Env} {s : State} {m : MethodId} {args : Array Value} {below : List Frame} {meth : Method} {c : Code} (F : Fx G p l s m args meth c cX7_move RX7 5 (some .int)) (y1 : Int32) (y2 : Int32) (y3 : Int32) (y4 : Int32) (M : Mem) : Rf G p l e s m args below meth c 9 5 emI (f_X7_move_20  y1 y2 y3 y4 M) 20 [(0, .ref (gA G 24)), (1, .int y1), (2, .int y2), (3, .int y3), (4, .int y4)] [.ref (gA G 24)] M := by
  unfold f_X7_move_20
  refine r_iconst F dX7_move_20 (v := 1) (by decide) ?_
  refine r_goto (tgt := 78) F dX7_move_21 (by decide) ?_
  refine r_sub [0, 1, 2, 3, 4] rfl ?_
  exact l_X7_move_78 F   y1 y2 y3 y4 (1 : Int32) M

def f_X7_move_73 (y1 : Int32) (y2 : Int32) (y3 : Int32) (y4 : Int32) (M : Mem) : Option (Int32 × Mem) := f_X7_move_78  y1 y2 y3 y4 (3 : Int32) M

set_option maxRecDepth 100000 in
set_option maxHeartbeats 4000000 in
theorem l_X7_move_73 {G : GM} {p : Program} {l : Launch} {e : Env} {s : State} {m : MethodId} {args : Array Value} {below : List Frame} {meth : Method} {c : Code} (F : Fx G p l s m args meth c cX7_move RX7 5 (some .int)) (y1 : Int32) (y2 : Int32) (y3 : Int32) (y4 : Int32) (M : Mem) : Rf G p l e s m args below meth c 9 5 emI (f_X7_move_73  y1 y2 y3 y4 M) 73 [(0, .ref (gA G 24)), (1, .int y1), (2, .int y2), (3, .int y3), (4, .int y4)] [.ref (gA G 24)] M := by
  unfold f_X7_move_73
  refine r_iconst F dX7_move_73 (v := 3) (by decide) ?_
  refine r_goto (tgt := 78) F dX7_move_74 (by decide) ?_
  refine r_sub [0, 1, 2, 3, 4] rfl ?_
  exact l_X7_move_78 F   y1 y2 y3 y4 (3 : Int32) M

def f_X7_move (a1 : Int32) (a2 : Int32) (a3 : Int32) (a4 : Int32) (M : Mem) : Option (Int32 × Mem) := bn (f_X7_isTown a1 M) fun r3 M3 => if r3 = 0 then (f_X7_move_20  a1 a2 a3 a4 M3) else (bn (f_X7_isPlace a2 a3 a4 M3) fun r14 M14 => if r14 = 0 then (f_X7_move_20  a1 a2 a3 a4 M14) else (if a1 = a2 then (f_X7_move_78  a1 a2 a3 a4 (2 : Int32) M14) else (bn (f_X7_at (6 : Int32) a1 a3 M14) fun r41 M41 => chk (inb r41 3424) <| bn (f_X7_has (M41.1 25 r41.toNatClampNeg) a4 M41) fun r47 M47 => if r47 = 0 then (f_X7_move_73  a1 a2 a3 a4 M47) else (bn (f_X7_at (6 : Int32) a2 a3 M47) fun r61 M61 => chk (inb r61 3424) <| bn (f_X7_has (M61.1 25 r61.toNatClampNeg) a4 M61) fun r67 M67 => if r67 = 0 then (f_X7_move_78  a1 a2 a3 a4 (0 : Int32) M67) else (f_X7_move_73  a1 a2 a3 a4 M67)))))

set_option maxRecDepth 100000 in
set_option maxHeartbeats 4000000 in
theorem b_X7_move {G : GM} {p : Program} {l : Launch} {e : Env} {s : State} {m : MethodId} {args : Array Value} {below : List Frame} {meth : Method} {c : Code} (F : Fx G p l s m args meth c cX7_move RX7 5 (some .int)) (a1 : Int32) (a2 : Int32) (a3 : Int32) (a4 : Int32) (M : Mem) : Rf G p l e s m args below meth c 9 5 emI (f_X7_move a1 a2 a3 a4 M) 0 [(0, .ref (gA G 24)), (1, .int a1), (2, .int a2), (3, .int a3), (4, .int a4)] [] M := by
  unfold f_X7_move
  refine r_aload_n F 0 dX7_move_0 rfl rfl ?_
  refine r_aload_n F 0 dX7_move_1 rfl rfl ?_
  refine r_iload_n F 1 dX7_move_2 rfl rfl ?_
  refine r_cV (val := vI) (As := [.int a1]) (rest := [.ref (gA G 24)]) (fun q9 => .int q9 :: [.ref (gA G 24)]) F (c_X7_isTown F.st F.gg a1 M) (fun _ _ => rfl) dX7_move_3 ml_X7_45 yv_X7_isTown (rfl : kd 24 = 7) (by decide) rfl rfl (by decide) rfl (Nat.le_of_ble_eq_true rfl) (fun _ => rfl) (fun r3 M3 => ?_)
  refine r_if_eq (tgt := 20) F dX7_move_6 (by decide) (fun c1 => ?_) (fun c1 => ?_)
  · refine r_sub [0, 1, 2, 3, 4] rfl ?_
    exact l_X7_move_20 F   a1 a2 a3 a4 M3
  · refine r_aload_n F 0 dX7_move_9 rfl rfl ?_
    refine r_iload_n F 2 dX7_move_10 rfl rfl ?_
    refine r_iload_n F 3 dX7_move_11 rfl rfl ?_
    refine r_iload F 4 dX7_move_12 rfl ?_
    refine r_cV (val := vI) (As := [.int a2, .int a3, .int a4]) (rest := [.ref (gA G 24)]) (fun q9 => .int q9 :: [.ref (gA G 24)]) F (c_X7_isPlace F.st F.gg a2 a3 a4 M3) (fun _ _ => rfl) dX7_move_14 ml_X7_67 yv_X7_isPlace (rfl : kd 24 = 7) (by decide) rfl rfl (by decide) rfl (Nat.le_of_ble_eq_true rfl) (fun _ => rfl) (fun r14 M14 => ?_)
    refine r_if_ne (tgt := 24) F dX7_move_17 (by decide) (fun c2 => ?_) (fun c2 => ?_)
    · refine r_sub [0, 1, 2, 3, 4] rfl ?_
      exact l_X7_move_20 F   a1 a2 a3 a4 M14
    · refine r_iload_n F 1 dX7_move_24 rfl rfl ?_
      refine r_iload_n F 2 dX7_move_25 rfl rfl ?_
      refine r_icmp_ne (tgt := 33) F dX7_move_26 (by decide) (fun c3 => ?_) (fun c3 => ?_)
      · refine r_iconst F dX7_move_29 (v := 2) (by decide) ?_
        refine r_goto (tgt := 78) F dX7_move_30 (by decide) ?_
        refine r_sub [0, 1, 2, 3, 4] rfl ?_
        exact l_X7_move_78 F   a1 a2 a3 a4 (2 : Int32) M14
      · refine r_aload_n F 0 dX7_move_33 rfl rfl ?_
        refine gf_X7_7 F dX7_move_34 (rfl : kd 24 = 7) ?_
        refine r_bipush F dX7_move_37 (v := 6) (by decide) ?_
        refine r_iload_n F 1 dX7_move_39 rfl rfl ?_
        refine r_iload_n F 3 dX7_move_40 rfl rfl ?_
        refine r_cS (val := vI) (As := [.int (6 : Int32), .int a1, .int a3]) (rest := [.ref (gA G 25), .ref (gA G 24)]) (fun q9 => .int q9 :: [.ref (gA G 25), .ref (gA G 24)]) F (c_X7_at F.st F.gg (6 : Int32) a1 a3 M14) (fun _ _ => rfl) dX7_move_41 ml_X7_56 ys_X7_at rfl (by decide) rfl (Nat.le_of_ble_eq_true rfl) (fun _ => rfl) (fun r41 M41 => ?_)
        refine r_chk (fun h4 => ?_)
        refine r_iald F dX7_move_44 (rfl : kd 25 = 8) (rfl : al 25 = 3424) h4 ?_
        refine r_iload F 4 dX7_move_45 rfl ?_
        refine r_cS (val := vI) (As := [.int (M41.1 25 r41.toNatClampNeg), .int a4]) (rest := [.ref (gA G 24)]) (fun q9 => .int q9 :: [.ref (gA G 24)]) F (c_X7_has F.st F.gg (M41.1 25 r41.toNatClampNeg) a4 M41) (fun _ _ => rfl) dX7_move_47 ml_X7_70 ys_X7_has rfl (by decide) rfl (Nat.le_of_ble_eq_true rfl) (fun _ => rfl) (fun r47 M47 => ?_)
        refine r_if_eq (tgt := 73) F dX7_move_50 (by decide) (fun c5 => ?_) (fun c5 => ?_)
        · refine r_sub [0, 1, 2, 3, 4] rfl ?_
          exact l_X7_move_73 F   a1 a2 a3 a4 M47
        · refine r_aload_n F 0 dX7_move_53 rfl rfl ?_
          refine gf_X7_7 F dX7_move_54 (rfl : kd 24 = 7) ?_
          refine r_bipush F dX7_move_57 (v := 6) (by decide) ?_
          refine r_iload_n F 2 dX7_move_59 rfl rfl ?_
          refine r_iload_n F 3 dX7_move_60 rfl rfl ?_
          refine r_cS (val := vI) (As := [.int (6 : Int32), .int a2, .int a3]) (rest := [.ref (gA G 25), .ref (gA G 24)]) (fun q9 => .int q9 :: [.ref (gA G 25), .ref (gA G 24)]) F (c_X7_at F.st F.gg (6 : Int32) a2 a3 M47) (fun _ _ => rfl) dX7_move_61 ml_X7_56 ys_X7_at rfl (by decide) rfl (Nat.le_of_ble_eq_true rfl) (fun _ => rfl) (fun r61 M61 => ?_)
          refine r_chk (fun h6 => ?_)
          refine r_iald F dX7_move_64 (rfl : kd 25 = 8) (rfl : al 25 = 3424) h6 ?_
          refine r_iload F 4 dX7_move_65 rfl ?_
          refine r_cS (val := vI) (As := [.int (M61.1 25 r61.toNatClampNeg), .int a4]) (rest := [.ref (gA G 24)]) (fun q9 => .int q9 :: [.ref (gA G 24)]) F (c_X7_has F.st F.gg (M61.1 25 r61.toNatClampNeg) a4 M61) (fun _ _ => rfl) dX7_move_67 ml_X7_70 ys_X7_has rfl (by decide) rfl (Nat.le_of_ble_eq_true rfl) (fun _ => rfl) (fun r67 M67 => ?_)
          refine r_if_eq (tgt := 77) F dX7_move_70 (by decide) (fun c7 => ?_) (fun c7 => ?_)
          · refine r_iconst F dX7_move_77 (v := 0) (by decide) ?_
            refine r_sub [0, 1, 2, 3, 4] rfl ?_
            exact l_X7_move_78 F   a1 a2 a3 a4 (0 : Int32) M67
          · refine r_sub [0, 1, 2, 3, 4] rfl ?_
            exact l_X7_move_73 F   a1 a2 a3 a4 M67

set_option maxRecDepth 100000 in
set_option maxHeartbeats 4000000 in
theorem c_X7_move {l : Launch} {G : GM} (hl : l.stackTraces = false) (hG : GG G) (a1 : Int32) (a2 : Int32) (a3 : Int32) (a4 : Int32) (M : Mem) : ∀ r, f_X7_move a1 a2 a3 a4 M = some r → Ctr l G yX7_move (.code yX7_move cX7_move 5 (some .int) :: wsA) 9 [.ref (gA G 24), .int a1, .int a2, .int a3, .int a4] M (emI r) :=
  ctr_of (by decide) hl hG (Nat.le_of_ble_eq_true rfl) (fun p e s m args below meth c F => b_X7_move F a1 a2 a3 a4 M)

