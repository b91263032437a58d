-- ===== X7_add DrumTownsModel.add(J)V =====
theorem yv_X7_add : yV yX7_add cX7_add 3 none 1 := ⟨im_X7_add, sl_X7_add, ini_X7, cd_X7_add, ⟨by decide, by decide, by decide +kernel⟩, by decide⟩

def f_X7_add (a1 : Int64) (M : Mem) : Option (Unit × Mem) := bnd (ml M 0 (((31 : Int64) * (M.2 0)) + a1)) fun M11 => some ((), M11)

set_option maxRecDepth 100000 in
set_option maxHeartbeats 4000000 in
theorem b_X7_add {G : GM} {p : Program} {l : Launch} {e : Env} {s : State} {m : MethodId} {args : Array Value} {below : List Frame} {meth : Method} {c : Code} (F : Fx G p l s m args meth c cX7_add RX7 3 none) (a1 : Int64) (M : Mem) : Rf G p l e s m args below meth c 6 3 emV (f_X7_add a1 M) 0 [(0, .ref (gA G 24)), (1, .long a1)] [] M := by
  unfold f_X7_add
  refine r_aload_n F 0 dX7_add_0 rfl rfl ?_
  refine r_ldc2 F dX7_add_1 kc_X7_208 ?_
  refine r_aload_n F 0 dX7_add_4 rfl rfl ?_
  refine gf_X7_210 F dX7_add_5 (rfl : kd 24 = 7) ?_
  refine r_lmul F dX7_add_8 ?_
  refine r_lload_n F 1 dX7_add_9 rfl rfl ?_
  refine r_ladd F dX7_add_10 ?_
  refine pf_X7_210 F dX7_add_11 (rfl : kd 24 = 7) (fun M11 => ?_)
  exact r_vret F rfl dX7_add_14 rfl

set_option maxRecDepth 100000 in
set_option maxHeartbeats 4000000 in
theorem c_X7_add {l : Launch} {G : GM} (hl : l.stackTraces = false) (hG : GG G) (a1 : Int64) (M : Mem) : ∀ r, f_X7_add a1 M = some r → Ctr l G yX7_add (.code yX7_add cX7_add 3 none :: wsA) 6 [.ref (gA G 24), .long a1] M (emV r) :=
  ctr_of (by decide) hl hG (Nat.le_of_ble_eq_true rfl) (fun p e s m args below meth c F => b_X7_add F a1 M)

-- ===== X7_in DrumTownsModel.in(III)Z =====
theorem ys_X7_in : yS yX7_in cX7_in 3 (some .boolean) 3 := ⟨sc_X7_in, ini_X7, cd_X7_in, ⟨by decide, by decide, by decide +kernel⟩, by decide⟩

def f_X7_in_15 (z0 : Int32) (M : Mem) : Option (Int32 × Mem) := chk (isb z0) <| some (z0, M)

set_option maxRecDepth 100000 in
set_option maxHeartbeats 4000000 in
theorem l_X7_in_15 {G : GM} {p : Program} {l : Launch} {e : Env} {s : State} {m : MethodId} {args : Array Value} {below : List Frame} {meth : Method} {c : Code} (F : Fx G p l s m args meth c cX7_in RX7 3 (some .boolean)) (z0 : Int32) (M : Mem) : Rf G p l e s m args below meth c 6 3 emI (f_X7_in_15  z0 M) 15 [] [.int z0] M := by
  unfold f_X7_in_15
  refine r_chk (fun h1 => ?_)
  exact r_zret F rfl dX7_in_15 rfl (isb_or h1)

def f_X7_in_14  (M : Mem) : Option (Int32 × Mem) := f_X7_in_15  (0 : Int32) M

set_option maxRecDepth 100000 in
set_option maxHeartbeats 4000000 in
theorem l_X7_in_14 {G : GM} {p : Program} {l : Launch} {e : Env} {s : State} {m : MethodId} {args : Array Value} {below : List Frame} {meth : Method} {c : Code} (F : Fx G p l s m args meth c cX7_in RX7 3 (some .boolean))  (M : Mem) : Rf G p l e s m args below meth c 6 3 emI (f_X7_in_14   M) 14 [] [] M := by
  unfold f_X7_in_14
  refine r_iconst F dX7_in_14 (v := 0) (by decide) ?_
  refine r_sub [] rfl ?_
  exact l_X7_in_15 F   (0 : Int32) M

def f_X7_in (a0 : Int32) (a1 : Int32) (a2 : Int32) (M : Mem) : Option (Int32 × Mem) := if a0 < a1 then (f_X7_in_14   M) else (if a2 < a0 then (f_X7_in_14   M) else (f_X7_in_15  (1 : Int32) M))

set_option maxRecDepth 100000 in
set_option maxHeartbeats 4000000 in
theorem b_X7_in {G : GM} {p : Program} {l : Launch} {e : Env} {s : State} {m : MethodId} {args : Array Value} {below : List Frame} {meth : Method} {c : Code} (F : Fx G p l s m args meth c cX7_in RX7 3 (some .boolean)) (a0 : Int32) (a1 : Int32) (a2 : Int32) (M : Mem) : Rf G p l e s m args below meth c 6 3 emI (f_X7_in a0 a1 a2 M) 0 [(0, .int a0), (1, .int a1), (2, .int a2)] [] M := by
  unfold f_X7_in
  refine r_iload_n F 0 dX7_in_0 rfl rfl ?_
  refine r_iload_n F 1 dX7_in_1 rfl rfl ?_
  refine r_icmp_lt (tgt := 14) F dX7_in_2 (by decide) (fun c1 => ?_) (fun c1 => ?_)
  · refine r_sub [] rfl ?_
    exact l_X7_in_14 F    M
  · refine r_iload_n F 0 dX7_in_5 rfl rfl ?_
    refine r_iload_n F 2 dX7_in_6 rfl rfl ?_
    refine r_icmp_gt (tgt := 14) F dX7_in_7 (by decide) (fun c2 => ?_) (fun c2 => ?_)
    · refine r_sub [] rfl ?_
      exact l_X7_in_14 F    M
    · refine r_iconst F dX7_in_10 (v := 1) (by decide) ?_
      refine r_goto (tgt := 15) F dX7_in_11 (by decide) ?_
      refine r_sub [] rfl ?_
      exact l_X7_in_15 F   (1 : Int32) M

set_option maxRecDepth 100000 in
set_option maxHeartbeats 4000000 in
theorem c_X7_in {l : Launch} {G : GM} (hl : l.stackTraces = false) (hG : GG G) (a0 : Int32) (a1 : Int32) (a2 : Int32) (M : Mem) : ∀ r, f_X7_in a0 a1 a2 M = some r → Ctr l G yX7_in (.code yX7_in cX7_in 3 (some .boolean) :: wsA) 6 [.int a0, .int a1, .int a2] M (emI r) :=
  ctr_of (by decide) hl hG (Nat.le_of_ble_eq_true rfl) (fun p e s m args below meth c F => b_X7_in F a0 a1 a2 M)

-- ===== X7_copy DrumTownsModel.copy(II)V =====
theorem yv_X7_copy : yV yX7_copy cX7_copy 4 none 2 := ⟨im_X7_copy, sl_X7_copy, ini_X7, cd_X7_copy, ⟨by decide, by decide, by decide +kernel⟩, by decide⟩

def f_X7_copy_2 : Nat → Int32 → Int32 → Int32 → Mem → Option (Unit × Mem)
  | 0, _, _, _, _ => none
  | n + 1, y1, y2, y3, M => if (428 : Int32) ≤ y3 then (some ((), M)) else (chk (inb (y1 + y3) 3424) <| chk (inb (y2 + y3) 3424) <| bnd (mw M 25 (y2 + y3).toNatClampNeg (M.1 25 (y1 + y3).toNatClampNeg)) fun M24 => bnd (y3 + (1 : Int32)) fun x25 => f_X7_copy_2  n y1 y2 x25 M24)

set_option maxRecDepth 100000 in
set_option maxHeartbeats 4000000 in
theorem l_X7_copy_2 {G : GM} {p : Program} {l : Launch} {e : Env} {s : State} {m : MethodId} {args : Array Value} {below : List Frame} {meth : Method} {c : Code} (F : Fx G p l s m args meth c cX7_copy RX7 4 none) : ∀ (n : Nat) (y1 : Int32) (y2 : Int32) (y3 : Int32) (M : Mem), Rf G p l e s m args below meth c 6 4 emV (f_X7_copy_2  n y1 y2 y3 M) 2 [(0, .ref (gA G 24)), (1, .int y1), (2, .int y2), (3, .int y3)] [] M := by
  intro n
  induction n with
  | zero => intros; exact r_none
  | succ n ih =>
    intro y1 y2 y3 M
    rw [f_X7_copy_2]
    refine r_iload_n F 3 dX7_copy_2 rfl rfl ?_
    refine r_sipush F dX7_copy_3 (v := 428) (by decide) ?_
    refine r_icmp_ge (tgt := 31) F dX7_copy_6 (by decide) (fun c1 => ?_) (fun c1 => ?_)
    · exact r_vret F rfl dX7_copy_31 rfl
    · refine r_aload_n F 0 dX7_copy_9 rfl rfl ?_
      refine gf_X7_7 F dX7_copy_10 (rfl : kd 24 = 7) ?_
      refine r_iload_n F 2 dX7_copy_13 rfl rfl ?_
      refine r_iload_n F 3 dX7_copy_14 rfl rfl ?_
      refine r_iadd F dX7_copy_15 ?_
      refine r_aload_n F 0 dX7_copy_16 rfl rfl ?_
      refine gf_X7_7 F dX7_copy_17 (rfl : kd 24 = 7) ?_
      refine r_iload_n F 1 dX7_copy_20 rfl rfl ?_
      refine r_iload_n F 3 dX7_copy_21 rfl rfl ?_
      refine r_iadd F dX7_copy_22 ?_
      refine r_chk (fun h2 => ?_)
      refine r_iald F dX7_copy_23 (rfl : kd 25 = 8) (rfl : al 25 = 3424) h2 ?_
      refine r_chk (fun h3 => ?_)
      refine r_iast F dX7_copy_24 (rfl : kd 25 = 8) (rfl : al 25 = 3424) h3 (fun M24 => ?_)
      refine r_iinc (ls' := fun q9 => [(3, .int q9), (0, .ref (gA G 24)), (1, .int y1), (2, .int y2)]) (k := 3) (v := y3 + (1 : Int32)) F dX7_copy_25 rfl rfl (by decide) (fun _ => rfl) (fun x25 => ?_)
      refine r_goto (tgt := 2) F dX7_copy_28 (by decide) ?_
      refine r_sub [1, 2, 3, 0] rfl ?_
      exact ih y1 y2 x25 M24

def f_X7_copy (a1 : Int32) (a2 : Int32) (M : Mem) : Option (Unit × Mem) := f_X7_copy_2  FU a1 a2 (0 : Int32) M

set_option maxRecDepth 100000 in
set_option maxHeartbeats 4000000 in
theorem b_X7_copy {G : GM} {p : Program} {l : Launch} {e : Env} {s : State} {m : MethodId} {args : Array Value} {below : List Frame} {meth : Method} {c : Code} (F : Fx G p l s m args meth c cX7_copy RX7 4 none) (a1 : Int32) (a2 : Int32) (M : Mem) : Rf G p l e s m args below meth c 6 4 emV (f_X7_copy a1 a2 M) 0 [(0, .ref (gA G 24)), (1, .int a1), (2, .int a2)] [] M := by
  unfold f_X7_copy
  refine r_iconst F dX7_copy_0 (v := 0) (by decide) ?_
  refine r_istore_n (ls' := [(3, .int (0 : Int32)), (0, .ref (gA G 24)), (1, .int a1), (2, .int a2)]) F dX7_copy_1 rfl (by decide) rfl ?_
  refine r_sub [1, 2, 3, 0] rfl ?_
  exact l_X7_copy_2 F   FU a1 a2 (0 : Int32) M

set_option maxRecDepth 100000 in
set_option maxHeartbeats 4000000 in
theorem c_X7_copy {l : Launch} {G : GM} (hl : l.stackTraces = false) (hG : GG G) (a1 : Int32) (a2 : Int32) (M : Mem) : ∀ r, f_X7_copy a1 a2 M = some r → Ctr l G yX7_copy (.code yX7_copy cX7_copy 4 none :: wsA) 6 [.ref (gA G 24), .int a1, .int a2] M (emV r) :=
  ctr_of (by decide) hl hG (Nat.le_of_ble_eq_true rfl) (fun p e s m args below meth c F => b_X7_copy F a1 a2 M)

-- ===== X7_keep DrumTownsModel.keep()V =====
theorem yv_X7_keep : yV yX7_keep cX7_keep 2 none 0 := ⟨im_X7_keep, sl_X7_keep, ini_X7, cd_X7_keep, ⟨by decide, by decide, by decide +kernel⟩, by decide⟩

def f_X7_keep_51  (M : Mem) : Option (Unit × Mem) := bn (f_X7_copy (0 : Int32) ((428 : Int32) + ((428 : Int32) * (M.1 24 1))) M) fun _ M65 => bnd (mw M65 24 1 ((M65.1 24 1) + (1 : Int32))) fun M75 => some ((), M75)

set_option maxRecDepth 100000 in
set_option maxHeartbeats 4000000 in
theorem l_X7_keep_51 {G : GM} {p : Program} {l : Launch} {e : Env} {s : State} {m : MethodId} {args : Array Value} {below : List Frame} {meth : Method} {c : Code} (F : Fx G p l s m args meth c cX7_keep RX7 2 none)  (M : Mem) : Rf G p l e s m args below meth c 7 2 emV (f_X7_keep_51   M) 51 [(0, .ref (gA G 24))] [] M := by
  unfold f_X7_keep_51
  refine r_aload_n F 0 dX7_keep_51 rfl rfl ?_
  refine r_iconst F dX7_keep_52 (v := 0) (by decide) ?_
  refine r_sipush F dX7_keep_53 (v := 428) (by decide) ?_
  refine r_sipush F dX7_keep_56 (v := 428) (by decide) ?_
  refine r_aload_n F 0 dX7_keep_59 rfl rfl ?_
  refine gf_X7_49 F dX7_keep_60 (rfl : kd 24 = 7) ?_
  refine r_imul F dX7_keep_63 ?_
  refine r_iadd F dX7_keep_64 ?_
  refine r_cV (val := vU) (As := [.int (0 : Int32), .int ((428 : Int32) + ((428 : Int32) * (M.1 24 1)))]) (rest := []) (fun _ => []) F (c_X7_copy F.st F.gg (0 : Int32) ((428 : Int32) + ((428 : Int32) * (M.1 24 1))) M) (fun _ _ => rfl) dX7_keep_65 ml_X7_52 yv_X7_copy (rfl : kd 24 = 7) (by decide) rfl rfl (by decide) rfl (Nat.le_of_ble_eq_true rfl) (fun _ => rfl) (fun _ M65 => ?_)
  refine r_aload_n F 0 dX7_keep_68 rfl rfl ?_
  refine r_dup F dX7_keep_69 rfl ?_
  refine gf_X7_49 F dX7_keep_70 (rfl : kd 24 = 7) ?_
  refine r_iconst F dX7_keep_73 (v := 1) (by decide) ?_
  refine r_iadd F dX7_keep_74 ?_
  refine pf_X7_49 F dX7_keep_75 (rfl : kd 24 = 7) (fun M75 => ?_)
  exact r_vret F rfl dX7_keep_78 rfl

def f_X7_keep_11 : Nat → Int32 → Mem → Option (Unit × Mem)
  | 0, _, _ => none
  | n + 1, y1, M => if (6 : Int32) ≤ y1 then (bnd (mw M 24 1 ((M.1 24 1) - (1 : Int32))) fun M48 => f_X7_keep_51   M48) else (bn (f_X7_copy ((428 : Int32) + ((428 : Int32) * y1)) ((428 : Int32) * y1) M) fun _ M32 => bnd (y1 + (1 : Int32)) fun x35 => f_X7_keep_11  n x35 M32)

set_option maxRecDepth 100000 in
set_option maxHeartbeats 4000000 in
theorem l_X7_keep_11 {G : GM} {p : Program} {l : Launch} {e : Env} {s : State} {m : MethodId} {args : Array Value} {below : List Frame} {meth : Method} {c : Code} (F : Fx G p l s m args meth c cX7_keep RX7 2 none) : ∀ (n : Nat) (y1 : Int32) (M : Mem), Rf G p l e s m args below meth c 7 2 emV (f_X7_keep_11  n y1 M) 11 [(0, .ref (gA G 24)), (1, .int y1)] [] M := by
  intro n
  induction n with
  | zero => intros; exact r_none
  | succ n ih =>
    intro y1 M
    rw [f_X7_keep_11]
    refine r_iload_n F 1 dX7_keep_11 rfl rfl ?_
    refine r_bipush F dX7_keep_12 (v := 6) (by decide) ?_
    refine r_icmp_ge (tgt := 41) F dX7_keep_14 (by decide) (fun c1 => ?_) (fun c1 => ?_)
    · refine r_aload_n F 0 dX7_keep_41 rfl rfl ?_
      refine r_dup F dX7_keep_42 rfl ?_
      refine gf_X7_49 F dX7_keep_43 (rfl : kd 24 = 7) ?_
      refine r_iconst F dX7_keep_46 (v := 1) (by decide) ?_
      refine r_isub F dX7_keep_47 ?_
      refine pf_X7_49 F dX7_keep_48 (rfl : kd 24 = 7) (fun M48 => ?_)
      refine r_sub [0] rfl ?_
      exact l_X7_keep_51 F    M48
    · refine r_aload_n F 0 dX7_keep_17 rfl rfl ?_
      refine r_sipush F dX7_keep_18 (v := 428) (by decide) ?_
      refine r_sipush F dX7_keep_21 (v := 428) (by decide) ?_
      refine r_iload_n F 1 dX7_keep_24 rfl rfl ?_
      refine r_imul F dX7_keep_25 ?_
      refine r_iadd F dX7_keep_26 ?_
      refine r_sipush F dX7_keep_27 (v := 428) (by decide) ?_
      refine r_iload_n F 1 dX7_keep_30 rfl rfl ?_
      refine r_imul F dX7_keep_31 ?_
      refine r_cV (val := vU) (As := [.int ((428 : Int32) + ((428 : Int32) * y1)), .int ((428 : Int32) * y1)]) (rest := []) (fun _ => []) F (c_X7_copy F.st F.gg ((428 : Int32) + ((428 : Int32) * y1)) ((428 : Int32) * y1) M) (fun _ _ => rfl) dX7_keep_32 ml_X7_52 yv_X7_copy (rfl : kd 24 = 7) (by decide) rfl rfl (by decide) rfl (Nat.le_of_ble_eq_true rfl) (fun _ => rfl) (fun _ M32 => ?_)
      refine r_iinc (ls' := fun q9 => [(1, .int q9), (0, .ref (gA G 24))]) (k := 1) (v := y1 + (1 : Int32)) F dX7_keep_35 rfl rfl (by decide) (fun _ => rfl) (fun x35 => ?_)
      refine r_goto (tgt := 11) F dX7_keep_38 (by decide) ?_
      refine r_sub [1, 0] rfl ?_
      exact ih x35 M32

def f_X7_keep  (M : Mem) : Option (Unit × Mem) := if (M.1 24 1) = (6 : Int32) then (f_X7_keep_11  FU (1 : Int32) M) else (f_X7_keep_51   M)

set_option maxRecDepth 100000 in
set_option maxHeartbeats 4000000 in
theorem b_X7_keep {G : GM} {p : Program} {l : Launch} {e : Env} {s : State} {m : MethodId} {args : Array Value} {below : List Frame} {meth : Method} {c : Code} (F : Fx G p l s m args meth c cX7_keep RX7 2 none)  (M : Mem) : Rf G p l e s m args below meth c 7 2 emV (f_X7_keep  M) 0 [(0, .ref (gA G 24))] [] M := by
  unfold f_X7_keep
  refine r_aload_n F 0 dX7_keep_0 rfl rfl ?_
  refine gf_X7_49 F dX7_keep_1 (rfl : kd 24 = 7) ?_
  refine r_bipush F dX7_keep_4 (v := 6) (by decide) ?_
  refine r_icmp_ne (tgt := 51) F dX7_keep_6 (by decide) (fun c1 => ?_) (fun c1 => ?_)
  · refine r_iconst F dX7_keep_9 (v := 1) (by decide) ?_
    refine r_istore_n (ls' := [(1, .int (1 : Int32)), (0, .ref (gA G 24))]) F dX7_keep_10 rfl (by decide) rfl ?_
    refine r_sub [1, 0] rfl ?_
    exact l_X7_keep_11 F   FU (1 : Int32) M
  · refine r_sub [0] rfl ?_
    exact l_X7_keep_51 F    M

set_option maxRecDepth 100000 in
set_option maxHeartbeats 4000000 in
theorem c_X7_keep {l : Launch} {G : GM} (hl : l.stackTraces = false) (hG : GG G)  (M : Mem) : ∀ r, f_X7_keep  M = some r → Ctr l G yX7_keep (.code yX7_keep cX7_keep 2 none :: wsA) 7 [.ref (gA G 24)] M (emV r) :=
  ctr_of (by decide) hl hG (Nat.le_of_ble_eq_true rfl) (fun p e s m args below meth c F => b_X7_keep F  M)

-- ===== X7_addTown DrumTownsModel.addTown(I)I =====
theorem yv_X7_addTown : yV yX7_addTown cX7_addTown 2 (some .int) 1 := ⟨im_X7_addTown, sl_X7_addTown, ini_X7, cd_X7_addTown, ⟨by decide, by decide, by decide +kernel⟩, by decide⟩

def f_X7_addTown_46 (y1 : Int32) (z1 : Int32) (M : Mem) : Option (Int32 × Mem) := bnd (mw M 24 2 z1) fun M46 => if (M46.1 24 2) = 0 then (bn (f_X7_keep M46) fun _ M59 => chk (inb (423 : Int32) 3424) <| chk (inb ((0 : Int32) + (M59.1 25 (423 : Int32).toNatClampNeg)) 3424) <| bnd (mw M59 25 ((0 : Int32) + (M59.1 25 (423 : Int32).toNatClampNeg)).toNatClampNeg y1) fun M77 => chk (inb (423 : Int32) 3424) <| chk (inb (423 : Int32) 3424) <| bnd (mw M77 25 (423 : Int32).toNatClampNeg ((M77.1 25 (423 : Int32).toNatClampNeg) + (1 : Int32))) fun M89 => chk (inb (423 : Int32) 3424) <| some (((M89.1 25 (423 : Int32).toNatClampNeg) - (1 : Int32)), M89)) else (some ((0 : Int32), M46))

set_option maxRecDepth 100000 in
set_option maxHeartbeats 4000000 in
theorem l_X7_addTown_46 {G : GM} {p : Program} {l : Launch} {e : Env} {s : State} {m : MethodId} {args : Array Value} {below : List Frame} {meth : Method} {c : Code} (F : Fx G p l s m args meth c cX7_addTown RX7 2 (some .int)) (y1 : Int32) (z1 : Int32) (M : Mem) : Rf G p l e s m args below meth c 8 2 emI (f_X7_addTown_46  y1 z1 M) 46 [(0, .ref (gA G 24)), (1, .int y1)] [.int z1, .ref (gA G 24)] M := by
  unfold f_X7_addTown_46
  refine pf_X7_37 F dX7_addTown_46 (rfl : kd 24 = 7) (fun M46 => ?_)
  refine r_aload_n F 0 dX7_addTown_49 rfl rfl ?_
  refine gf_X7_37 F dX7_addTown_50 (rfl : kd 24 = 7) ?_
  refine r_if_eq (tgt := 58) F dX7_addTown_53 (by decide) (fun c1 => ?_) (fun c1 => ?_)
  · refine r_aload_n F 0 dX7_addTown_58 rfl rfl ?_
    refine r_cV (val := vU) (As := []) (rest := []) (fun _ => []) F (c_X7_keep F.st F.gg  M46) (fun _ _ => rfl) dX7_addTown_59 ml_X7_64 yv_X7_keep (rfl : kd 24 = 7) (by decide) rfl rfl (by decide) rfl (Nat.le_of_ble_eq_true rfl) (fun _ => rfl) (fun _ M59 => ?_)
    refine r_aload_n F 0 dX7_addTown_62 rfl rfl ?_
    refine gf_X7_7 F dX7_addTown_63 (rfl : kd 24 = 7) ?_
    refine r_iconst F dX7_addTown_66 (v := 0) (by decide) ?_
    refine r_aload_n F 0 dX7_addTown_67 rfl rfl ?_
    refine gf_X7_7 F dX7_addTown_68 (rfl : kd 24 = 7) ?_
    refine r_sipush F dX7_addTown_71 (v := 423) (by decide) ?_
    refine r_chk (fun h2 => ?_)
    refine r_iald F dX7_addTown_74 (rfl : kd 25 = 8) (rfl : al 25 = 3424) h2 ?_
    refine r_iadd F dX7_addTown_75 ?_
    refine r_iload_n F 1 dX7_addTown_76 rfl rfl ?_
    refine r_chk (fun h3 => ?_)
    refine r_iast F dX7_addTown_77 (rfl : kd 25 = 8) (rfl : al 25 = 3424) h3 (fun M77 => ?_)
    refine r_aload_n F 0 dX7_addTown_78 rfl rfl ?_
    refine gf_X7_7 F dX7_addTown_79 (rfl : kd 24 = 7) ?_
    refine r_sipush F dX7_addTown_82 (v := 423) (by decide) ?_
    refine r_dup2 F dX7_addTown_85 rfl rfl ?_
    refine r_chk (fun h4 => ?_)
    refine r_iald F dX7_addTown_86 (rfl : kd 25 = 8) (rfl : al 25 = 3424) h4 ?_
    refine r_iconst F dX7_addTown_87 (v := 1) (by decide) ?_
    refine r_iadd F dX7_addTown_88 ?_
    refine r_chk (fun h5 => ?_)
    refine r_iast F dX7_addTown_89 (rfl : kd 25 = 8) (rfl : al 25 = 3424) h5 (fun M89 => ?_)
    refine r_aload_n F 0 dX7_addTown_90 rfl rfl ?_
    refine gf_X7_7 F dX7_addTown_91 (rfl : kd 24 = 7) ?_
    refine r_sipush F dX7_addTown_94 (v := 423) (by decide) ?_
    refine r_chk (fun h6 => ?_)
    refine r_iald F dX7_addTown_97 (rfl : kd 25 = 8) (rfl : al 25 = 3424) h6 ?_
    refine r_iconst F dX7_addTown_98 (v := 1) (by decide) ?_
    refine r_isub F dX7_addTown_99 ?_
    exact r_iret F rfl dX7_addTown_100 rfl
  · refine r_iconst F dX7_addTown_56 (v := 0) (by decide) ?_
    exact r_iret F rfl dX7_addTown_57 rfl

def f_X7_addTown_41 (y1 : Int32) (M : Mem) : Option (Int32 × Mem) := f_X7_addTown_46  y1 (2 : Int32) M

set_option maxRecDepth 100000 in
set_option maxHeartbeats 4000000 in
theorem l_X7_addTown_41 {G : GM} {p : Program} {l : Launch} {e : Env} {s : State} {m : MethodId} {args : Array Value} {below : List Frame} {meth : Method} {c : Code} (F : Fx G p l s m args meth c cX7_addTown RX7 2 (some .int)) (y1 : Int32) (M : Mem) : Rf G p l e s m args below meth c 8 2 emI (f_X7_addTown_41  y1 M) 41 [(0, .ref (gA G 24)), (1, .int y1)] [.ref (gA G 24)] M := by
  unfold f_X7_addTown_41
  refine r_iconst F dX7_addTown_41 (v := 2) (by decide) ?_
  refine r_goto (tgt := 46) F dX7_addTown_42 (by decide) ?_
  refine r_sub [0, 1] rfl ?_
  exact l_X7_addTown_46 F   y1 (2 : Int32) M

def f_X7_addTown (a1 : Int32) (M : Mem) : Option (Int32 × Mem) := bn (f_X7_in a1 (0 : Int32) (200 : Int32) M) fun r6 M6 => if r6 = 0 then (f_X7_addTown_46  a1 (1 : Int32) M6) else (chk (inb (423 : Int32) 3424) <| if (M6.1 25 (423 : Int32).toNatClampNeg) = (6 : Int32) then (f_X7_addTown_41  a1 M6) else (chk (inb (422 : Int32) 3424) <| if a1 ≤ (M6.1 25 (422 : Int32).toNatClampNeg) then (f_X7_addTown_46  a1 (0 : Int32) M6) else (f_X7_addTown_41  a1 M6)))

set_option maxRecDepth 100000 in
set_option maxHeartbeats 4000000 in
theorem b_X7_addTown {G : GM} {p : Program} {l : Launch} {e : Env} {s : State} {m : MethodId} {args : Array Value} {below : List Frame} {meth : Method} {c : Code} (F : Fx G p l s m args meth c cX7_addTown RX7 2 (some .int)) (a1 : Int32) (M : Mem) : Rf G p l e s m args below meth c 8 2 emI (f_X7_addTown a1 M) 0 [(0, .ref (gA G 24)), (1, .int a1)] [] M := by
  unfold f_X7_addTown
  refine r_aload_n F 0 dX7_addTown_0 rfl rfl ?_
  refine r_iload_n F 1 dX7_addTown_1 rfl rfl ?_
  refine r_iconst F dX7_addTown_2 (v := 0) (by decide) ?_
  refine r_sipush F dX7_addTown_3 (v := 200) (by decide) ?_
  refine r_cS (val := vI) (As := [.int a1, .int (0 : Int32), .int (200 : Int32)]) (rest := [.ref (gA G 24)]) (fun q9 => .int q9 :: [.ref (gA G 24)]) F (c_X7_in F.st F.gg a1 (0 : Int32) (200 : Int32) M) (fun _ _ => rfl) dX7_addTown_6 ml_X7_41 ys_X7_in rfl (by decide) rfl (Nat.le_of_ble_eq_true rfl) (fun _ => rfl) (fun r6 M6 => ?_)
  refine r_if_ne (tgt := 16) F dX7_addTown_9 (by decide) (fun c1 => ?_) (fun c1 => ?_)
  · refine r_iconst F dX7_addTown_12 (v := 1) (by decide) ?_
    refine r_goto (tgt := 46) F dX7_addTown_13 (by decide) ?_
    refine r_sub [0, 1] rfl ?_
    exact l_X7_addTown_46 F   a1 (1 : Int32) M6
  · refine r_aload_n F 0 dX7_addTown_16 rfl rfl ?_
    refine gf_X7_7 F dX7_addTown_17 (rfl : kd 24 = 7) ?_
    refine r_sipush F dX7_addTown_20 (v := 423) (by decide) ?_
    refine r_chk (fun h2 => ?_)
    refine r_iald F dX7_addTown_23 (rfl : kd 25 = 8) (rfl : al 25 = 3424) h2 ?_
    refine r_bipush F dX7_addTown_24 (v := 6) (by decide) ?_
    refine r_icmp_eq (tgt := 41) F dX7_addTown_26 (by decide) (fun c3 => ?_) (fun c3 => ?_)
    · refine r_sub [0, 1] rfl ?_
      exact l_X7_addTown_41 F   a1 M6
    · refine r_iload_n F 1 dX7_addTown_29 rfl rfl ?_
      refine r_aload_n F 0 dX7_addTown_30 rfl rfl ?_
      refine gf_X7_7 F dX7_addTown_31 (rfl : kd 24 = 7) ?_
      refine r_sipush F dX7_addTown_34 (v := 422) (by decide) ?_
      refine r_chk (fun h4 => ?_)
      refine r_iald F dX7_addTown_37 (rfl : kd 25 = 8) (rfl : al 25 = 3424) h4 ?_
      refine r_icmp_le (tgt := 45) F dX7_addTown_38 (by decide) (fun c5 => ?_) (fun c5 => ?_)
      · refine r_iconst F dX7_addTown_45 (v := 0) (by decide) ?_
        refine r_sub [0, 1] rfl ?_
        exact l_X7_addTown_46 F   a1 (0 : Int32) M6
      · refine r_sub [0, 1] rfl ?_
        exact l_X7_addTown_41 F   a1 M6

set_option maxRecDepth 100000 in
set_option maxHeartbeats 4000000 in
theorem c_X7_addTown {l : Launch} {G : GM} (hl : l.stackTraces = false) (hG : GG G) (a1 : Int32) (M : Mem) : ∀ r, f_X7_addTown a1 M = some r → Ctr l G yX7_addTown (.code yX7_addTown cX7_addTown 2 (some .int) :: wsA) 8 [.ref (gA G 24), .int a1] M (emI r) :=
  ctr_of (by decide) hl hG (Nat.le_of_ble_eq_true rfl) (fun p e s m args below meth c F => b_X7_addTown F a1 M)

-- ===== X7_at DrumTownsModel.at(III)I =====
theorem ys_X7_at : yS yX7_at cX7_at 3 (some .int) 3 := ⟨sc_X7_at, ini_X7, cd_X7_at, ⟨by decide, by decide, by decide +kernel⟩, by decide⟩

def f_X7_at (a0 : Int32) (a1 : Int32) (a2 : Int32) (M : Mem) : Option (Int32 × Mem) := some (((a0 + ((24 : Int32) * a1)) + a2), M)

set_option maxRecDepth 100000 in
set_option maxHeartbeats 4000000 in
theorem b_X7_at {G : GM} {p : Program} {l : Launch} {e : Env} {s : State} {m : MethodId} {args : Array Value} {below : List Frame} {meth : Method} {c : Code} (F : Fx G p l s m args meth c cX7_at RX7 3 (some .int)) (a0 : Int32) (a1 : Int32) (a2 : Int32) (M : Mem) : Rf G p l e s m args below meth c 6 3 emI (f_X7_at a0 a1 a2 M) 0 [(0, .int a0), (1, .int a1), (2, .int a2)] [] M := by
  unfold f_X7_at
  refine r_iload_n F 0 dX7_at_0 rfl rfl ?_
  refine r_bipush F dX7_at_1 (v := 24) (by decide) ?_
  refine r_iload_n F 1 dX7_at_3 rfl rfl ?_
  refine r_imul F dX7_at_4 ?_
  refine r_iadd F dX7_at_5 ?_
  refine r_iload_n F 2 dX7_at_6 rfl rfl ?_
  refine r_iadd F dX7_at_7 ?_
  exact r_iret F rfl dX7_at_8 rfl

set_option maxRecDepth 100000 in
set_option maxHeartbeats 4000000 in
theorem c_X7_at {l : Launch} {G : GM} (hl : l.stackTraces = false) (hG : GG G) (a0 : Int32) (a1 : Int32) (a2 : Int32) (M : Mem) : ∀ r, f_X7_at a0 a1 a2 M = some r → Ctr l G yX7_at (.code yX7_at cX7_at 3 (some .int) :: wsA) 6 [.int a0, .int a1, .int a2] M (emI r) :=
  ctr_of (by decide) hl hG (Nat.le_of_ble_eq_true rfl) (fun p e s m args below meth c F => b_X7_at F a0 a1 a2 M)

-- ===== X7_bits DrumTownsModel.bits(I)I =====
theorem ys_X7_bits : yS yX7_bits cX7_bits 3 (some .int) 1 := ⟨sc_X7_bits, ini_X7, cd_X7_bits, ⟨by decide, by decide, by decide +kernel⟩, by decide⟩

def f_X7_bits_4 : Nat → Int32 → Int32 → Int32 → Mem → Option (Int32 × Mem)
  | 0, _, _, _, _ => none
  | n + 1, y0, y1, y2, M => if (12 : Int32) ≤ y2 then (some (y1, M)) else (bnd (y1 + ((y0 >>> (y2 &&& 31)) &&& (1 : Int32))) fun x17 => bnd (y2 + (1 : Int32)) fun x18 => f_X7_bits_4  n y0 x17 x18 M)

set_option maxRecDepth 100000 in
set_option maxHeartbeats 4000000 in
theorem l_X7_bits_4 {G : GM} {p : Program} {l : Launch} {e : Env} {s : State} {m : MethodId} {args : Array Value} {below : List Frame} {meth : Method} {c : Code} (F : Fx G p l s m args meth c cX7_bits RX7 3 (some .int)) : ∀ (n : Nat) (y0 : Int32) (y1 : Int32) (y2 : Int32) (M : Mem), Rf G p l e s m args below meth c 6 3 emI (f_X7_bits_4  n y0 y1 y2 M) 4 [(0, .int y0), (1, .int y1), (2, .int y2)] [] M := by
  intro n
  induction n with
  | zero => intros; exact r_none
  | succ n ih =>
    intro y0 y1 y2 M
    rw [f_X7_bits_4]
    refine r_iload_n F 2 dX7_bits_4 rfl rfl ?_
    refine r_bipush F dX7_bits_5 (v := 12) (by decide) ?_
    refine r_icmp_ge (tgt := 24) F dX7_bits_7 (by decide) (fun c1 => ?_) (fun c1 => ?_)
    · refine r_iload_n F 1 dX7_bits_24 rfl rfl ?_
      exact r_iret F rfl dX7_bits_25 rfl
    · refine r_iload_n F 1 dX7_bits_10 rfl rfl ?_
      refine r_iload_n F 0 dX7_bits_11 rfl rfl ?_
      refine r_iload_n F 2 dX7_bits_12 rfl rfl ?_
      refine r_ishr F dX7_bits_13 ?_
      refine r_iconst F dX7_bits_14 (v := 1) (by decide) ?_
      refine r_iand F dX7_bits_15 ?_
      refine r_iadd F dX7_bits_16 ?_
      refine r_bi (fun x17 => ?_)
      refine r_istore_n (ls' := [(1, .int x17), (0, .int y0), (2, .int y2)]) F dX7_bits_17 rfl (by decide) rfl ?_
      refine r_iinc (ls' := fun q9 => [(2, .int q9), (1, .int x17), (0, .int y0)]) (k := 2) (v := y2 + (1 : Int32)) F dX7_bits_18 rfl rfl (by decide) (fun _ => rfl) (fun x18 => ?_)
      refine r_goto (tgt := 4) F dX7_bits_21 (by decide) ?_
      refine r_sub [2, 1, 0] rfl ?_
      exact ih y0 x17 x18 M

def f_X7_bits (a0 : Int32) (M : Mem) : Option (Int32 × Mem) := f_X7_bits_4  FU a0 (0 : Int32) (0 : Int32) M

set_option maxRecDepth 100000 in
set_option maxHeartbeats 4000000 in
theorem b_X7_bits {G : GM} {p : Program} {l : Launch} {e : Env} {s : State} {m : MethodId} {args : Array Value} {below : List Frame} {meth : Method} {c : Code} (F : Fx G p l s m args meth c cX7_bits RX7 3 (some .int)) (a0 : Int32) (M : Mem) : Rf G p l e s m args below meth c 6 3 emI (f_X7_bits a0 M) 0 [(0, .int a0)] [] M := by
  unfold f_X7_bits
  refine r_iconst F dX7_bits_0 (v := 0) (by decide) ?_
  refine r_istore_n (ls' := [(1, .int (0 : Int32)), (0, .int a0)]) F dX7_bits_1 rfl (by decide) rfl ?_
  refine r_iconst F dX7_bits_2 (v := 0) (by decide) ?_
  refine r_istore_n (ls' := [(2, .int (0 : Int32)), (1, .int (0 : Int32)), (0, .int a0)]) F dX7_bits_3 rfl (by decide) rfl ?_
  refine r_sub [2, 1, 0] rfl ?_
  exact l_X7_bits_4 F   FU a0 (0 : Int32) (0 : Int32) M

set_option maxRecDepth 100000 in
set_option maxHeartbeats 4000000 in
theorem c_X7_bits {l : Launch} {G : GM} (hl : l.stackTraces = false) (hG : GG G) (a0 : Int32) (M : Mem) : ∀ r, f_X7_bits a0 M = some r → Ctr l G yX7_bits (.code yX7_bits cX7_bits 3 (some .int) :: wsA) 6 [.int a0] M (emI r) :=
  ctr_of (by decide) hl hG (Nat.le_of_ble_eq_true rfl) (fun p e s m args below meth c F => b_X7_bits F a0 M)

-- ===== X7_rightOf DrumTownsModel.rightOf(III)I =====
theorem yv_X7_rightOf : yV yX7_rightOf cX7_rightOf 6 (some .int) 3 := ⟨im_X7_rightOf, sl_X7_rightOf, ini_X7, cd_X7_rightOf, ⟨by decide, by decide, by decide +kernel⟩, by decide⟩

def f_X7_rightOf_6 : Nat → Int32 → Int32 → Int32 → Int32 → Int32 → Mem → Option (Int32 × Mem)
  | 0, _, _, _, _, _, _ => none
  | n + 1, y1, y2, y3, y4, y5, M => if (24 : Int32) ≤ y5 then (some (y4, M)) else (bn (f_X7_at (6 : Int32) y1 y5 M) fun r24 M24 => chk (inb r24 3424) <| bn (f_X7_at (150 : Int32) y2 ((y5 + y3) - (y5 + y3) / (24 : Int32) * (24 : Int32)) M24) fun r43 M43 => chk (inb r43 3424) <| bn (f_X7_bits ((M24.1 25 r24.toNatClampNeg) &&& (M43.1 25 r43.toNatClampNeg)) M43) fun r48 M48 => bnd (y4 + r48) fun x52 => bnd (y5 + (1 : Int32)) fun x54 => f_X7_rightOf_6  n y1 y2 y3 x52 x54 M48)

set_option maxRecDepth 100000 in
set_option maxHeartbeats 4000000 in
theorem l_X7_rightOf_6 {G : GM} {p : Program} {l : Launch} {e : Env} {s : State} {m : MethodId} {args : Array Value} {below : List Frame} {meth : Method} {c : Code} (F : Fx G p l s m args meth c cX7_rightOf RX7 6 (some .int)) : ∀ (n : Nat) (y1 : Int32) (y2 : Int32) (y3 : Int32) (y4 : Int32) (y5 : Int32) (M : Mem), Rf G p l e s m args below meth c 7 6 emI (f_X7_rightOf_6  n y1 y2 y3 y4 y5 M) 6 [(0, .ref (gA G 24)), (1, .int y1), (2, .int y2), (3, .int y3), (4, .int y4), (5, .int y5)] [] M := by
  intro n
  induction n with
  | zero => intros; exact r_none
  | succ n ih =>
    intro y1 y2 y3 y4 y5 M
    rw [f_X7_rightOf_6]
    refine r_iload F 5 dX7_rightOf_6 rfl ?_
    refine r_bipush F dX7_rightOf_8 (v := 24) (by decide) ?_
    refine r_icmp_ge (tgt := 60) F dX7_rightOf_10 (by decide) (fun c1 => ?_) (fun c1 => ?_)
    · refine r_iload F 4 dX7_rightOf_60 rfl ?_
      exact r_iret F rfl dX7_rightOf_62 rfl
    · refine r_iload F 4 dX7_rightOf_13 rfl ?_
      refine r_aload_n F 0 dX7_rightOf_15 rfl rfl ?_
      refine gf_X7_7 F dX7_rightOf_16 (rfl : kd 24 = 7) ?_
      refine r_bipush F dX7_rightOf_19 (v := 6) (by decide) ?_
      refine r_iload_n F 1 dX7_rightOf_21 rfl rfl ?_
      refine r_iload F 5 dX7_rightOf_22 rfl ?_
      refine r_cS (val := vI) (As := [.int (6 : Int32), .int y1, .int y5]) (rest := [.ref (gA G 25), .int y4]) (fun q9 => .int q9 :: [.ref (gA G 25), .int y4]) F (c_X7_at F.st F.gg (6 : Int32) y1 y5 M) (fun _ _ => rfl) dX7_rightOf_24 ml_X7_56 ys_X7_at rfl (by decide) rfl (Nat.le_of_ble_eq_true rfl) (fun _ => rfl) (fun r24 M24 => ?_)
      refine r_chk (fun h2 => ?_)
      refine r_iald F dX7_rightOf_27 (rfl : kd 25 = 8) (rfl : al 25 = 3424) h2 ?_
      refine r_aload_n F 0 dX7_rightOf_28 rfl rfl ?_
      refine gf_X7_7 F dX7_rightOf_29 (rfl : kd 24 = 7) ?_
      refine r_sipush F dX7_rightOf_32 (v := 150) (by decide) ?_
      refine r_iload_n F 2 dX7_rightOf_35 rfl rfl ?_
      refine r_iload F 5 dX7_rightOf_36 rfl ?_
      refine r_iload_n F 3 dX7_rightOf_38 rfl rfl ?_
      refine r_iadd F dX7_rightOf_39 ?_
      refine r_bipush F dX7_rightOf_40 (v := 24) (by decide) ?_
      refine r_irem F dX7_rightOf_42 (by decide) ?_
      refine r_cS (val := vI) (As := [.int (150 : Int32), .int y2, .int ((y5 + y3) - (y5 + y3) / (24 : Int32) * (24 : Int32))]) (rest := [.ref (gA G 25), .int (M24.1 25 r24.toNatClampNeg), .int y4]) (fun q9 => .int q9 :: [.ref (gA G 25), .int (M24.1 25 r24.toNatClampNeg), .int y4]) F (c_X7_at F.st F.gg (150 : Int32) y2 ((y5 + y3) - (y5 + y3) / (24 : Int32) * (24 : Int32)) M24) (fun _ _ => rfl) dX7_rightOf_43 ml_X7_56 ys_X7_at rfl (by decide) rfl (Nat.le_of_ble_eq_true rfl) (fun _ => rfl) (fun r43 M43 => ?_)
      refine r_chk (fun h3 => ?_)
      refine r_iald F dX7_rightOf_46 (rfl : kd 25 = 8) (rfl : al 25 = 3424) h3 ?_
      refine r_iand F dX7_rightOf_47 ?_
      refine r_cS (val := vI) (As := [.int ((M24.1 25 r24.toNatClampNeg) &&& (M43.1 25 r43.toNatClampNeg))]) (rest := [.int y4]) (fun q9 => .int q9 :: [.int y4]) F (c_X7_bits F.st F.gg ((M24.1 25 r24.toNatClampNeg) &&& (M43.1 25 r43.toNatClampNeg)) M43) (fun _ _ => rfl) dX7_rightOf_48 ml_X7_60 ys_X7_bits rfl (by decide) rfl (Nat.le_of_ble_eq_true rfl) (fun _ => rfl) (fun r48 M48 => ?_)
      refine r_iadd F dX7_rightOf_51 ?_
      refine r_bi (fun x52 => ?_)
      refine r_istore (ls' := [(4, .int x52), (0, .ref (gA G 24)), (1, .int y1), (2, .int y2), (3, .int y3), (5, .int y5)]) F dX7_rightOf_52 (by decide) rfl ?_
      refine r_iinc (ls' := fun q9 => [(5, .int q9), (4, .int x52), (0, .ref (gA G 24)), (1, .int y1), (2, .int y2), (3, .int y3)]) (k := 5) (v := y5 + (1 : Int32)) F dX7_rightOf_54 rfl rfl (by decide) (fun _ => rfl) (fun x54 => ?_)
      refine r_goto (tgt := 6) F dX7_rightOf_57 (by decide) ?_
      refine r_sub [2, 3, 4, 5, 1, 0] rfl ?_
      exact ih y1 y2 y3 x52 x54 M48

def f_X7_rightOf (a1 : Int32) (a2 : Int32) (a3 : Int32) (M : Mem) : Option (Int32 × Mem) := f_X7_rightOf_6  FU a1 a2 a3 (0 : Int32) (0 : Int32) M

set_option maxRecDepth 100000 in
set_option maxHeartbeats 4000000 in
theorem b_X7_rightOf {G : GM} {p : Program} {l : Launch} {e : Env} {s : State} {m : MethodId} {args : Array Value} {below : List Frame} {meth : Method} {c : Code} (F : Fx G p l s m args meth c cX7_rightOf RX7 6 (some .int)) (a1 : Int32) (a2 : Int32) (a3 : Int32) (M : Mem) : Rf G p l e s m args below meth c 7 6 emI (f_X7_rightOf a1 a2 a3 M) 0 [(0, .ref (gA G 24)), (1, .int a1), (2, .int a2), (3, .int a3)] [] M := by
  unfold f_X7_rightOf
  refine r_iconst F dX7_rightOf_0 (v := 0) (by decide) ?_
  refine r_istore (ls' := [(4, .int (0 : Int32)), (0, .ref (gA G 24)), (1, .int a1), (2, .int a2), (3, .int a3)]) F dX7_rightOf_1 (by decide) rfl ?_
  refine r_iconst F dX7_rightOf_3 (v := 0) (by decide) ?_
  refine r_istore (ls' := [(5, .int (0 : Int32)), (4, .int (0 : Int32)), (0, .ref (gA G 24)), (1, .int a1), (2, .int a2), (3, .int a3)]) F dX7_rightOf_4 (by decide) rfl ?_
  refine r_sub [2, 3, 4, 5, 1, 0] rfl ?_
  exact l_X7_rightOf_6 F   FU a1 a2 a3 (0 : Int32) (0 : Int32) M

set_option maxRecDepth 100000 in
set_option maxHeartbeats 4000000 in
theorem c_X7_rightOf {l : Launch} {G : GM} (hl : l.stackTraces = false) (hG : GG G) (a1 : Int32) (a2 : Int32) (a3 : Int32) (M : Mem) : ∀ r, f_X7_rightOf a1 a2 a3 M = some r → Ctr l G yX7_rightOf (.code yX7_rightOf cX7_rightOf 6 (some .int) :: wsA) 7 [.ref (gA G 24), .int a1, .int a2, .int a3] M (emI r) :=
  ctr_of (by decide) hl hG (Nat.le_of_ble_eq_true rfl) (fun p e s m args below meth c F => b_X7_rightOf F a1 a2 a3 M)

-- ===== X7_bestDrumOf DrumTownsModel.bestDrumOf(I)I =====
theorem yv_X7_bestDrumOf : yV yX7_bestDrumOf cX7_bestDrumOf 4 (some .int) 1 := ⟨im_X7_bestDrumOf, sl_X7_bestDrumOf, ini_X7, cd_X7_bestDrumOf, ⟨by decide, by decide, by decide +kernel⟩, by decide⟩

def f_X7_bestDrumOf_48 (k4 : Int32 → Int32 → Int32 → Mem → Option (Int32 × Mem)) (y1 : Int32) (y3 : Int32) (z0 : Int32) (M : Mem) : Option (Int32 × Mem) := bnd (y3 + (1 : Int32)) fun x49 => k4 y1 z0 x49 M

set_option maxRecDepth 100000 in
set_option maxHeartbeats 4000000 in
theorem l_X7_bestDrumOf_48 {G : GM} {p : Program} {l : Launch} {e : Env} {s : State} {m : MethodId} {args : Array Value} {below : List Frame} {meth : Method} {c : Code} (F : Fx G p l s m args meth c cX7_bestDrumOf RX7 4 (some .int)) (k4 : Int32 → Int32 → Int32 → Mem → Option (Int32 × Mem)) (H4 : ∀ (y1 : Int32) (y2 : Int32) (y3 : Int32) (M : Mem), Rf G p l e s m args below meth c 8 4 emI (k4 y1 y2 y3 M) 4 [(0, .ref (gA G 24)), (1, .int y1), (2, .int y2), (3, .int y3)] [] M) (y1 : Int32) (y3 : Int32) (z0 : Int32) (M : Mem) : Rf G p l e s m args below meth c 8 4 emI (f_X7_bestDrumOf_48 k4 y1 y3 z0 M) 48 [(0, .ref (gA G 24)), (1, .int y1), (3, .int y3)] [.int z0] M := by
  unfold f_X7_bestDrumOf_48
  refine r_istore_n (ls' := [(2, .int z0), (0, .ref (gA G 24)), (1, .int y1), (3, .int y3)]) F dX7_bestDrumOf_48 rfl (by decide) rfl ?_
  refine r_iinc (ls' := fun q9 => [(3, .int q9), (2, .int z0), (0, .ref (gA G 24)), (1, .int y1)]) (k := 3) (v := y3 + (1 : Int32)) F dX7_bestDrumOf_49 rfl rfl (by decide) (fun _ => rfl) (fun x49 => ?_)
  refine r_goto (tgt := 4) F dX7_bestDrumOf_52 (by decide) ?_
  refine r_sub [2, 3, 1, 0] rfl ?_
  exact H4 y1 z0 x49 M

def f_X7_bestDrumOf_43 (k4 : Int32 → Int32 → Int32 → Mem → Option (Int32 × Mem)) (y1 : Int32) (y3 : Int32) (M : Mem) : Option (Int32 × Mem) := f_X7_bestDrumOf_48 k4 y1 y3 y3 M

set_option maxRecDepth 100000 in
set_option maxHeartbeats 4000000 in
theorem l_X7_bestDrumOf_43 {G : GM} {p : Program} {l : Launch} {e : Env} {s : State} {m : MethodId} {args : Array Value} {below : List Frame} {meth : Method} {c : Code} (F : Fx G p l s m args meth c cX7_bestDrumOf RX7 4 (some .int)) (k4 : Int32 → Int32 → Int32 → Mem → Option (Int32 × Mem)) (H4 : ∀ (y1 : Int32) (y2 : Int32) (y3 : Int32) (M : Mem), Rf G p l e s m args below meth c 8 4 emI (k4 y1 y2 y3 M) 4 [(0, .ref (gA G 24)), (1, .int y1), (2, .int y2), (3, .int y3)] [] M) (y1 : Int32) (y3 : Int32) (M : Mem) : Rf G p l e s m args below meth c 8 4 emI (f_X7_bestDrumOf_43 k4 y1 y3 M) 43 [(0, .ref (gA G 24)), (1, .int y1), (3, .int y3)] [] M := by
  unfold f_X7_bestDrumOf_43
  refine r_iload_n F 2 dX7_bestDrumOf_43 rfl rfl ?_
  refine r_goto (tgt := 48) F dX7_bestDrumOf_44 (by decide) ?_
  refine r_sub [0, 1, 2] rfl ?_
  exact l_X7_bestDrumOf_48 F k4 H4 y1 y3 y3 M

def f_X7_bestDrumOf_47 (k4 : Int32 → Int32 → Int32 → Mem → Option (Int32 × Mem)) (y1 : Int32) (y2 : Int32) (y3 : Int32) (M : Mem) : Option (Int32 × Mem) := f_X7_bestDrumOf_48 k4 y1 y3 y2 M

set_option maxRecDepth 100000 in
set_option maxHeartbeats 4000000 in
theorem l_X7_bestDrumOf_47 {G : GM} {p : Program} {l : Launch} {e : Env} {s : State} {m : MethodId} {args : Array Value} {below : List Frame} {meth : Method} {c : Code} (F : Fx G p l s m args meth c cX7_bestDrumOf RX7 4 (some .int)) (k4 : Int32 → Int32 → Int32 → Mem → Option (Int32 × Mem)) (H4 : ∀ (y1 : Int32) (y2 : Int32) (y3 : Int32) (M : Mem), Rf G p l e s m args below meth c 8 4 emI (k4 y1 y2 y3 M) 4 [(0, .ref (gA G 24)), (1, .int y1), (2, .int y2), (3, .int y3)] [] M) (y1 : Int32) (y2 : Int32) (y3 : Int32) (M : Mem) : Rf G p l e s m args below meth c 8 4 emI (f_X7_bestDrumOf_47 k4 y1 y2 y3 M) 47 [(0, .ref (gA G 24)), (1, .int y1), (2, .int y2), (3, .int y3)] [] M := by
  unfold f_X7_bestDrumOf_47
  refine r_iload_n F 2 dX7_bestDrumOf_47 rfl rfl ?_
  refine r_sub [0, 1, 3] rfl ?_
  exact l_X7_bestDrumOf_48 F k4 H4 y1 y3 y2 M

def f_X7_bestDrumOf_4 : Nat → Int32 → Int32 → Int32 → Mem → Option (Int32 × Mem)
  | 0, _, _, _, _ => none
  | n + 1, y1, y2, y3, M => chk (inb (423 : Int32) 3424) <| if (M.1 25 (423 : Int32).toNatClampNeg) ≤ y3 then (some (y2, M)) else (if y3 = y1 then (f_X7_bestDrumOf_47 (f_X7_bestDrumOf_4  n) y1 y2 y3 M) else (if y2 = (-1 : Int32) then (f_X7_bestDrumOf_43 (f_X7_bestDrumOf_4  n) y1 y3 M) else (bn (f_X7_rightOf y3 y1 (0 : Int32) M) fun r30 M30 => bn (f_X7_rightOf y2 y1 (0 : Int32) M30) fun r37 M37 => if r30 ≤ r37 then (f_X7_bestDrumOf_47 (f_X7_bestDrumOf_4  n) y1 y2 y3 M37) else (f_X7_bestDrumOf_43 (f_X7_bestDrumOf_4  n) y1 y3 M37))))

set_option maxRecDepth 100000 in
set_option maxHeartbeats 4000000 in
theorem l_X7_bestDrumOf_4 {G : GM} {p : Program} {l : Launch} {e : Env} {s : State} {m : MethodId} {args : Array Value} {below : List Frame} {meth : Method} {c : Code} (F : Fx G p l s m args meth c cX7_bestDrumOf RX7 4 (some .int)) : ∀ (n : Nat) (y1 : Int32) (y2 : Int32) (y3 : Int32) (M : Mem), Rf G p l e s m args below meth c 8 4 emI (f_X7_bestDrumOf_4  n y1 y2 y3 M) 4 [(0, .ref (gA G 24)), (1, .int y1), (2, .int y2), (3, .int y3)] [] M := by
  intro n
  induction n with
  | zero => intros; exact r_none
  | succ n ih =>
    intro y1 y2 y3 M
    rw [f_X7_bestDrumOf_4]
    refine r_iload_n F 3 dX7_bestDrumOf_4 rfl rfl ?_
    refine r_aload_n F 0 dX7_bestDrumOf_5 rfl rfl ?_
    refine gf_X7_7 F dX7_bestDrumOf_6 (rfl : kd 24 = 7) ?_
    refine r_sipush F dX7_bestDrumOf_9 (v := 423) (by decide) ?_
    refine r_chk (fun h1 => ?_)
    refine r_iald F dX7_bestDrumOf_12 (rfl : kd 25 = 8) (rfl : al 25 = 3424) h1 ?_
    refine r_icmp_ge (tgt := 55) F dX7_bestDrumOf_13 (by decide) (fun c2 => ?_) (fun c2 => ?_)
    · refine r_iload_n F 2 dX7_bestDrumOf_55 rfl rfl ?_
      exact r_iret F rfl dX7_bestDrumOf_56 rfl
    · refine r_iload_n F 3 dX7_bestDrumOf_16 rfl rfl ?_
      refine r_iload_n F 1 dX7_bestDrumOf_17 rfl rfl ?_
      refine r_icmp_eq (tgt := 47) F dX7_bestDrumOf_18 (by decide) (fun c3 => ?_) (fun c3 => ?_)
      · refine r_sub [0, 1, 2, 3] rfl ?_
        exact l_X7_bestDrumOf_47 F (f_X7_bestDrumOf_4  n) (fun q0 q1 q2 M9 => ih q0 q1 q2 M9) y1 y2 y3 M
      · refine r_iload_n F 2 dX7_bestDrumOf_21 rfl rfl ?_
        refine r_iconst F dX7_bestDrumOf_22 (v := -1) (by decide) ?_
        refine r_icmp_eq (tgt := 43) F dX7_bestDrumOf_23 (by decide) (fun c4 => ?_) (fun c4 => ?_)
        · refine r_sub [0, 1, 3] rfl ?_
          exact l_X7_bestDrumOf_43 F (f_X7_bestDrumOf_4  n) (fun q0 q1 q2 M9 => ih q0 q1 q2 M9) y1 y3 M
        · refine r_aload_n F 0 dX7_bestDrumOf_26 rfl rfl ?_
          refine r_iload_n F 3 dX7_bestDrumOf_27 rfl rfl ?_
          refine r_iload_n F 1 dX7_bestDrumOf_28 rfl rfl ?_
          refine r_iconst F dX7_bestDrumOf_29 (v := 0) (by decide) ?_
          refine r_cV (val := vI) (As := [.int y3, .int y1, .int (0 : Int32)]) (rest := []) (fun q9 => .int q9 :: []) F (c_X7_rightOf F.st F.gg y3 y1 (0 : Int32) M) (fun _ _ => rfl) dX7_bestDrumOf_30 ml_X7_78 yv_X7_rightOf (rfl : kd 24 = 7) (by decide) rfl rfl (by decide) rfl (Nat.le_of_ble_eq_true rfl) (fun _ => rfl) (fun r30 M30 => ?_)
          refine r_aload_n F 0 dX7_bestDrumOf_33 rfl rfl ?_
          refine r_iload_n F 2 dX7_bestDrumOf_34 rfl rfl ?_
          refine r_iload_n F 1 dX7_bestDrumOf_35 rfl rfl ?_
          refine r_iconst F dX7_bestDrumOf_36 (v := 0) (by decide) ?_
          refine r_cV (val := vI) (As := [.int y2, .int y1, .int (0 : Int32)]) (rest := [.int r30]) (fun q9 => .int q9 :: [.int r30]) F (c_X7_rightOf F.st F.gg y2 y1 (0 : Int32) M30) (fun _ _ => rfl) dX7_bestDrumOf_37 ml_X7_78 yv_X7_rightOf (rfl : kd 24 = 7) (by decide) rfl rfl (by decide) rfl (Nat.le_of_ble_eq_true rfl) (fun _ => rfl) (fun r37 M37 => ?_)
          refine r_icmp_le (tgt := 47) F dX7_bestDrumOf_40 (by decide) (fun c5 => ?_) (fun c5 => ?_)
          · refine r_sub [0, 1, 2, 3] rfl ?_
            exact l_X7_bestDrumOf_47 F (f_X7_bestDrumOf_4  n) (fun q0 q1 q2 M9 => ih q0 q1 q2 M9) y1 y2 y3 M37
          · refine r_sub [0, 1, 3] rfl ?_
            exact l_X7_bestDrumOf_43 F (f_X7_bestDrumOf_4  n) (fun q0 q1 q2 M9 => ih q0 q1 q2 M9) y1 y3 M37

def f_X7_bestDrumOf (a1 : Int32) (M : Mem) : Option (Int32 × Mem) := f_X7_bestDrumOf_4  FU a1 (-1 : Int32) (0 : Int32) M

set_option maxRecDepth 100000 in
set_option maxHeartbeats 4000000 in
theorem b_X7_bestDrumOf {G : GM} {p : Program} {l : Launch} {e : Env} {s : State} {m : MethodId} {args : Array Value} {below : List Frame} {meth : Method} {c : Code} (F : Fx G p l s m args meth c cX7_bestDrumOf RX7 4 (some .int)) (a1 : Int32) (M : Mem) : Rf G p l e s m args below meth c 8 4 emI (f_X7_bestDrumOf a1 M) 0 [(0, .ref (gA G 24)), (1, .int a1)] [] M := by
  unfold f_X7_bestDrumOf
  refine r_iconst F dX7_bestDrumOf_0 (v := -1) (by decide) ?_
  refine r_istore_n (ls' := [(2, .int (-1 : Int32)), (0, .ref (gA G 24)), (1, .int a1)]) F dX7_bestDrumOf_1 rfl (by decide) rfl ?_
  refine r_iconst F dX7_bestDrumOf_2 (v := 0) (by decide) ?_
  refine r_istore_n (ls' := [(3, .int (0 : Int32)), (2, .int (-1 : Int32)), (0, .ref (gA G 24)), (1, .int a1)]) F dX7_bestDrumOf_3 rfl (by decide) rfl ?_
  refine r_sub [2, 3, 1, 0] rfl ?_
  exact l_X7_bestDrumOf_4 F   FU a1 (-1 : Int32) (0 : Int32) M

set_option maxRecDepth 100000 in
set_option maxHeartbeats 4000000 in
theorem c_X7_bestDrumOf {l : Launch} {G : GM} (hl : l.stackTraces = false) (hG : GG G) (a1 : Int32) (M : Mem) : ∀ r, f_X7_bestDrumOf a1 M = some r → Ctr l G yX7_bestDrumOf (.code yX7_bestDrumOf cX7_bestDrumOf 4 (some .int) :: wsA) 8 [.ref (gA G 24), .int a1] M (emI r) :=
  ctr_of (by decide) hl hG (Nat.le_of_ble_eq_true rfl) (fun p e s m args below meth c F => b_X7_bestDrumOf F a1 M)

-- ===== X7_bestTurnOf DrumTownsModel.bestTurnOf(II)I =====
theorem yv_X7_bestTurnOf : yV yX7_bestTurnOf cX7_bestTurnOf 5 (some .int) 2 := ⟨im_X7_bestTurnOf, sl_X7_bestTurnOf, ini_X7, cd_X7_bestTurnOf, ⟨by decide, by decide, by decide +kernel⟩, by decide⟩

def f_X7_bestTurnOf_36 (k5 : Int32 → Int32 → Int32 → Int32 → Mem → Option (Int32 × Mem)) (y1 : Int32) (y2 : Int32) (y4 : Int32) (z0 : Int32) (M : Mem) : Option (Int32 × Mem) := bnd (y4 + (1 : Int32)) fun x37 => k5 y1 y2 z0 x37 M

set_option maxRecDepth 100000 in
set_option maxHeartbeats 4000000 in
theorem l_X7_bestTurnOf_36 {G : GM} {p : Program} {l : Launch} {e : Env} {s : State} {m : MethodId} {args : Array Value} {below : List Frame} {meth : Method} {c : Code} (F : Fx G p l s m args meth c cX7_bestTurnOf RX7 5 (some .int)) (k5 : Int32 → Int32 → Int32 → Int32 → Mem → Option (Int32 × Mem)) (H5 : ∀ (y1 : Int32) (y2 : Int32) (y3 : Int32) (y4 : Int32) (M : Mem), Rf G p l e s m args below meth c 8 5 emI (k5 y1 y2 y3 y4 M) 5 [(0, .ref (gA G 24)), (1, .int y1), (2, .int y2), (3, .int y3), (4, .int y4)] [] M) (y1 : Int32) (y2 : Int32) (y4 : Int32) (z0 : Int32) (M : Mem) : Rf G p l e s m args below meth c 8 5 emI (f_X7_bestTurnOf_36 k5 y1 y2 y4 z0 M) 36 [(0, .ref (gA G 24)), (1, .int y1), (2, .int y2), (4, .int y4)] [.int z0] M := by
  unfold f_X7_bestTurnOf_36
  refine r_istore_n (ls' := [(3, .int z0), (0, .ref (gA G 24)), (1, .int y1), (2, .int y2), (4, .int y4)]) F dX7_bestTurnOf_36 rfl (by decide) rfl ?_
  refine r_iinc (ls' := fun q9 => [(4, .int q9), (3, .int z0), (0, .ref (gA G 24)), (1, .int y1), (2, .int y2)]) (k := 4) (v := y4 + (1 : Int32)) F dX7_bestTurnOf_37 rfl rfl (by decide) (fun _ => rfl) (fun x37 => ?_)
  refine r_goto (tgt := 5) F dX7_bestTurnOf_40 (by decide) ?_
  refine r_sub [2, 3, 4, 1, 0] rfl ?_
  exact H5 y1 y2 z0 x37 M

def f_X7_bestTurnOf_58 (z0 : Int32) (M : Mem) : Option (Int32 × Mem) := some (z0, M)

set_option maxRecDepth 100000 in
set_option maxHeartbeats 4000000 in
theorem l_X7_bestTurnOf_58 {G : GM} {p : Program} {l : Launch} {e : Env} {s : State} {m : MethodId} {args : Array Value} {below : List Frame} {meth : Method} {c : Code} (F : Fx G p l s m args meth c cX7_bestTurnOf RX7 5 (some .int)) (z0 : Int32) (M : Mem) : Rf G p l e s m args below meth c 8 5 emI (f_X7_bestTurnOf_58  z0 M) 58 [] [.int z0] M := by
  unfold f_X7_bestTurnOf_58
  exact r_iret F rfl dX7_bestTurnOf_58 rfl

def f_X7_bestTurnOf_5 : Nat → Int32 → Int32 → Int32 → Int32 → Mem → Option (Int32 × Mem)
  | 0, _, _, _, _, _ => none
  | n + 1, y1, y2, y3, y4, M => if (24 : Int32) ≤ y4 then (if y2 = 0 then (f_X7_bestTurnOf_58  y3 M) else (bn (f_X7_rightOf y1 y1 y3 M) fun r55 M55 => f_X7_bestTurnOf_58  r55 M55)) else (bn (f_X7_rightOf y1 y1 y4 M) fun r17 M17 => bn (f_X7_rightOf y1 y1 y3 M17) fun r24 M24 => if r17 ≤ r24 then (f_X7_bestTurnOf_36 (f_X7_bestTurnOf_5  n) y1 y2 y4 y3 M24) else (f_X7_bestTurnOf_36 (f_X7_bestTurnOf_5  n) y1 y2 y4 y4 M24))

set_option maxRecDepth 100000 in
set_option maxHeartbeats 4000000 in
theorem l_X7_bestTurnOf_5 {G : GM} {p : Program} {l : Launch} {e : Env} {s : State} {m : MethodId} {args : Array Value} {below : List Frame} {meth : Method} {c : Code} (F : Fx G p l s m args meth c cX7_bestTurnOf RX7 5 (some .int)) : ∀ (n : Nat) (y1 : Int32) (y2 : Int32) (y3 : Int32) (y4 : Int32) (M : Mem), Rf G p l e s m args below meth c 8 5 emI (f_X7_bestTurnOf_5  n y1 y2 y3 y4 M) 5 [(0, .ref (gA G 24)), (1, .int y1), (2, .int y2), (3, .int y3), (4, .int y4)] [] M := by
  intro n
  induction n with
  | zero => intros; exact r_none
  | succ n ih =>
    intro y1 y2 y3 y4 M
    rw [f_X7_bestTurnOf_5]
    refine r_iload F 4 dX7_bestTurnOf_5 rfl ?_
    refine r_bipush F dX7_bestTurnOf_7 (v := 24) (by decide) ?_
    refine r_icmp_ge (tgt := 43) F dX7_bestTurnOf_9 (by decide) (fun c1 => ?_) (fun c1 => ?_)
    · refine r_iload_n F 2 dX7_bestTurnOf_43 rfl rfl ?_
      refine r_if_ne (tgt := 51) F dX7_bestTurnOf_44 (by decide) (fun c2 => ?_) (fun c2 => ?_)
      · refine r_iload_n F 3 dX7_bestTurnOf_47 rfl rfl ?_
        refine r_goto (tgt := 58) F dX7_bestTurnOf_48 (by decide) ?_
        refine r_sub [] rfl ?_
        exact l_X7_bestTurnOf_58 F   y3 M
      · refine r_aload_n F 0 dX7_bestTurnOf_51 rfl rfl ?_
        refine r_iload_n F 1 dX7_bestTurnOf_52 rfl rfl ?_
        refine r_iload_n F 1 dX7_bestTurnOf_53 rfl rfl ?_
        refine r_iload_n F 3 dX7_bestTurnOf_54 rfl rfl ?_
        refine r_cV (val := vI) (As := [.int y1, .int y1, .int y3]) (rest := []) (fun q9 => .int q9 :: []) F (c_X7_rightOf F.st F.gg y1 y1 y3 M) (fun _ _ => rfl) dX7_bestTurnOf_55 ml_X7_78 yv_X7_rightOf (rfl : kd 24 = 7) (by decide) rfl rfl (by decide) rfl (Nat.le_of_ble_eq_true rfl) (fun _ => rfl) (fun r55 M55 => ?_)
        refine r_sub [] rfl ?_
        exact l_X7_bestTurnOf_58 F   r55 M55
    · refine r_aload_n F 0 dX7_bestTurnOf_12 rfl rfl ?_
      refine r_iload_n F 1 dX7_bestTurnOf_13 rfl rfl ?_
      refine r_iload_n F 1 dX7_bestTurnOf_14 rfl rfl ?_
      refine r_iload F 4 dX7_bestTurnOf_15 rfl ?_
      refine r_cV (val := vI) (As := [.int y1, .int y1, .int y4]) (rest := []) (fun q9 => .int q9 :: []) F (c_X7_rightOf F.st F.gg y1 y1 y4 M) (fun _ _ => rfl) dX7_bestTurnOf_17 ml_X7_78 yv_X7_rightOf (rfl : kd 24 = 7) (by decide) rfl rfl (by decide) rfl (Nat.le_of_ble_eq_true rfl) (fun _ => rfl) (fun r17 M17 => ?_)
      refine r_aload_n F 0 dX7_bestTurnOf_20 rfl rfl ?_
      refine r_iload_n F 1 dX7_bestTurnOf_21 rfl rfl ?_
      refine r_iload_n F 1 dX7_bestTurnOf_22 rfl rfl ?_
      refine r_iload_n F 3 dX7_bestTurnOf_23 rfl rfl ?_
      refine r_cV (val := vI) (As := [.int y1, .int y1, .int y3]) (rest := [.int r17]) (fun q9 => .int q9 :: [.int r17]) F (c_X7_rightOf F.st F.gg y1 y1 y3 M17) (fun _ _ => rfl) dX7_bestTurnOf_24 ml_X7_78 yv_X7_rightOf (rfl : kd 24 = 7) (by decide) rfl rfl (by decide) rfl (Nat.le_of_ble_eq_true rfl) (fun _ => rfl) (fun r24 M24 => ?_)
      refine r_icmp_le (tgt := 35) F dX7_bestTurnOf_27 (by decide) (fun c3 => ?_) (fun c3 => ?_)
      · refine r_iload_n F 3 dX7_bestTurnOf_35 rfl rfl ?_
        refine r_sub [0, 1, 2, 4] rfl ?_
        exact l_X7_bestTurnOf_36 F (f_X7_bestTurnOf_5  n) (fun q0 q1 q2 q3 M9 => ih q0 q1 q2 q3 M9) y1 y2 y4 y3 M24
      · refine r_iload F 4 dX7_bestTurnOf_30 rfl ?_
        refine r_goto (tgt := 36) F dX7_bestTurnOf_32 (by decide) ?_
        refine r_sub [0, 1, 2, 4] rfl ?_
        exact l_X7_bestTurnOf_36 F (f_X7_bestTurnOf_5  n) (fun q0 q1 q2 q3 M9 => ih q0 q1 q2 q3 M9) y1 y2 y4 y4 M24

def f_X7_bestTurnOf (a1 : Int32) (a2 : Int32) (M : Mem) : Option (Int32 × Mem) := f_X7_bestTurnOf_5  FU a1 a2 (0 : Int32) (1 : Int32) M

set_option maxRecDepth 100000 in
set_option maxHeartbeats 4000000 in
theorem b_X7_bestTurnOf {G : GM} {p : Program} {l : Launch} {e : Env} {s : State} {m : MethodId} {args : Array Value} {below : List Frame} {meth : Method} {c : Code} (F : Fx G p l s m args meth c cX7_bestTurnOf RX7 5 (some .int)) (a1 : Int32) (a2 : Int32) (M : Mem) : Rf G p l e s m args below meth c 8 5 emI (f_X7_bestTurnOf a1 a2 M) 0 [(0, .ref (gA G 24)), (1, .int a1), (2, .int a2)] [] M := by
  unfold f_X7_bestTurnOf
  refine r_iconst F dX7_bestTurnOf_0 (v := 0) (by decide) ?_
  refine r_istore_n (ls' := [(3, .int (0 : Int32)), (0, .ref (gA G 24)), (1, .int a1), (2, .int a2)]) F dX7_bestTurnOf_1 rfl (by decide) rfl ?_
  refine r_iconst F dX7_bestTurnOf_2 (v := 1) (by decide) ?_
  refine r_istore (ls' := [(4, .int (1 : Int32)), (3, .int (0 : Int32)), (0, .ref (gA G 24)), (1, .int a1), (2, .int a2)]) F dX7_bestTurnOf_3 (by decide) rfl ?_
  refine r_sub [2, 3, 4, 1, 0] rfl ?_
  exact l_X7_bestTurnOf_5 F   FU a1 a2 (0 : Int32) (1 : Int32) M

set_option maxRecDepth 100000 in
set_option maxHeartbeats 4000000 in
theorem c_X7_bestTurnOf {l : Launch} {G : GM} (hl : l.stackTraces = false) (hG : GG G) (a1 : Int32) (a2 : Int32) (M : Mem) : ∀ r, f_X7_bestTurnOf a1 a2 M = some r → Ctr l G yX7_bestTurnOf (.code yX7_bestTurnOf cX7_bestTurnOf 5 (some .int) :: wsA) 8 [.ref (gA G 24), .int a1, .int a2] M (emI r) :=
  ctr_of (by decide) hl hG (Nat.le_of_ble_eq_true rfl) (fun p e s m args below meth c F => b_X7_bestTurnOf F a1 a2 M)

-- ===== X7_dullIn DrumTownsModel.dullIn(II)I =====
theorem yv_X7_dullIn : yV yX7_dullIn cX7_dullIn 5 (some .int) 2 := ⟨im_X7_dullIn, sl_X7_dullIn, ini_X7, cd_X7_dullIn, ⟨by decide, by decide, by decide +kernel⟩, by decide⟩

def f_X7_dullIn_49 (k5 : Int32 → Int32 → Int32 → Int32 → Mem → Option (Int32 × Mem)) (y1 : Int32) (y2 : Int32) (y4 : Int32) (z0 : Int32) (z1 : Int32) (M : Mem) : Option (Int32 × Mem) := bnd (z0 + z1) fun x50 => bnd (y4 + (1 : Int32)) fun x51 => k5 y1 y2 x50 x51 M

set_option maxRecDepth 100000 in
set_option maxHeartbeats 4000000 in
theorem l_X7_dullIn_49 {G : GM} {p : Program} {l : Launch} {e : Env} {s : State} {m : MethodId} {args : Array Value} {below : List Frame} {meth : Method} {c : Code} (F : Fx G p l s m args meth c cX7_dullIn RX7 5 (some .int)) (k5 : Int32 → Int32 → Int32 → Int32 → Mem → Option (Int32 × Mem)) (H5 : ∀ (y1 : Int32) (y2 : Int32) (y3 : Int32) (y4 : Int32) (M : Mem), Rf G p l e s m args below meth c 6 5 emI (k5 y1 y2 y3 y4 M) 5 [(0, .ref (gA G 24)), (1, .int y1), (2, .int y2), (3, .int y3), (4, .int y4)] [] M) (y1 : Int32) (y2 : Int32) (y4 : Int32) (z0 : Int32) (z1 : Int32) (M : Mem) : Rf G p l e s m args below meth c 6 5 emI (f_X7_dullIn_49 k5 y1 y2 y4 z0 z1 M) 49 [(0, .ref (gA G 24)), (1, .int y1), (2, .int y2), (4, .int y4)] [.int z1, .int z0] M := by
  unfold f_X7_dullIn_49
  refine r_iadd F dX7_dullIn_49 ?_
  refine r_bi (fun x50 => ?_)
  refine r_istore_n (ls' := [(3, .int x50), (0, .ref (gA G 24)), (1, .int y1), (2, .int y2), (4, .int y4)]) F dX7_dullIn_50 rfl (by decide) rfl ?_
  refine r_iinc (ls' := fun q9 => [(4, .int q9), (3, .int x50), (0, .ref (gA G 24)), (1, .int y1), (2, .int y2)]) (k := 4) (v := y4 + (1 : Int32)) F dX7_dullIn_51 rfl rfl (by decide) (fun _ => rfl) (fun x51 => ?_)
  refine r_goto (tgt := 5) F dX7_dullIn_54 (by decide) ?_
  refine r_sub [2, 3, 4, 1, 0] rfl ?_
  exact H5 y1 y2 x50 x51 M

def f_X7_dullIn_5 : Nat → Int32 → Int32 → Int32 → Int32 → Mem → Option (Int32 × Mem)
  | 0, _, _, _, _, _ => none
  | n + 1, y1, y2, y3, y4, M => if (12 : Int32) ≤ y4 then (some (y3, M)) else (chk (inb (((y1 + (294 : Int32)) + ((12 : Int32) * y2)) + y4) 3424) <| chk (inb (y1 + (421 : Int32)) 3424) <| if (M.1 25 (((y1 + (294 : Int32)) + ((12 : Int32) * y2)) + y4).toNatClampNeg) < (M.1 25 (y1 + (421 : Int32)).toNatClampNeg) then (f_X7_dullIn_49 (f_X7_dullIn_5  n) y1 y2 y4 y3 (0 : Int32) M) else (f_X7_dullIn_49 (f_X7_dullIn_5  n) y1 y2 y4 y3 (1 : Int32) M))

set_option maxRecDepth 100000 in
set_option maxHeartbeats 4000000 in
theorem l_X7_dullIn_5 {G : GM} {p : Program} {l : Launch} {e : Env} {s : State} {m : MethodId} {args : Array Value} {below : List Frame} {meth : Method} {c : Code} (F : Fx G p l s m args meth c cX7_dullIn RX7 5 (some .int)) : ∀ (n : Nat) (y1 : Int32) (y2 : Int32) (y3 : Int32) (y4 : Int32) (M : Mem), Rf G p l e s m args below meth c 6 5 emI (f_X7_dullIn_5  n y1 y2 y3 y4 M) 5 [(0, .ref (gA G 24)), (1, .int y1), (2, .int y2), (3, .int y3), (4, .int y4)] [] M := by
  intro n
  induction n with
  | zero => intros; exact r_none
  | succ n ih =>
    intro y1 y2 y3 y4 M
    rw [f_X7_dullIn_5]
    refine r_iload F 4 dX7_dullIn_5 rfl ?_
    refine r_bipush F dX7_dullIn_7 (v := 12) (by decide) ?_
    refine r_icmp_ge (tgt := 57) F dX7_dullIn_9 (by decide) (fun c1 => ?_) (fun c1 => ?_)
    · refine r_iload_n F 3 dX7_dullIn_57 rfl rfl ?_
      exact r_iret F rfl dX7_dullIn_58 rfl
    · refine r_iload_n F 3 dX7_dullIn_12 rfl rfl ?_
      refine r_aload_n F 0 dX7_dullIn_13 rfl rfl ?_
      refine gf_X7_7 F dX7_dullIn_14 (rfl : kd 24 = 7) ?_
      refine r_iload_n F 1 dX7_dullIn_17 rfl rfl ?_
      refine r_sipush F dX7_dullIn_18 (v := 294) (by decide) ?_
      refine r_iadd F dX7_dullIn_21 ?_
      refine r_bipush F dX7_dullIn_22 (v := 12) (by decide) ?_
      refine r_iload_n F 2 dX7_dullIn_24 rfl rfl ?_
      refine r_imul F dX7_dullIn_25 ?_
      refine r_iadd F dX7_dullIn_26 ?_
      refine r_iload F 4 dX7_dullIn_27 rfl ?_
      refine r_iadd F dX7_dullIn_29 ?_
      refine r_chk (fun h2 => ?_)
      refine r_iald F dX7_dullIn_30 (rfl : kd 25 = 8) (rfl : al 25 = 3424) h2 ?_
      refine r_aload_n F 0 dX7_dullIn_31 rfl rfl ?_
      refine gf_X7_7 F dX7_dullIn_32 (rfl : kd 24 = 7) ?_
      refine r_iload_n F 1 dX7_dullIn_35 rfl rfl ?_
      refine r_sipush F dX7_dullIn_36 (v := 421) (by decide) ?_
      refine r_iadd F dX7_dullIn_39 ?_
      refine r_chk (fun h3 => ?_)
      refine r_iald F dX7_dullIn_40 (rfl : kd 25 = 8) (rfl : al 25 = 3424) h3 ?_
      refine r_icmp_lt (tgt := 48) F dX7_dullIn_41 (by decide) (fun c4 => ?_) (fun c4 => ?_)
      · refine r_iconst F dX7_dullIn_48 (v := 0) (by decide) ?_
        refine r_sub [0, 1, 2, 4] rfl ?_
        exact l_X7_dullIn_49 F (f_X7_dullIn_5  n) (fun q0 q1 q2 q3 M9 => ih q0 q1 q2 q3 M9) y1 y2 y4 y3 (0 : Int32) M
      · refine r_iconst F dX7_dullIn_44 (v := 1) (by decide) ?_
        refine r_goto (tgt := 49) F dX7_dullIn_45 (by decide) ?_
        refine r_sub [0, 1, 2, 4] rfl ?_
        exact l_X7_dullIn_49 F (f_X7_dullIn_5  n) (fun q0 q1 q2 q3 M9 => ih q0 q1 q2 q3 M9) y1 y2 y4 y3 (1 : Int32) M

def f_X7_dullIn (a1 : Int32) (a2 : Int32) (M : Mem) : Option (Int32 × Mem) := f_X7_dullIn_5  FU a1 a2 (0 : Int32) (0 : Int32) M

set_option maxRecDepth 100000 in
set_option maxHeartbeats 4000000 in
theorem b_X7_dullIn {G : GM} {p : Program} {l : Launch} {e : Env} {s : State} {m : MethodId} {args : Array Value} {below : List Frame} {meth : Method} {c : Code} (F : Fx G p l s m args meth c cX7_dullIn RX7 5 (some .int)) (a1 : Int32) (a2 : Int32) (M : Mem) : Rf G p l e s m args below meth c 6 5 emI (f_X7_dullIn a1 a2 M) 0 [(0, .ref (gA G 24)), (1, .int a1), (2, .int a2)] [] M := by
  unfold f_X7_dullIn
  refine r_iconst F dX7_dullIn_0 (v := 0) (by decide) ?_
  refine r_istore_n (ls' := [(3, .int (0 : Int32)), (0, .ref (gA G 24)), (1, .int a1), (2, .int a2)]) F dX7_dullIn_1 rfl (by decide) rfl ?_
  refine r_iconst F dX7_dullIn_2 (v := 0) (by decide) ?_
  refine r_istore (ls' := [(4, .int (0 : Int32)), (3, .int (0 : Int32)), (0, .ref (gA G 24)), (1, .int a1), (2, .int a2)]) F dX7_dullIn_3 (by decide) rfl ?_
  refine r_sub [2, 3, 4, 1, 0] rfl ?_
  exact l_X7_dullIn_5 F   FU a1 a2 (0 : Int32) (0 : Int32) M

set_option maxRecDepth 100000 in
set_option maxHeartbeats 4000000 in
theorem c_X7_dullIn {l : Launch} {G : GM} (hl : l.stackTraces = false) (hG : GG G) (a1 : Int32) (a2 : Int32) (M : Mem) : ∀ r, f_X7_dullIn a1 a2 M = some r → Ctr l G yX7_dullIn (.code yX7_dullIn cX7_dullIn 5 (some .int) :: wsA) 6 [.ref (gA G 24), .int a1, .int a2] M (emI r) :=
  ctr_of (by decide) hl hG (Nat.le_of_ble_eq_true rfl) (fun p e s m args below meth c F => b_X7_dullIn F a1 a2 M)

-- ===== X7_has DrumTownsModel.has(II)Z =====
theorem ys_X7_has : yS yX7_has cX7_has 2 (some .boolean) 2 := ⟨sc_X7_has, ini_X7, cd_X7_has, ⟨by decide, by decide, by decide +kernel⟩, by decide⟩

def f_X7_has_14 (z0 : Int32) (M : Mem) : Option (Int32 × Mem) := chk (isb z0) <| some (z0, M)

set_option maxRecDepth 100000 in
set_option maxHeartbeats 4000000 in
theorem l_X7_has_14 {G : GM} {p : Program} {l : Launch} {e : Env} {s : State} {m : MethodId} {args : Array Value} {below : List Frame} {meth : Method} {c : Code} (F : Fx G p l s m args meth c cX7_has RX7 2 (some .boolean)) (z0 : Int32) (M : Mem) : Rf G p l e s m args below meth c 6 2 emI (f_X7_has_14  z0 M) 14 [] [.int z0] M := by
  unfold f_X7_has_14
  refine r_chk (fun h1 => ?_)
  exact r_zret F rfl dX7_has_14 rfl (isb_or h1)

def f_X7_has (a0 : Int32) (a1 : Int32) (M : Mem) : Option (Int32 × Mem) := if ((a0 >>> (a1 &&& 31)) &&& (1 : Int32)) = (1 : Int32) then (f_X7_has_14  (1 : Int32) M) else (f_X7_has_14  (0 : Int32) M)

set_option maxRecDepth 100000 in
set_option maxHeartbeats 4000000 in
theorem b_X7_has {G : GM} {p : Program} {l : Launch} {e : Env} {s : State} {m : MethodId} {args : Array Value} {below : List Frame} {meth : Method} {c : Code} (F : Fx G p l s m args meth c cX7_has RX7 2 (some .boolean)) (a0 : Int32) (a1 : Int32) (M : Mem) : Rf G p l e s m args below meth c 6 2 emI (f_X7_has a0 a1 M) 0 [(0, .int a0), (1, .int a1)] [] M := by
  unfold f_X7_has
  refine r_iload_n F 0 dX7_has_0 rfl rfl ?_
  refine r_iload_n F 1 dX7_has_1 rfl rfl ?_
  refine r_ishr F dX7_has_2 ?_
  refine r_iconst F dX7_has_3 (v := 1) (by decide) ?_
  refine r_iand F dX7_has_4 ?_
  refine r_iconst F dX7_has_5 (v := 1) (by decide) ?_
  refine r_icmp_ne (tgt := 13) F dX7_has_6 (by decide) (fun c1 => ?_) (fun c1 => ?_)
  · refine r_iconst F dX7_has_9 (v := 1) (by decide) ?_
    refine r_goto (tgt := 14) F dX7_has_10 (by decide) ?_
    refine r_sub [] rfl ?_
    exact l_X7_has_14 F   (1 : Int32) M
  · refine r_iconst F dX7_has_13 (v := 0) (by decide) ?_
    refine r_sub [] rfl ?_
    exact l_X7_has_14 F   (0 : Int32) M

set_option maxRecDepth 100000 in
set_option maxHeartbeats 4000000 in
theorem c_X7_has {l : Launch} {G : GM} (hl : l.stackTraces = false) (hG : GG G) (a0 : Int32) (a1 : Int32) (M : Mem) : ∀ r, f_X7_has a0 a1 M = some r → Ctr l G yX7_has (.code yX7_has cX7_has 2 (some .boolean) :: wsA) 6 [.int a0, .int a1] M (emI r) :=
  ctr_of (by decide) hl hG (Nat.le_of_ble_eq_true rfl) (fun p e s m args below meth c F => b_X7_has F a0 a1 M)

