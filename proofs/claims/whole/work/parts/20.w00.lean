/-- fuel enough for any loop here -/
def FU : Nat := 100000
theorem sc_min : Cond.static Lib.Math.min.name ∈ wsA := sc_J9_min_7cf53
theorem cd_min : Cond.code Lib.Math.min.name Lib.Math.min.code 2 (some .int) ∈ wsA := cd_J9_min_7cf53
-- ===== J6_bitCount_0f7a4 java/lang/Integer.bitCount(I)I =====
theorem ys_J6_bitCount_0f7a4 : yS yJ6_bitCount_0f7a4 cJ6_bitCount_0f7a4 1 (some .int) 1 := ⟨sc_J6_bitCount_0f7a4, ini_J6, cd_J6_bitCount_0f7a4, ⟨by decide, by decide, by decide +kernel⟩, by decide⟩

def f_J6_bitCount_0f7a4 (a0 : Int32) (M : Mem) : Option (Int32 × Mem) := bnd (a0 - (((a0.toUInt32 >>> ((1 : Int32).toUInt32 &&& Int32.toUInt32 31)).toInt32) &&& (1431655765 : Int32))) fun x9 => bnd ((x9 &&& (858993459 : Int32)) + (((x9.toUInt32 >>> ((2 : Int32).toUInt32 &&& Int32.toUInt32 31)).toInt32) &&& (858993459 : Int32))) fun x23 => bnd ((x23 + ((x23.toUInt32 >>> ((4 : Int32).toUInt32 &&& Int32.toUInt32 31)).toInt32)) &&& (252645135 : Int32)) fun x33 => bnd (x33 + ((x33.toUInt32 >>> ((8 : Int32).toUInt32 &&& Int32.toUInt32 31)).toInt32)) fun x40 => bnd (x40 + ((x40.toUInt32 >>> ((16 : Int32).toUInt32 &&& Int32.toUInt32 31)).toInt32)) fun x47 => some ((x47 &&& (63 : Int32)), M)

set_option maxRecDepth 100000 in
set_option maxHeartbeats 4000000 in
theorem b_J6_bitCount_0f7a4 {G : GM} {p : Program} {l : Launch} {e : Env} {s : State} {m : MethodId} {args : Array Value} {below : List Frame} {meth : Method} {c : Code} (F : Fx G p l s m args meth c cJ6_bitCount_0f7a4 RJ6 1 (some .int)) (a0 : Int32) (M : Mem) : Rf G p l e s m args below meth c 6 1 emI (f_J6_bitCount_0f7a4 a0 M) 0 [(0, .int a0)] [] M := by
  unfold f_J6_bitCount_0f7a4
  refine r_iload_n F 0 dJ6_bitCount_0f7a4_0 rfl rfl ?_
  refine r_iload_n F 0 dJ6_bitCount_0f7a4_1 rfl rfl ?_
  refine r_iconst F dJ6_bitCount_0f7a4_2 (v := 1) (by decide) ?_
  refine r_iushr F dJ6_bitCount_0f7a4_3 ?_
  refine r_ldcw F dJ6_bitCount_0f7a4_4 kc_J6_265 ?_
  refine r_iand F dJ6_bitCount_0f7a4_7 ?_
  refine r_isub F dJ6_bitCount_0f7a4_8 ?_
  refine r_bi (fun x9 => ?_)
  refine r_istore_n (ls' := [(0, .int x9)]) F dJ6_bitCount_0f7a4_9 rfl (by decide) rfl ?_
  refine r_iload_n F 0 dJ6_bitCount_0f7a4_10 rfl rfl ?_
  refine r_ldcw F dJ6_bitCount_0f7a4_11 kc_J6_266 ?_
  refine r_iand F dJ6_bitCount_0f7a4_14 ?_
  refine r_iload_n F 0 dJ6_bitCount_0f7a4_15 rfl rfl ?_
  refine r_iconst F dJ6_bitCount_0f7a4_16 (v := 2) (by decide) ?_
  refine r_iushr F dJ6_bitCount_0f7a4_17 ?_
  refine r_ldcw F dJ6_bitCount_0f7a4_18 kc_J6_266 ?_
  refine r_iand F dJ6_bitCount_0f7a4_21 ?_
  refine r_iadd F dJ6_bitCount_0f7a4_22 ?_
  refine r_bi (fun x23 => ?_)
  refine r_istore_n (ls' := [(0, .int x23)]) F dJ6_bitCount_0f7a4_23 rfl (by decide) rfl ?_
  refine r_iload_n F 0 dJ6_bitCount_0f7a4_24 rfl rfl ?_
  refine r_iload_n F 0 dJ6_bitCount_0f7a4_25 rfl rfl ?_
  refine r_iconst F dJ6_bitCount_0f7a4_26 (v := 4) (by decide) ?_
  refine r_iushr F dJ6_bitCount_0f7a4_27 ?_
  refine r_iadd F dJ6_bitCount_0f7a4_28 ?_
  refine r_ldcw F dJ6_bitCount_0f7a4_29 kc_J6_267 ?_
  refine r_iand F dJ6_bitCount_0f7a4_32 ?_
  refine r_bi (fun x33 => ?_)
  refine r_istore_n (ls' := [(0, .int x33)]) F dJ6_bitCount_0f7a4_33 rfl (by decide) rfl ?_
  refine r_iload_n F 0 dJ6_bitCount_0f7a4_34 rfl rfl ?_
  refine r_iload_n F 0 dJ6_bitCount_0f7a4_35 rfl rfl ?_
  refine r_bipush F dJ6_bitCount_0f7a4_36 (v := 8) (by decide) ?_
  refine r_iushr F dJ6_bitCount_0f7a4_38 ?_
  refine r_iadd F dJ6_bitCount_0f7a4_39 ?_
  refine r_bi (fun x40 => ?_)
  refine r_istore_n (ls' := [(0, .int x40)]) F dJ6_bitCount_0f7a4_40 rfl (by decide) rfl ?_
  refine r_iload_n F 0 dJ6_bitCount_0f7a4_41 rfl rfl ?_
  refine r_iload_n F 0 dJ6_bitCount_0f7a4_42 rfl rfl ?_
  refine r_bipush F dJ6_bitCount_0f7a4_43 (v := 16) (by decide) ?_
  refine r_iushr F dJ6_bitCount_0f7a4_45 ?_
  refine r_iadd F dJ6_bitCount_0f7a4_46 ?_
  refine r_bi (fun x47 => ?_)
  refine r_istore_n (ls' := [(0, .int x47)]) F dJ6_bitCount_0f7a4_47 rfl (by decide) rfl ?_
  refine r_iload_n F 0 dJ6_bitCount_0f7a4_48 rfl rfl ?_
  refine r_bipush F dJ6_bitCount_0f7a4_49 (v := 63) (by decide) ?_
  refine r_iand F dJ6_bitCount_0f7a4_51 ?_
  exact r_iret F rfl dJ6_bitCount_0f7a4_52 rfl

set_option maxRecDepth 100000 in
set_option maxHeartbeats 4000000 in
theorem c_J6_bitCount_0f7a4 {l : Launch} {G : GM} (hl : l.stackTraces = false) (hG : GG G) (a0 : Int32) (M : Mem) : ∀ r, f_J6_bitCount_0f7a4 a0 M = some r → Ctr l G yJ6_bitCount_0f7a4 (.code yJ6_bitCount_0f7a4 cJ6_bitCount_0f7a4 1 (some .int) :: wsA) 6 [.int a0] M (emI r) :=
  ctr_of (by decide) hl hG (Nat.le_of_ble_eq_true rfl) (fun p e s m args below meth c F => b_J6_bitCount_0f7a4 F a0 M)

-- ===== Jxe99ae_isNaN_b9ae7 java/lang/Double.isNaN(D)Z =====
theorem ys_Jxe99ae_isNaN_b9ae7 : yS yJxe99ae_isNaN_b9ae7 cJxe99ae_isNaN_b9ae7 2 (some .boolean) 1 := ⟨sc_Jxe99ae_isNaN_b9ae7, ini_Jxe99ae, cd_Jxe99ae_isNaN_b9ae7, ⟨by decide, by decide, by decide +kernel⟩, by decide⟩

def f_Jxe99ae_isNaN_b9ae7_11 (z0 : Int32) (M : Mem) : Option (Int32 × Mem) := chk (isb z0) <| some (z0, M)

set_option maxRecDepth 100000 in
set_option maxHeartbeats 4000000 in
theorem l_Jxe99ae_isNaN_b9ae7_11 {G : GM} {p : Program} {l : Launch} {e : Env} {s : State} {m : MethodId} {args : Array Value} {below : List Frame} {meth : Method} {c : Code} (F : Fx G p l s m args meth c cJxe99ae_isNaN_b9ae7 RJxe99ae 2 (some .boolean)) (z0 : Int32) (M : Mem) : Rf G p l e s m args below meth c 6 2 emI (f_Jxe99ae_isNaN_b9ae7_11  z0 M) 11 [] [.int z0] M := by
  unfold f_Jxe99ae_isNaN_b9ae7_11
  refine r_chk (fun h1 => ?_)
  exact r_zret F rfl dJxe99ae_isNaN_b9ae7_11 rfl (isb_or h1)

def f_Jxe99ae_isNaN_b9ae7 (a0 : UInt64) (M : Mem) : Option (Int32 × Mem) := if (Op.cmpValue (FP.dcmp a0 a0) .l) = 0 then (f_Jxe99ae_isNaN_b9ae7_11  (0 : Int32) M) else (f_Jxe99ae_isNaN_b9ae7_11  (1 : Int32) M)

set_option maxRecDepth 100000 in
set_option maxHeartbeats 4000000 in
theorem b_Jxe99ae_isNaN_b9ae7 {G : GM} {p : Program} {l : Launch} {e : Env} {s : State} {m : MethodId} {args : Array Value} {below : List Frame} {meth : Method} {c : Code} (F : Fx G p l s m args meth c cJxe99ae_isNaN_b9ae7 RJxe99ae 2 (some .boolean)) (a0 : UInt64) (M : Mem) : Rf G p l e s m args below meth c 6 2 emI (f_Jxe99ae_isNaN_b9ae7 a0 M) 0 [(0, .double a0)] [] M := by
  unfold f_Jxe99ae_isNaN_b9ae7
  refine r_dload_n F 0 dJxe99ae_isNaN_b9ae7_0 rfl rfl ?_
  refine r_dload_n F 0 dJxe99ae_isNaN_b9ae7_1 rfl rfl ?_
  refine r_dcmp F dJxe99ae_isNaN_b9ae7_2 ?_
  refine r_if_eq (tgt := 10) F dJxe99ae_isNaN_b9ae7_3 (by decide) (fun c1 => ?_) (fun c1 => ?_)
  · refine r_iconst F dJxe99ae_isNaN_b9ae7_10 (v := 0) (by decide) ?_
    refine r_sub [] rfl ?_
    exact l_Jxe99ae_isNaN_b9ae7_11 F   (0 : Int32) M
  · refine r_iconst F dJxe99ae_isNaN_b9ae7_6 (v := 1) (by decide) ?_
    refine r_goto (tgt := 11) F dJxe99ae_isNaN_b9ae7_7 (by decide) ?_
    refine r_sub [] rfl ?_
    exact l_Jxe99ae_isNaN_b9ae7_11 F   (1 : Int32) M

set_option maxRecDepth 100000 in
set_option maxHeartbeats 4000000 in
theorem c_Jxe99ae_isNaN_b9ae7 {l : Launch} {G : GM} (hl : l.stackTraces = false) (hG : GG G) (a0 : UInt64) (M : Mem) : ∀ r, f_Jxe99ae_isNaN_b9ae7 a0 M = some r → Ctr l G yJxe99ae_isNaN_b9ae7 (.code yJxe99ae_isNaN_b9ae7 cJxe99ae_isNaN_b9ae7 2 (some .boolean) :: wsA) 6 [.double a0] M (emI r) :=
  ctr_of (by decide) hl hG (Nat.le_of_ble_eq_true rfl) (fun p e s m args below meth c F => b_Jxe99ae_isNaN_b9ae7 F a0 M)

-- ===== Jxe99ae_doubleToLongBits_ccdee java/lang/Double.doubleToLongBits(D)J =====
theorem ys_Jxe99ae_doubleToLongBits_ccdee : yS yJxe99ae_doubleToLongBits_ccdee cJxe99ae_doubleToLongBits_ccdee 2 (some .long) 1 := ⟨sc_Jxe99ae_doubleToLongBits_ccdee, ini_Jxe99ae, cd_Jxe99ae_doubleToLongBits_ccdee, ⟨by decide, by decide, by decide +kernel⟩, by decide⟩

def f_Jxe99ae_doubleToLongBits_ccdee (a0 : UInt64) (M : Mem) : Option (Int64 × Mem) := bn (f_Jxe99ae_isNaN_b9ae7 a0 M) fun r1 M1 => if r1 = 0 then (some ((a0).toInt64, M1)) else (some ((9221120237041090560 : Int64), M1))

set_option maxRecDepth 100000 in
set_option maxHeartbeats 4000000 in
theorem b_Jxe99ae_doubleToLongBits_ccdee {G : GM} {p : Program} {l : Launch} {e : Env} {s : State} {m : MethodId} {args : Array Value} {below : List Frame} {meth : Method} {c : Code} (F : Fx G p l s m args meth c cJxe99ae_doubleToLongBits_ccdee RJxe99ae 2 (some .long)) (a0 : UInt64) (M : Mem) : Rf G p l e s m args below meth c 7 2 emL (f_Jxe99ae_doubleToLongBits_ccdee a0 M) 0 [(0, .double a0)] [] M := by
  unfold f_Jxe99ae_doubleToLongBits_ccdee
  refine r_dload_n F 0 dJxe99ae_doubleToLongBits_ccdee_0 rfl rfl ?_
  refine r_cS (val := vI) (As := [.double a0]) (rest := []) (fun q9 => .int q9 :: []) F (c_Jxe99ae_isNaN_b9ae7 F.st F.gg a0 M) (fun _ _ => rfl) dJxe99ae_doubleToLongBits_ccdee_1 ml_Jxe99ae_122 ys_Jxe99ae_isNaN_b9ae7 rfl (by decide) rfl (Nat.le_of_ble_eq_true rfl) (fun _ => rfl) (fun r1 M1 => ?_)
  refine r_if_ne (tgt := 12) F dJxe99ae_doubleToLongBits_ccdee_4 (by decide) (fun c1 => ?_) (fun c1 => ?_)
  · refine r_dload_n F 0 dJxe99ae_doubleToLongBits_ccdee_7 rfl rfl ?_
    refine r_raw F dJxe99ae_doubleToLongBits_ccdee_8 ml_Jxe99ae_134 (by decide) (Nat.le_of_ble_eq_true rfl) ?_
    exact r_lret F rfl dJxe99ae_doubleToLongBits_ccdee_11 rfl
  · refine r_ldc2 F dJxe99ae_doubleToLongBits_ccdee_12 kc_Jxe99ae_137 ?_
    exact r_lret F rfl dJxe99ae_doubleToLongBits_ccdee_15 rfl

set_option maxRecDepth 100000 in
set_option maxHeartbeats 4000000 in
theorem c_Jxe99ae_doubleToLongBits_ccdee {l : Launch} {G : GM} (hl : l.stackTraces = false) (hG : GG G) (a0 : UInt64) (M : Mem) : ∀ r, f_Jxe99ae_doubleToLongBits_ccdee a0 M = some r → Ctr l G yJxe99ae_doubleToLongBits_ccdee (.code yJxe99ae_doubleToLongBits_ccdee cJxe99ae_doubleToLongBits_ccdee 2 (some .long) :: wsA) 7 [.double a0] M (emL r) :=
  ctr_of (by decide) hl hG (Nat.le_of_ble_eq_true rfl) (fun p e s m args below meth c F => b_Jxe99ae_doubleToLongBits_ccdee F a0 M)

-- ===== X0_owedBy DrumTowns$Land.owedBy(I)I =====
theorem yv_X0_owedBy : yV yX0_owedBy cX0_owedBy 4 (some .int) 1 := ⟨im_X0_owedBy, sl_X0_owedBy, ini_X0, cd_X0_owedBy, ⟨by decide, by decide, by decide +kernel⟩, by decide⟩

def f_X0_owedBy_4 : Nat → Nat → Int32 → Int32 → Int32 → Mem → Option (Int32 × Mem)
  | 0, _, _, _, _, _ => none
  | n + 1, y0, y1, y2, y3, M => chk (kb y0 1) <| if (M.1 y0 1) ≤ y3 then (some (y2, M)) else (chk (inb y1 6) <| bnd (rw' (y0 + 3) y1) fun b18 => chk (inb y3 6) <| bnd (y2 + (M.1 b18 y3.toNatClampNeg)) fun x22 => bnd (y3 + (1 : Int32)) fun x23 => f_X0_owedBy_4  n y0 y1 x22 x23 M)

set_option maxRecDepth 100000 in
set_option maxHeartbeats 4000000 in
theorem l_X0_owedBy_4 {G : GM} {p : Program} {l : Launch} {e : Env} {s : State} {m : MethodId} {args : Array Value} {below : List Frame} {meth : Method} {c : Code} (F : Fx G p l s m args meth c cX0_owedBy RX0 4 (some .int)) : ∀ (n : Nat) (y0 : Nat) (y1 : Int32) (y2 : Int32) (y3 : Int32) (M : Mem), Rf G p l e s m args below meth c 6 4 emI (f_X0_owedBy_4  n y0 y1 y2 y3 M) 4 [(0, .ref (gA G y0)), (1, .int y1), (2, .int y2), (3, .int y3)] [] M := by
  intro n
  induction n with
  | zero => intros; exact r_none
  | succ n ih =>
    intro y0 y1 y2 y3 M
    rw [f_X0_owedBy_4]
    refine r_iload_n F 3 dX0_owedBy_4 rfl rfl ?_
    refine r_aload_n F 0 dX0_owedBy_5 rfl rfl ?_
    refine r_chk (fun h1 => ?_)
    refine gf_X0_38 F dX0_owedBy_6 (kb_k h1) ?_
    refine r_icmp_ge (tgt := 29) F dX0_owedBy_9 (by decide) (fun c2 => ?_) (fun c2 => ?_)
    · refine r_iload_n F 2 dX0_owedBy_29 rfl rfl ?_
      exact r_iret F rfl dX0_owedBy_30 rfl
    · refine r_iload_n F 2 dX0_owedBy_12 rfl rfl ?_
      refine r_aload_n F 0 dX0_owedBy_13 rfl rfl ?_
      refine gf_X0_23 F dX0_owedBy_14 (kb_k h1) ?_
      refine r_iload_n F 1 dX0_owedBy_17 rfl rfl ?_
      refine r_chk (fun h3 => ?_)
      refine r_aaldR F dX0_owedBy_18 (kLd (kb_k h1)) h3 ?_
      refine r_bra (kRw (kLd (kb_k h1)) h3) (aRw (kLd (kb_k h1)) h3) (fun b18 k18 k18a => ?_)
      refine r_iload_n F 3 dX0_owedBy_19 rfl rfl ?_
      refine r_chk (fun h4 => ?_)
      refine r_iald F dX0_owedBy_20 k18 k18a h4 ?_
      refine r_iadd F dX0_owedBy_21 ?_
      refine r_bi (fun x22 => ?_)
      refine r_istore_n (ls' := [(2, .int x22), (0, .ref (gA G y0)), (1, .int y1), (3, .int y3)]) F dX0_owedBy_22 rfl (by decide) rfl ?_
      refine r_iinc (ls' := fun q9 => [(3, .int q9), (2, .int x22), (0, .ref (gA G y0)), (1, .int y1)]) (k := 3) (v := y3 + (1 : Int32)) F dX0_owedBy_23 rfl rfl (by decide) (fun _ => rfl) (fun x23 => ?_)
      refine r_goto (tgt := 4) F dX0_owedBy_26 (by decide) ?_
      refine r_sub [2, 3, 1, 0] rfl ?_
      exact ih y0 y1 x22 x23 M

def f_X0_owedBy (a0 : Nat) (a1 : Int32) (M : Mem) : Option (Int32 × Mem) := f_X0_owedBy_4  FU a0 a1 (0 : Int32) (0 : Int32) M

set_option maxRecDepth 100000 in
set_option maxHeartbeats 4000000 in
theorem b_X0_owedBy {G : GM} {p : Program} {l : Launch} {e : Env} {s : State} {m : MethodId} {args : Array Value} {below : List Frame} {meth : Method} {c : Code} (F : Fx G p l s m args meth c cX0_owedBy RX0 4 (some .int)) (a0 : Nat) (a1 : Int32) (M : Mem) : Rf G p l e s m args below meth c 6 4 emI (f_X0_owedBy a0 a1 M) 0 [(0, .ref (gA G a0)), (1, .int a1)] [] M := by
  unfold f_X0_owedBy
  refine r_iconst F dX0_owedBy_0 (v := 0) (by decide) ?_
  refine r_istore_n (ls' := [(2, .int (0 : Int32)), (0, .ref (gA G a0)), (1, .int a1)]) F dX0_owedBy_1 rfl (by decide) rfl ?_
  refine r_iconst F dX0_owedBy_2 (v := 0) (by decide) ?_
  refine r_istore_n (ls' := [(3, .int (0 : Int32)), (2, .int (0 : Int32)), (0, .ref (gA G a0)), (1, .int a1)]) F dX0_owedBy_3 rfl (by decide) rfl ?_
  refine r_sub [2, 3, 1, 0] rfl ?_
  exact l_X0_owedBy_4 F   FU a0 a1 (0 : Int32) (0 : Int32) M

set_option maxRecDepth 100000 in
set_option maxHeartbeats 4000000 in
theorem c_X0_owedBy {l : Launch} {G : GM} (hl : l.stackTraces = false) (hG : GG G) (a0 : Nat) (a1 : Int32) (M : Mem) : ∀ r, f_X0_owedBy a0 a1 M = some r → Ctr l G yX0_owedBy (.code yX0_owedBy cX0_owedBy 4 (some .int) :: wsA) 6 [.ref (gA G a0), .int a1] M (emI r) :=
  ctr_of (by decide) hl hG (Nat.le_of_ble_eq_true rfl) (fun p e s m args below meth c F => b_X0_owedBy F a0 a1 M)

-- ===== X0_allDebts DrumTowns$Land.allDebts()I =====
theorem yv_X0_allDebts : yV yX0_allDebts cX0_allDebts 3 (some .int) 0 := ⟨im_X0_allDebts, sl_X0_allDebts, ini_X0, cd_X0_allDebts, ⟨by decide, by decide, by decide +kernel⟩, by decide⟩

def f_X0_allDebts_4 : Nat → Nat → Int32 → Int32 → Mem → Option (Int32 × Mem)
  | 0, _, _, _, _ => none
  | n + 1, y0, y1, y2, M => chk (kb y0 1) <| if (M.1 y0 1) ≤ y2 then (some (y1, M)) else (bn (f_X0_owedBy y0 y2 M) fun r15 M15 => bnd (y1 + r15) fun x19 => bnd (y2 + (1 : Int32)) fun x20 => f_X0_allDebts_4  n y0 x19 x20 M15)

set_option maxRecDepth 100000 in
set_option maxHeartbeats 4000000 in
theorem l_X0_allDebts_4 {G : GM} {p : Program} {l : Launch} {e : Env} {s : State} {m : MethodId} {args : Array Value} {below : List Frame} {meth : Method} {c : Code} (F : Fx G p l s m args meth c cX0_allDebts RX0 3 (some .int)) : ∀ (n : Nat) (y0 : Nat) (y1 : Int32) (y2 : Int32) (M : Mem), Rf G p l e s m args below meth c 7 3 emI (f_X0_allDebts_4  n y0 y1 y2 M) 4 [(0, .ref (gA G y0)), (1, .int y1), (2, .int y2)] [] M := by
  intro n
  induction n with
  | zero => intros; exact r_none
  | succ n ih =>
    intro y0 y1 y2 M
    rw [f_X0_allDebts_4]
    refine r_iload_n F 2 dX0_allDebts_4 rfl rfl ?_
    refine r_aload_n F 0 dX0_allDebts_5 rfl rfl ?_
    refine r_chk (fun h1 => ?_)
    refine gf_X0_38 F dX0_allDebts_6 (kb_k h1) ?_
    refine r_icmp_ge (tgt := 26) F dX0_allDebts_9 (by decide) (fun c2 => ?_) (fun c2 => ?_)
    · refine r_iload_n F 1 dX0_allDebts_26 rfl rfl ?_
      exact r_iret F rfl dX0_allDebts_27 rfl
    · refine r_iload_n F 1 dX0_allDebts_12 rfl rfl ?_
      refine r_aload_n F 0 dX0_allDebts_13 rfl rfl ?_
      refine r_iload_n F 2 dX0_allDebts_14 rfl rfl ?_
      refine r_cV (val := vI) (As := [.int y2]) (rest := [.int y1]) (fun q9 => .int q9 :: [.int y1]) F (c_X0_owedBy F.st F.gg y0 y2 M) (fun _ _ => rfl) dX0_allDebts_15 ml_X0_72 yv_X0_owedBy (kb_k h1) (by decide) rfl rfl (by decide) rfl (Nat.le_of_ble_eq_true rfl) (fun _ => rfl) (fun r15 M15 => ?_)
      refine r_iadd F dX0_allDebts_18 ?_
      refine r_bi (fun x19 => ?_)
      refine r_istore_n (ls' := [(1, .int x19), (0, .ref (gA G y0)), (2, .int y2)]) F dX0_allDebts_19 rfl (by decide) rfl ?_
      refine r_iinc (ls' := fun q9 => [(2, .int q9), (1, .int x19), (0, .ref (gA G y0))]) (k := 2) (v := y2 + (1 : Int32)) F dX0_allDebts_20 rfl rfl (by decide) (fun _ => rfl) (fun x20 => ?_)
      refine r_goto (tgt := 4) F dX0_allDebts_23 (by decide) ?_
      refine r_sub [2, 1, 0] rfl ?_
      exact ih y0 x19 x20 M15

def f_X0_allDebts (a0 : Nat) (M : Mem) : Option (Int32 × Mem) := f_X0_allDebts_4  FU a0 (0 : Int32) (0 : Int32) M

set_option maxRecDepth 100000 in
set_option maxHeartbeats 4000000 in
theorem b_X0_allDebts {G : GM} {p : Program} {l : Launch} {e : Env} {s : State} {m : MethodId} {args : Array Value} {below : List Frame} {meth : Method} {c : Code} (F : Fx G p l s m args meth c cX0_allDebts RX0 3 (some .int)) (a0 : Nat) (M : Mem) : Rf G p l e s m args below meth c 7 3 emI (f_X0_allDebts a0 M) 0 [(0, .ref (gA G a0))] [] M := by
  unfold f_X0_allDebts
  refine r_iconst F dX0_allDebts_0 (v := 0) (by decide) ?_
  refine r_istore_n (ls' := [(1, .int (0 : Int32)), (0, .ref (gA G a0))]) F dX0_allDebts_1 rfl (by decide) rfl ?_
  refine r_iconst F dX0_allDebts_2 (v := 0) (by decide) ?_
  refine r_istore_n (ls' := [(2, .int (0 : Int32)), (1, .int (0 : Int32)), (0, .ref (gA G a0))]) F dX0_allDebts_3 rfl (by decide) rfl ?_
  refine r_sub [2, 1, 0] rfl ?_
  exact l_X0_allDebts_4 F   FU a0 (0 : Int32) (0 : Int32) M

set_option maxRecDepth 100000 in
set_option maxHeartbeats 4000000 in
theorem c_X0_allDebts {l : Launch} {G : GM} (hl : l.stackTraces = false) (hG : GG G) (a0 : Nat) (M : Mem) : ∀ r, f_X0_allDebts a0 M = some r → Ctr l G yX0_allDebts (.code yX0_allDebts cX0_allDebts 3 (some .int) :: wsA) 7 [.ref (gA G a0)] M (emI r) :=
  ctr_of (by decide) hl hG (Nat.le_of_ble_eq_true rfl) (fun p e s m args below meth c F => b_X0_allDebts F a0 M)

-- ===== X6_sharedBy DrumTowns.sharedBy([I[I)I =====
theorem ys_X6_sharedBy : yS yX6_sharedBy cX6_sharedBy 4 (some .int) 2 := ⟨sc_X6_sharedBy, ini_X6, cd_X6_sharedBy, ⟨by decide, by decide, by decide +kernel⟩, by decide⟩

def f_X6_sharedBy_4 : Nat → Nat → Nat → Int32 → Int32 → Mem → Option (Int32 × Mem)
  | 0, _, _, _, _, _ => none
  | n + 1, y0, y1, y2, y3, M => if (24 : Int32) ≤ y3 then (some (y2, M)) else (chk (kb y0 8) <| chk (inb y3 (al y0)) <| chk (kb y1 8) <| chk (inb y3 (al y1)) <| bn (f_J6_bitCount_0f7a4 ((M.1 y0 y3.toNatClampNeg) &&& (M.1 y1 y3.toNatClampNeg)) M) fun r18 M18 => bnd (y2 + r18) fun x22 => bnd (y3 + (1 : Int32)) fun x23 => f_X6_sharedBy_4  n y0 y1 x22 x23 M18)

set_option maxRecDepth 100000 in
set_option maxHeartbeats 4000000 in
theorem l_X6_sharedBy_4 {G : GM} {p : Program} {l : Launch} {e : Env} {s : State} {m : MethodId} {args : Array Value} {below : List Frame} {meth : Method} {c : Code} (F : Fx G p l s m args meth c cX6_sharedBy RX6 4 (some .int)) : ∀ (n : Nat) (y0 : Nat) (y1 : Nat) (y2 : Int32) (y3 : Int32) (M : Mem), Rf G p l e s m args below meth c 7 4 emI (f_X6_sharedBy_4  n y0 y1 y2 y3 M) 4 [(0, .ref (gA G y0)), (1, .ref (gA G y1)), (2, .int y2), (3, .int y3)] [] M := by
  intro n
  induction n with
  | zero => intros; exact r_none
  | succ n ih =>
    intro y0 y1 y2 y3 M
    rw [f_X6_sharedBy_4]
    refine r_iload_n F 3 dX6_sharedBy_4 rfl rfl ?_
    refine r_bipush F dX6_sharedBy_5 (v := 24) (by decide) ?_
    refine r_icmp_ge (tgt := 29) F dX6_sharedBy_7 (by decide) (fun c1 => ?_) (fun c1 => ?_)
    · refine r_iload_n F 2 dX6_sharedBy_29 rfl rfl ?_
      exact r_iret F rfl dX6_sharedBy_30 rfl
    · refine r_iload_n F 2 dX6_sharedBy_10 rfl rfl ?_
      refine r_aload_n F 0 dX6_sharedBy_11 rfl rfl ?_
      refine r_iload_n F 3 dX6_sharedBy_12 rfl rfl ?_
      refine r_chk (fun h2 => ?_)
      refine r_chk (fun h3 => ?_)
      refine r_iald F dX6_sharedBy_13 (kb_k h2) rfl h3 ?_
      refine r_aload_n F 1 dX6_sharedBy_14 rfl rfl ?_
      refine r_iload_n F 3 dX6_sharedBy_15 rfl rfl ?_
      refine r_chk (fun h4 => ?_)
      refine r_chk (fun h5 => ?_)
      refine r_iald F dX6_sharedBy_16 (kb_k h4) rfl h5 ?_
      refine r_iand F dX6_sharedBy_17 ?_
      refine r_cS (val := vI) (As := [.int ((M.1 y0 y3.toNatClampNeg) &&& (M.1 y1 y3.toNatClampNeg))]) (rest := [.int y2]) (fun q9 => .int q9 :: [.int y2]) F (c_J6_bitCount_0f7a4 F.st F.gg ((M.1 y0 y3.toNatClampNeg) &&& (M.1 y1 y3.toNatClampNeg)) M) (fun _ _ => rfl) dX6_sharedBy_18 ml_X6_386 ys_J6_bitCount_0f7a4 rfl (by decide) rfl (Nat.le_of_ble_eq_true rfl) (fun _ => rfl) (fun r18 M18 => ?_)
      refine r_iadd F dX6_sharedBy_21 ?_
      refine r_bi (fun x22 => ?_)
      refine r_istore_n (ls' := [(2, .int x22), (0, .ref (gA G y0)), (1, .ref (gA G y1)), (3, .int y3)]) F dX6_sharedBy_22 rfl (by decide) rfl ?_
      refine r_iinc (ls' := fun q9 => [(3, .int q9), (2, .int x22), (0, .ref (gA G y0)), (1, .ref (gA G y1))]) (k := 3) (v := y3 + (1 : Int32)) F dX6_sharedBy_23 rfl rfl (by decide) (fun _ => rfl) (fun x23 => ?_)
      refine r_goto (tgt := 4) F dX6_sharedBy_26 (by decide) ?_
      refine r_sub [2, 3, 1, 0] rfl ?_
      exact ih y0 y1 x22 x23 M18

def f_X6_sharedBy (a0 : Nat) (a1 : Nat) (M : Mem) : Option (Int32 × Mem) := f_X6_sharedBy_4  FU a0 a1 (0 : Int32) (0 : Int32) M

set_option maxRecDepth 100000 in
set_option maxHeartbeats 4000000 in
theorem b_X6_sharedBy {G : GM} {p : Program} {l : Launch} {e : Env} {s : State} {m : MethodId} {args : Array Value} {below : List Frame} {meth : Method} {c : Code} (F : Fx G p l s m args meth c cX6_sharedBy RX6 4 (some .int)) (a0 : Nat) (a1 : Nat) (M : Mem) : Rf G p l e s m args below meth c 7 4 emI (f_X6_sharedBy a0 a1 M) 0 [(0, .ref (gA G a0)), (1, .ref (gA G a1))] [] M := by
  unfold f_X6_sharedBy
  refine r_iconst F dX6_sharedBy_0 (v := 0) (by decide) ?_
  refine r_istore_n (ls' := [(2, .int (0 : Int32)), (0, .ref (gA G a0)), (1, .ref (gA G a1))]) F dX6_sharedBy_1 rfl (by decide) rfl ?_
  refine r_iconst F dX6_sharedBy_2 (v := 0) (by decide) ?_
  refine r_istore_n (ls' := [(3, .int (0 : Int32)), (2, .int (0 : Int32)), (0, .ref (gA G a0)), (1, .ref (gA G a1))]) F dX6_sharedBy_3 rfl (by decide) rfl ?_
  refine r_sub [2, 3, 1, 0] rfl ?_
  exact l_X6_sharedBy_4 F   FU a0 a1 (0 : Int32) (0 : Int32) M

set_option maxRecDepth 100000 in
set_option maxHeartbeats 4000000 in
theorem c_X6_sharedBy {l : Launch} {G : GM} (hl : l.stackTraces = false) (hG : GG G) (a0 : Nat) (a1 : Nat) (M : Mem) : ∀ r, f_X6_sharedBy a0 a1 M = some r → Ctr l G yX6_sharedBy (.code yX6_sharedBy cX6_sharedBy 4 (some .int) :: wsA) 7 [.ref (gA G a0), .ref (gA G a1)] M (emI r) :=
  ctr_of (by decide) hl hG (Nat.le_of_ble_eq_true rfl) (fun p e s m args below meth c F => b_X6_sharedBy F a0 a1 M)

-- ===== X3_rightPins DrumTowns$Town.rightPins()I =====
theorem yv_X3_rightPins : yV yX3_rightPins cX3_rightPins 1 (some .int) 0 := ⟨im_X3_rightPins, sl_X3_rightPins, ini_X3, cd_X3_rightPins, ⟨by decide, by decide, by decide +kernel⟩, by decide⟩

def f_X3_rightPins (a0 : Nat) (M : Mem) : Option (Int32 × Mem) := chk (kb a0 2) <| bn (f_X6_sharedBy (a0 + 1) (a0 + 2) M) fun r8 M8 => some (r8, M8)

set_option maxRecDepth 100000 in
set_option maxHeartbeats 4000000 in
theorem b_X3_rightPins {G : GM} {p : Program} {l : Launch} {e : Env} {s : State} {m : MethodId} {args : Array Value} {below : List Frame} {meth : Method} {c : Code} (F : Fx G p l s m args meth c cX3_rightPins RX3 1 (some .int)) (a0 : Nat) (M : Mem) : Rf G p l e s m args below meth c 8 1 emI (f_X3_rightPins a0 M) 0 [(0, .ref (gA G a0))] [] M := by
  unfold f_X3_rightPins
  refine r_aload_n F 0 dX3_rightPins_0 rfl rfl ?_
  refine r_chk (fun h1 => ?_)
  refine gf_X3_9 F dX3_rightPins_1 (kb_k h1) ?_
  refine r_aload_n F 0 dX3_rightPins_4 rfl rfl ?_
  refine gf_X3_15 F dX3_rightPins_5 (kb_k h1) ?_
  refine r_cSN (val := vI) (As := [.ref (gA G (a0 + 1)), .ref (gA G (a0 + 2))]) (rest := []) (fun q9 => .int q9 :: []) F (c_X6_sharedBy F.st F.gg (a0 + 1) (a0 + 2) M) (fun _ _ => rfl) dX3_rightPins_8 mn_X3_21 ys_X6_sharedBy rfl (by decide) rfl (Nat.le_of_ble_eq_true rfl) (fun _ => rfl) (fun r8 M8 => ?_)
  exact r_iret F rfl dX3_rightPins_11 rfl

set_option maxRecDepth 100000 in
set_option maxHeartbeats 4000000 in
theorem c_X3_rightPins {l : Launch} {G : GM} (hl : l.stackTraces = false) (hG : GG G) (a0 : Nat) (M : Mem) : ∀ r, f_X3_rightPins a0 M = some r → Ctr l G yX3_rightPins (.code yX3_rightPins cX3_rightPins 1 (some .int) :: wsA) 8 [.ref (gA G a0)] M (emI r) :=
  ctr_of (by decide) hl hG (Nat.le_of_ble_eq_true rfl) (fun p e s m args below meth c F => b_X3_rightPins F a0 M)

-- ===== X0_allRightPins DrumTowns$Land.allRightPins()I =====
theorem yv_X0_allRightPins : yV yX0_allRightPins cX0_allRightPins 3 (some .int) 0 := ⟨im_X0_allRightPins, sl_X0_allRightPins, ini_X0, cd_X0_allRightPins, ⟨by decide, by decide, by decide +kernel⟩, by decide⟩

def f_X0_allRightPins_4 : Nat → Nat → Int32 → Int32 → Mem → Option (Int32 × Mem)
  | 0, _, _, _, _ => none
  | n + 1, y0, y1, y2, M => chk (kb y0 1) <| if (M.1 y0 1) ≤ y2 then (some (y1, M)) else (chk (inb y2 6) <| bnd (tw (y0 + 1) y2) fun b18 => bn (f_X3_rightPins b18 M) fun r19 M19 => bnd (y1 + r19) fun x23 => bnd (y2 + (1 : Int32)) fun x24 => f_X0_allRightPins_4  n y0 x23 x24 M19)

set_option maxRecDepth 100000 in
set_option maxHeartbeats 4000000 in
theorem l_X0_allRightPins_4 {G : GM} {p : Program} {l : Launch} {e : Env} {s : State} {m : MethodId} {args : Array Value} {below : List Frame} {meth : Method} {c : Code} (F : Fx G p l s m args meth c cX0_allRightPins RX0 3 (some .int)) : ∀ (n : Nat) (y0 : Nat) (y1 : Int32) (y2 : Int32) (M : Mem), Rf G p l e s m args below meth c 9 3 emI (f_X0_allRightPins_4  n y0 y1 y2 M) 4 [(0, .ref (gA G y0)), (1, .int y1), (2, .int y2)] [] M := by
  intro n
  induction n with
  | zero => intros; exact r_none
  | succ n ih =>
    intro y0 y1 y2 M
    rw [f_X0_allRightPins_4]
    refine r_iload_n F 2 dX0_allRightPins_4 rfl rfl ?_
    refine r_aload_n F 0 dX0_allRightPins_5 rfl rfl ?_
    refine r_chk (fun h1 => ?_)
    refine gf_X0_38 F dX0_allRightPins_6 (kb_k h1) ?_
    refine r_icmp_ge (tgt := 30) F dX0_allRightPins_9 (by decide) (fun c2 => ?_) (fun c2 => ?_)
    · refine r_iload_n F 1 dX0_allRightPins_30 rfl rfl ?_
      exact r_iret F rfl dX0_allRightPins_31 rfl
    · refine r_iload_n F 1 dX0_allRightPins_12 rfl rfl ?_
      refine r_aload_n F 0 dX0_allRightPins_13 rfl rfl ?_
      refine gf_X0_11 F dX0_allRightPins_14 (kb_k h1) ?_
      refine r_iload_n F 2 dX0_allRightPins_17 rfl rfl ?_
      refine r_chk (fun h3 => ?_)
      refine r_aaldT F dX0_allRightPins_18 (kLs (kb_k h1)) h3 ?_
      refine r_br (kTw' (kLs (kb_k h1)) h3) (fun b18 k18 => ?_)
      refine r_cVN (val := vI) (As := []) (rest := [.int y1]) (fun q9 => .int q9 :: [.int y1]) F (c_X3_rightPins F.st F.gg b18 M) (fun _ _ => rfl) dX0_allRightPins_19 mn_X0_82 yv_X3_rightPins k18 (by decide) rfl rfl (by decide) rfl (Nat.le_of_ble_eq_true rfl) (fun _ => rfl) (fun r19 M19 => ?_)
      refine r_iadd F dX0_allRightPins_22 ?_
      refine r_bi (fun x23 => ?_)
      refine r_istore_n (ls' := [(1, .int x23), (0, .ref (gA G y0)), (2, .int y2)]) F dX0_allRightPins_23 rfl (by decide) rfl ?_
      refine r_iinc (ls' := fun q9 => [(2, .int q9), (1, .int x23), (0, .ref (gA G y0))]) (k := 2) (v := y2 + (1 : Int32)) F dX0_allRightPins_24 rfl rfl (by decide) (fun _ => rfl) (fun x24 => ?_)
      refine r_goto (tgt := 4) F dX0_allRightPins_27 (by decide) ?_
      refine r_sub [2, 1, 0] rfl ?_
      exact ih y0 x23 x24 M19

def f_X0_allRightPins (a0 : Nat) (M : Mem) : Option (Int32 × Mem) := f_X0_allRightPins_4  FU a0 (0 : Int32) (0 : Int32) M

set_option maxRecDepth 100000 in
set_option maxHeartbeats 4000000 in
theorem b_X0_allRightPins {G : GM} {p : Program} {l : Launch} {e : Env} {s : State} {m : MethodId} {args : Array Value} {below : List Frame} {meth : Method} {c : Code} (F : Fx G p l s m args meth c cX0_allRightPins RX0 3 (some .int)) (a0 : Nat) (M : Mem) : Rf G p l e s m args below meth c 9 3 emI (f_X0_allRightPins a0 M) 0 [(0, .ref (gA G a0))] [] M := by
  unfold f_X0_allRightPins
  refine r_iconst F dX0_allRightPins_0 (v := 0) (by decide) ?_
  refine r_istore_n (ls' := [(1, .int (0 : Int32)), (0, .ref (gA G a0))]) F dX0_allRightPins_1 rfl (by decide) rfl ?_
  refine r_iconst F dX0_allRightPins_2 (v := 0) (by decide) ?_
  refine r_istore_n (ls' := [(2, .int (0 : Int32)), (1, .int (0 : Int32)), (0, .ref (gA G a0))]) F dX0_allRightPins_3 rfl (by decide) rfl ?_
  refine r_sub [2, 1, 0] rfl ?_
  exact l_X0_allRightPins_4 F   FU a0 (0 : Int32) (0 : Int32) M

set_option maxRecDepth 100000 in
set_option maxHeartbeats 4000000 in
theorem c_X0_allRightPins {l : Launch} {G : GM} (hl : l.stackTraces = false) (hG : GG G) (a0 : Nat) (M : Mem) : ∀ r, f_X0_allRightPins a0 M = some r → Ctr l G yX0_allRightPins (.code yX0_allRightPins cX0_allRightPins 3 (some .int) :: wsA) 9 [.ref (gA G a0)] M (emI r) :=
  ctr_of (by decide) hl hG (Nat.le_of_ble_eq_true rfl) (fun p e s m args below meth c F => b_X0_allRightPins F a0 M)

-- ===== X0_carry DrumTowns$Land.carry(III)V =====
theorem yv_X0_carry : yV yX0_carry cX0_carry 4 none 3 := ⟨im_X0_carry, sl_X0_carry, ini_X0, cd_X0_carry, ⟨by decide, by decide, by decide +kernel⟩, by decide⟩

def f_X0_carry (a0 : Nat) (a1 : Int32) (a2 : Int32) (a3 : Int32) (M : Mem) : Option (Unit × Mem) := chk (kb a0 1) <| chk (inb a1 6) <| bnd (tw (a0 + 1) a1) fun b5 => bnd (mw M b5 0 ((M.1 b5 0) - a3)) fun M12 => chk (inb a2 6) <| bnd (tw (a0 + 1) a2) fun b20 => bnd (mw M12 b20 0 ((M12.1 b20 0) + a3)) fun M27 => some ((), M27)

set_option maxRecDepth 100000 in
set_option maxHeartbeats 4000000 in
theorem b_X0_carry {G : GM} {p : Program} {l : Launch} {e : Env} {s : State} {m : MethodId} {args : Array Value} {below : List Frame} {meth : Method} {c : Code} (F : Fx G p l s m args meth c cX0_carry RX0 4 none) (a0 : Nat) (a1 : Int32) (a2 : Int32) (a3 : Int32) (M : Mem) : Rf G p l e s m args below meth c 6 4 emV (f_X0_carry a0 a1 a2 a3 M) 0 [(0, .ref (gA G a0)), (1, .int a1), (2, .int a2), (3, .int a3)] [] M := by
  unfold f_X0_carry
  refine r_aload_n F 0 dX0_carry_0 rfl rfl ?_
  refine r_chk (fun h1 => ?_)
  refine gf_X0_11 F dX0_carry_1 (kb_k h1) ?_
  refine r_iload_n F 1 dX0_carry_4 rfl rfl ?_
  refine r_chk (fun h2 => ?_)
  refine r_aaldT F dX0_carry_5 (kLs (kb_k h1)) h2 ?_
  refine r_br (kTw' (kLs (kb_k h1)) h2) (fun b5 k5 => ?_)
  refine r_dup F dX0_carry_6 rfl ?_
  refine gf_X0_54 F dX0_carry_7 k5 ?_
  refine r_iload_n F 3 dX0_carry_10 rfl rfl ?_
  refine r_isub F dX0_carry_11 ?_
  refine pf_X0_54 F dX0_carry_12 k5 (fun M12 => ?_)
  refine r_aload_n F 0 dX0_carry_15 rfl rfl ?_
  refine gf_X0_11 F dX0_carry_16 (kb_k h1) ?_
  refine r_iload_n F 2 dX0_carry_19 rfl rfl ?_
  refine r_chk (fun h3 => ?_)
  refine r_aaldT F dX0_carry_20 (kLs (kb_k h1)) h3 ?_
  refine r_br (kTw' (kLs (kb_k h1)) h3) (fun b20 k20 => ?_)
  refine r_dup F dX0_carry_21 rfl ?_
  refine gf_X0_54 F dX0_carry_22 k20 ?_
  refine r_iload_n F 3 dX0_carry_25 rfl rfl ?_
  refine r_iadd F dX0_carry_26 ?_
  refine pf_X0_54 F dX0_carry_27 k20 (fun M27 => ?_)
  exact r_vret F rfl dX0_carry_30 rfl

set_option maxRecDepth 100000 in
set_option maxHeartbeats 4000000 in
theorem c_X0_carry {l : Launch} {G : GM} (hl : l.stackTraces = false) (hG : GG G) (a0 : Nat) (a1 : Int32) (a2 : Int32) (a3 : Int32) (M : Mem) : ∀ r, f_X0_carry a0 a1 a2 a3 M = some r → Ctr l G yX0_carry (.code yX0_carry cX0_carry 4 none :: wsA) 6 [.ref (gA G a0), .int a1, .int a2, .int a3] M (emV r) :=
  ctr_of (by decide) hl hG (Nat.le_of_ble_eq_true rfl) (fun p e s m args below meth c F => b_X0_carry F a0 a1 a2 a3 M)

-- ===== X0_owedTo DrumTowns$Land.owedTo(I)I =====
theorem yv_X0_owedTo : yV yX0_owedTo cX0_owedTo 4 (some .int) 1 := ⟨im_X0_owedTo, sl_X0_owedTo, ini_X0, cd_X0_owedTo, ⟨by decide, by decide, by decide +kernel⟩, by decide⟩

def f_X0_owedTo_4 : Nat → Nat → Int32 → Int32 → Int32 → Mem → Option (Int32 × Mem)
  | 0, _, _, _, _, _ => none
  | n + 1, y0, y1, y2, y3, M => chk (kb y0 1) <| if (M.1 y0 1) ≤ y3 then (some (y2, M)) else (chk (inb y3 6) <| bnd (rw' (y0 + 3) y3) fun b18 => chk (inb y1 6) <| bnd (y2 + (M.1 b18 y1.toNatClampNeg)) fun x22 => bnd (y3 + (1 : Int32)) fun x23 => f_X0_owedTo_4  n y0 y1 x22 x23 M)

set_option maxRecDepth 100000 in
set_option maxHeartbeats 4000000 in
theorem l_X0_owedTo_4 {G : GM} {p : Program} {l : Launch} {e : Env} {s : State} {m : MethodId} {args : Array Value} {below : List Frame} {meth : Method} {c : Code} (F : Fx G p l s m args meth c cX0_owedTo RX0 4 (some .int)) : ∀ (n : Nat) (y0 : Nat) (y1 : Int32) (y2 : Int32) (y3 : Int32) (M : Mem), Rf G p l e s m args below meth c 6 4 emI (f_X0_owedTo_4  n y0 y1 y2 y3 M) 4 [(0, .ref (gA G y0)), (1, .int y1), (2, .int y2), (3, .int y3)] [] M := by
  intro n
  induction n with
  | zero => intros; exact r_none
  | succ n ih =>
    intro y0 y1 y2 y3 M
    rw [f_X0_owedTo_4]
    refine r_iload_n F 3 dX0_owedTo_4 rfl rfl ?_
    refine r_aload_n F 0 dX0_owedTo_5 rfl rfl ?_
    refine r_chk (fun h1 => ?_)
    refine gf_X0_38 F dX0_owedTo_6 (kb_k h1) ?_
    refine r_icmp_ge (tgt := 29) F dX0_owedTo_9 (by decide) (fun c2 => ?_) (fun c2 => ?_)
    · refine r_iload_n F 2 dX0_owedTo_29 rfl rfl ?_
      exact r_iret F rfl dX0_owedTo_30 rfl
    · refine r_iload_n F 2 dX0_owedTo_12 rfl rfl ?_
      refine r_aload_n F 0 dX0_owedTo_13 rfl rfl ?_
      refine gf_X0_23 F dX0_owedTo_14 (kb_k h1) ?_
      refine r_iload_n F 3 dX0_owedTo_17 rfl rfl ?_
      refine r_chk (fun h3 => ?_)
      refine r_aaldR F dX0_owedTo_18 (kLd (kb_k h1)) h3 ?_
      refine r_bra (kRw (kLd (kb_k h1)) h3) (aRw (kLd (kb_k h1)) h3) (fun b18 k18 k18a => ?_)
      refine r_iload_n F 1 dX0_owedTo_19 rfl rfl ?_
      refine r_chk (fun h4 => ?_)
      refine r_iald F dX0_owedTo_20 k18 k18a h4 ?_
      refine r_iadd F dX0_owedTo_21 ?_
      refine r_bi (fun x22 => ?_)
      refine r_istore_n (ls' := [(2, .int x22), (0, .ref (gA G y0)), (1, .int y1), (3, .int y3)]) F dX0_owedTo_22 rfl (by decide) rfl ?_
      refine r_iinc (ls' := fun q9 => [(3, .int q9), (2, .int x22), (0, .ref (gA G y0)), (1, .int y1)]) (k := 3) (v := y3 + (1 : Int32)) F dX0_owedTo_23 rfl rfl (by decide) (fun _ => rfl) (fun x23 => ?_)
      refine r_goto (tgt := 4) F dX0_owedTo_26 (by decide) ?_
      refine r_sub [2, 3, 1, 0] rfl ?_
      exact ih y0 y1 x22 x23 M

def f_X0_owedTo (a0 : Nat) (a1 : Int32) (M : Mem) : Option (Int32 × Mem) := f_X0_owedTo_4  FU a0 a1 (0 : Int32) (0 : Int32) M

set_option maxRecDepth 100000 in
set_option maxHeartbeats 4000000 in
theorem b_X0_owedTo {G : GM} {p : Program} {l : Launch} {e : Env} {s : State} {m : MethodId} {args : Array Value} {below : List Frame} {meth : Method} {c : Code} (F : Fx G p l s m args meth c cX0_owedTo RX0 4 (some .int)) (a0 : Nat) (a1 : Int32) (M : Mem) : Rf G p l e s m args below meth c 6 4 emI (f_X0_owedTo a0 a1 M) 0 [(0, .ref (gA G a0)), (1, .int a1)] [] M := by
  unfold f_X0_owedTo
  refine r_iconst F dX0_owedTo_0 (v := 0) (by decide) ?_
  refine r_istore_n (ls' := [(2, .int (0 : Int32)), (0, .ref (gA G a0)), (1, .int a1)]) F dX0_owedTo_1 rfl (by decide) rfl ?_
  refine r_iconst F dX0_owedTo_2 (v := 0) (by decide) ?_
  refine r_istore_n (ls' := [(3, .int (0 : Int32)), (2, .int (0 : Int32)), (0, .ref (gA G a0)), (1, .int a1)]) F dX0_owedTo_3 rfl (by decide) rfl ?_
  refine r_sub [2, 3, 1, 0] rfl ?_
  exact l_X0_owedTo_4 F   FU a0 a1 (0 : Int32) (0 : Int32) M

set_option maxRecDepth 100000 in
set_option maxHeartbeats 4000000 in
theorem c_X0_owedTo {l : Launch} {G : GM} (hl : l.stackTraces = false) (hG : GG G) (a0 : Nat) (a1 : Int32) (M : Mem) : ∀ r, f_X0_owedTo a0 a1 M = some r → Ctr l G yX0_owedTo (.code yX0_owedTo cX0_owedTo 4 (some .int) :: wsA) 6 [.ref (gA G a0), .int a1] M (emI r) :=
  ctr_of (by decide) hl hG (Nat.le_of_ble_eq_true rfl) (fun p e s m args below meth c F => b_X0_owedTo F a0 a1 M)

-- ===== X0_owingPairs DrumTowns$Land.owingPairs()I =====
theorem yv_X0_owingPairs : yV yX0_owingPairs cX0_owingPairs 4 (some .int) 0 := ⟨im_X0_owingPairs, sl_X0_owingPairs, ini_X0, cd_X0_owingPairs, ⟨by decide, by decide, by decide +kernel⟩, by decide⟩

def f_X0_owingPairs_39 (k4 : Nat → Int32 → Int32 → Mem → Option (Int32 × Mem)) (k14 : Nat → Int32 → Int32 → Int32 → Mem → Option (Int32 × Mem)) (y0 : Nat) (y2 : Int32) (y3 : Int32) (z0 : Int32) (z1 : Int32) (M : Mem) : Option (Int32 × Mem) := bnd (z0 + z1) fun x40 => bnd (y3 + (1 : Int32)) fun x41 => k14 y0 x40 y2 x41 M

set_option maxRecDepth 100000 in
set_option maxHeartbeats 4000000 in
theorem l_X0_owingPairs_39 {G : GM} {p : Program} {l : Launch} {e : Env} {s : State} {m : MethodId} {args : Array Value} {below : List Frame} {meth : Method} {c : Code} (F : Fx G p l s m args meth c cX0_owingPairs RX0 4 (some .int)) (k4 : Nat → Int32 → Int32 → Mem → Option (Int32 × Mem)) (k14 : Nat → Int32 → Int32 → Int32 → Mem → Option (Int32 × Mem)) (H4 : ∀ (y0 : Nat) (y1 : Int32) (y2 : Int32) (M : Mem), Rf G p l e s m args below meth c 6 4 emI (k4 y0 y1 y2 M) 4 [(0, .ref (gA G y0)), (1, .int y1), (2, .int y2)] [] M) (H14 : ∀ (y0 : Nat) (y1 : Int32) (y2 : Int32) (y3 : Int32) (M : Mem), Rf G p l e s m args below meth c 6 4 emI (k14 y0 y1 y2 y3 M) 14 [(0, .ref (gA G y0)), (1, .int y1), (2, .int y2), (3, .int y3)] [] M) (y0 : Nat) (y2 : Int32) (y3 : Int32) (z0 : Int32) (z1 : Int32) (M : Mem) : Rf G p l e s m args below meth c 6 4 emI (f_X0_owingPairs_39 k4 k14 y0 y2 y3 z0 z1 M) 39 [(0, .ref (gA G y0)), (2, .int y2), (3, .int y3)] [.int z1, .int z0] M := by
  unfold f_X0_owingPairs_39
  refine r_iadd F dX0_owingPairs_39 ?_
  refine r_bi (fun x40 => ?_)
  refine r_istore_n (ls' := [(1, .int x40), (0, .ref (gA G y0)), (2, .int y2), (3, .int y3)]) F dX0_owingPairs_40 rfl (by decide) rfl ?_
  refine r_iinc (ls' := fun q9 => [(3, .int q9), (1, .int x40), (0, .ref (gA G y0)), (2, .int y2)]) (k := 3) (v := y3 + (1 : Int32)) F dX0_owingPairs_41 rfl rfl (by decide) (fun _ => rfl) (fun x41 => ?_)
  refine r_goto (tgt := 14) F dX0_owingPairs_44 (by decide) ?_
  refine r_sub [2, 1, 3, 0] rfl ?_
  exact H14 y0 x40 y2 x41 M

def f_X0_owingPairs_14 (k4 : Nat → Int32 → Int32 → Mem → Option (Int32 × Mem)) : Nat → Nat → Int32 → Int32 → Int32 → Mem → Option (Int32 × Mem)
  | 0, _, _, _, _, _ => none
  | n + 1, y0, y1, y2, y3, M => chk (kb y0 1) <| if (M.1 y0 1) ≤ y3 then (bnd (y2 + (1 : Int32)) fun x47 => k4 y0 y1 x47 M) else (chk (inb y2 6) <| bnd (rw' (y0 + 3) y2) fun b28 => chk (inb y3 6) <| if (M.1 b28 y3.toNatClampNeg) ≤ 0 then (f_X0_owingPairs_39 k4 (f_X0_owingPairs_14 k4 n) y0 y2 y3 y1 (0 : Int32) M) else (f_X0_owingPairs_39 k4 (f_X0_owingPairs_14 k4 n) y0 y2 y3 y1 (1 : Int32) M))

set_option maxRecDepth 100000 in
set_option maxHeartbeats 4000000 in
theorem l_X0_owingPairs_14 {G : GM} {p : Program} {l : Launch} {e : Env} {s : State} {m : MethodId} {args : Array Value} {below : List Frame} {meth : Method} {c : Code} (F : Fx G p l s m args meth c cX0_owingPairs RX0 4 (some .int)) (k4 : Nat → Int32 → Int32 → Mem → Option (Int32 × Mem)) (H4 : ∀ (y0 : Nat) (y1 : Int32) (y2 : Int32) (M : Mem), Rf G p l e s m args below meth c 6 4 emI (k4 y0 y1 y2 M) 4 [(0, .ref (gA G y0)), (1, .int y1), (2, .int y2)] [] M) : ∀ (n : Nat) (y0 : Nat) (y1 : Int32) (y2 : Int32) (y3 : Int32) (M : Mem), Rf G p l e s m args below meth c 6 4 emI (f_X0_owingPairs_14 k4 n y0 y1 y2 y3 M) 14 [(0, .ref (gA G y0)), (1, .int y1), (2, .int y2), (3, .int y3)] [] M := by
  intro n
  induction n with
  | zero => intros; exact r_none
  | succ n ih =>
    intro y0 y1 y2 y3 M
    rw [f_X0_owingPairs_14]
    refine r_iload_n F 3 dX0_owingPairs_14 rfl rfl ?_
    refine r_aload_n F 0 dX0_owingPairs_15 rfl rfl ?_
    refine r_chk (fun h1 => ?_)
    refine gf_X0_38 F dX0_owingPairs_16 (kb_k h1) ?_
    refine r_icmp_ge (tgt := 47) F dX0_owingPairs_19 (by decide) (fun c2 => ?_) (fun c2 => ?_)
    · refine r_iinc (ls' := fun q9 => [(2, .int q9), (0, .ref (gA G y0)), (1, .int y1), (3, .int y3)]) (k := 2) (v := y2 + (1 : Int32)) F dX0_owingPairs_47 rfl rfl (by decide) (fun _ => rfl) (fun x47 => ?_)
      refine r_goto (tgt := 4) F dX0_owingPairs_50 (by decide) ?_
      refine r_sub [1, 2, 0] rfl ?_
      exact H4 y0 y1 x47 M
    · refine r_iload_n F 1 dX0_owingPairs_22 rfl rfl ?_
      refine r_aload_n F 0 dX0_owingPairs_23 rfl rfl ?_
      refine gf_X0_23 F dX0_owingPairs_24 (kb_k h1) ?_
      refine r_iload_n F 2 dX0_owingPairs_27 rfl rfl ?_
      refine r_chk (fun h3 => ?_)
      refine r_aaldR F dX0_owingPairs_28 (kLd (kb_k h1)) h3 ?_
      refine r_bra (kRw (kLd (kb_k h1)) h3) (aRw (kLd (kb_k h1)) h3) (fun b28 k28 k28a => ?_)
      refine r_iload_n F 3 dX0_owingPairs_29 rfl rfl ?_
      refine r_chk (fun h4 => ?_)
      refine r_iald F dX0_owingPairs_30 k28 k28a h4 ?_
      refine r_if_le (tgt := 38) F dX0_owingPairs_31 (by decide) (fun c5 => ?_) (fun c5 => ?_)
      · refine r_iconst F dX0_owingPairs_38 (v := 0) (by decide) ?_
        refine r_sub [0, 2, 3] rfl ?_
        exact l_X0_owingPairs_39 F k4 (f_X0_owingPairs_14 k4 n) H4 (fun q0 q1 q2 q3 M9 => ih q0 q1 q2 q3 M9) y0 y2 y3 y1 (0 : Int32) M
      · refine r_iconst F dX0_owingPairs_34 (v := 1) (by decide) ?_
        refine r_goto (tgt := 39) F dX0_owingPairs_35 (by decide) ?_
        refine r_sub [0, 2, 3] rfl ?_
        exact l_X0_owingPairs_39 F k4 (f_X0_owingPairs_14 k4 n) H4 (fun q0 q1 q2 q3 M9 => ih q0 q1 q2 q3 M9) y0 y2 y3 y1 (1 : Int32) M

def f_X0_owingPairs_4 : Nat → Nat → Int32 → Int32 → Mem → Option (Int32 × Mem)
  | 0, _, _, _, _ => none
  | n + 1, y0, y1, y2, M => chk (kb y0 1) <| if (M.1 y0 1) ≤ y2 then (some (y1, M)) else (f_X0_owingPairs_14 (f_X0_owingPairs_4  n) FU y0 y1 y2 (0 : Int32) M)

set_option maxRecDepth 100000 in
set_option maxHeartbeats 4000000 in
theorem l_X0_owingPairs_4 {G : GM} {p : Program} {l : Launch} {e : Env} {s : State} {m : MethodId} {args : Array Value} {below : List Frame} {meth : Method} {c : Code} (F : Fx G p l s m args meth c cX0_owingPairs RX0 4 (some .int)) : ∀ (n : Nat) (y0 : Nat) (y1 : Int32) (y2 : Int32) (M : Mem), Rf G p l e s m args below meth c 6 4 emI (f_X0_owingPairs_4  n y0 y1 y2 M) 4 [(0, .ref (gA G y0)), (1, .int y1), (2, .int y2)] [] M := by
  intro n
  induction n with
  | zero => intros; exact r_none
  | succ n ih =>
    intro y0 y1 y2 M
    rw [f_X0_owingPairs_4]
    refine r_iload_n F 2 dX0_owingPairs_4 rfl rfl ?_
    refine r_aload_n F 0 dX0_owingPairs_5 rfl rfl ?_
    refine r_chk (fun h1 => ?_)
    refine gf_X0_38 F dX0_owingPairs_6 (kb_k h1) ?_
    refine r_icmp_ge (tgt := 53) F dX0_owingPairs_9 (by decide) (fun c2 => ?_) (fun c2 => ?_)
    · refine r_iload_n F 1 dX0_owingPairs_53 rfl rfl ?_
      exact r_iret F rfl dX0_owingPairs_54 rfl
    · refine r_iconst F dX0_owingPairs_12 (v := 0) (by decide) ?_
      refine r_istore_n (ls' := [(3, .int (0 : Int32)), (0, .ref (gA G y0)), (1, .int y1), (2, .int y2)]) F dX0_owingPairs_13 rfl (by decide) rfl ?_
      refine r_sub [1, 2, 3, 0] rfl ?_
      exact l_X0_owingPairs_14 F (f_X0_owingPairs_4  n) (fun q0 q1 q2 M9 => ih q0 q1 q2 M9) FU y0 y1 y2 (0 : Int32) M

def f_X0_owingPairs (a0 : Nat) (M : Mem) : Option (Int32 × Mem) := f_X0_owingPairs_4  FU a0 (0 : Int32) (0 : Int32) M

set_option maxRecDepth 100000 in
set_option maxHeartbeats 4000000 in
theorem b_X0_owingPairs {G : GM} {p : Program} {l : Launch} {e : Env} {s : State} {m : MethodId} {args : Array Value} {below : List Frame} {meth : Method} {c : Code} (F : Fx G p l s m args meth c cX0_owingPairs RX0 4 (some .int)) (a0 : Nat) (M : Mem) : Rf G p l e s m args below meth c 6 4 emI (f_X0_owingPairs a0 M) 0 [(0, .ref (gA G a0))] [] M := by
  unfold f_X0_owingPairs
  refine r_iconst F dX0_owingPairs_0 (v := 0) (by decide) ?_
  refine r_istore_n (ls' := [(1, .int (0 : Int32)), (0, .ref (gA G a0))]) F dX0_owingPairs_1 rfl (by decide) rfl ?_
  refine r_iconst F dX0_owingPairs_2 (v := 0) (by decide) ?_
  refine r_istore_n (ls' := [(2, .int (0 : Int32)), (1, .int (0 : Int32)), (0, .ref (gA G a0))]) F dX0_owingPairs_3 rfl (by decide) rfl ?_
  refine r_sub [2, 1, 0] rfl ?_
  exact l_X0_owingPairs_4 F   FU a0 (0 : Int32) (0 : Int32) M

set_option maxRecDepth 100000 in
set_option maxHeartbeats 4000000 in
theorem c_X0_owingPairs {l : Launch} {G : GM} (hl : l.stackTraces = false) (hG : GG G) (a0 : Nat) (M : Mem) : ∀ r, f_X0_owingPairs a0 M = some r → Ctr l G yX0_owingPairs (.code yX0_owingPairs cX0_owingPairs 4 (some .int) :: wsA) 6 [.ref (gA G a0)] M (emI r) :=
  ctr_of (by decide) hl hG (Nat.le_of_ble_eq_true rfl) (fun p e s m args below meth c F => b_X0_owingPairs F a0 M)

-- ===== X0_pinsInBoxes DrumTowns$Land.pinsInBoxes()I =====
theorem yv_X0_pinsInBoxes : yV yX0_pinsInBoxes cX0_pinsInBoxes 3 (some .int) 0 := ⟨im_X0_pinsInBoxes, sl_X0_pinsInBoxes, ini_X0, cd_X0_pinsInBoxes, ⟨by decide, by decide, by decide +kernel⟩, by decide⟩

def f_X0_pinsInBoxes_4 : Nat → Nat → Int32 → Int32 → Mem → Option (Int32 × Mem)
  | 0, _, _, _, _ => none
  | n + 1, y0, y1, y2, M => chk (kb y0 1) <| if (M.1 y0 1) ≤ y2 then (some (y1, M)) else (chk (inb y2 6) <| bnd (tw (y0 + 1) y2) fun b18 => bnd (y1 + (M.1 b18 0)) fun x23 => bnd (y2 + (1 : Int32)) fun x24 => f_X0_pinsInBoxes_4  n y0 x23 x24 M)

set_option maxRecDepth 100000 in
set_option maxHeartbeats 4000000 in
theorem l_X0_pinsInBoxes_4 {G : GM} {p : Program} {l : Launch} {e : Env} {s : State} {m : MethodId} {args : Array Value} {below : List Frame} {meth : Method} {c : Code} (F : Fx G p l s m args meth c cX0_pinsInBoxes RX0 3 (some .int)) : ∀ (n : Nat) (y0 : Nat) (y1 : Int32) (y2 : Int32) (M : Mem), Rf G p l e s m args below meth c 6 3 emI (f_X0_pinsInBoxes_4  n y0 y1 y2 M) 4 [(0, .ref (gA G y0)), (1, .int y1), (2, .int y2)] [] M := by
  intro n
  induction n with
  | zero => intros; exact r_none
  | succ n ih =>
    intro y0 y1 y2 M
    rw [f_X0_pinsInBoxes_4]
    refine r_iload_n F 2 dX0_pinsInBoxes_4 rfl rfl ?_
    refine r_aload_n F 0 dX0_pinsInBoxes_5 rfl rfl ?_
    refine r_chk (fun h1 => ?_)
    refine gf_X0_38 F dX0_pinsInBoxes_6 (kb_k h1) ?_
    refine r_icmp_ge (tgt := 30) F dX0_pinsInBoxes_9 (by decide) (fun c2 => ?_) (fun c2 => ?_)
    · refine r_iload_n F 1 dX0_pinsInBoxes_30 rfl rfl ?_
      exact r_iret F rfl dX0_pinsInBoxes_31 rfl
    · refine r_iload_n F 1 dX0_pinsInBoxes_12 rfl rfl ?_
      refine r_aload_n F 0 dX0_pinsInBoxes_13 rfl rfl ?_
      refine gf_X0_11 F dX0_pinsInBoxes_14 (kb_k h1) ?_
      refine r_iload_n F 2 dX0_pinsInBoxes_17 rfl rfl ?_
      refine r_chk (fun h3 => ?_)
      refine r_aaldT F dX0_pinsInBoxes_18 (kLs (kb_k h1)) h3 ?_
      refine r_br (kTw' (kLs (kb_k h1)) h3) (fun b18 k18 => ?_)
      refine gf_X0_54 F dX0_pinsInBoxes_19 k18 ?_
      refine r_iadd F dX0_pinsInBoxes_22 ?_
      refine r_bi (fun x23 => ?_)
      refine r_istore_n (ls' := [(1, .int x23), (0, .ref (gA G y0)), (2, .int y2)]) F dX0_pinsInBoxes_23 rfl (by decide) rfl ?_
      refine r_iinc (ls' := fun q9 => [(2, .int q9), (1, .int x23), (0, .ref (gA G y0))]) (k := 2) (v := y2 + (1 : Int32)) F dX0_pinsInBoxes_24 rfl rfl (by decide) (fun _ => rfl) (fun x24 => ?_)
      refine r_goto (tgt := 4) F dX0_pinsInBoxes_27 (by decide) ?_
      refine r_sub [2, 1, 0] rfl ?_
      exact ih y0 x23 x24 M

def f_X0_pinsInBoxes (a0 : Nat) (M : Mem) : Option (Int32 × Mem) := f_X0_pinsInBoxes_4  FU a0 (0 : Int32) (0 : Int32) M

set_option maxRecDepth 100000 in
set_option maxHeartbeats 4000000 in
theorem b_X0_pinsInBoxes {G : GM} {p : Program} {l : Launch} {e : Env} {s : State} {m : MethodId} {args : Array Value} {below : List Frame} {meth : Method} {c : Code} (F : Fx G p l s m args meth c cX0_pinsInBoxes RX0 3 (some .int)) (a0 : Nat) (M : Mem) : Rf G p l e s m args below meth c 6 3 emI (f_X0_pinsInBoxes a0 M) 0 [(0, .ref (gA G a0))] [] M := by
  unfold f_X0_pinsInBoxes
  refine r_iconst F dX0_pinsInBoxes_0 (v := 0) (by decide) ?_
  refine r_istore_n (ls' := [(1, .int (0 : Int32)), (0, .ref (gA G a0))]) F dX0_pinsInBoxes_1 rfl (by decide) rfl ?_
  refine r_iconst F dX0_pinsInBoxes_2 (v := 0) (by decide) ?_
  refine r_istore_n (ls' := [(2, .int (0 : Int32)), (1, .int (0 : Int32)), (0, .ref (gA G a0))]) F dX0_pinsInBoxes_3 rfl (by decide) rfl ?_
  refine r_sub [2, 1, 0] rfl ?_
  exact l_X0_pinsInBoxes_4 F   FU a0 (0 : Int32) (0 : Int32) M

set_option maxRecDepth 100000 in
set_option maxHeartbeats 4000000 in
theorem c_X0_pinsInBoxes {l : Launch} {G : GM} (hl : l.stackTraces = false) (hG : GG G) (a0 : Nat) (M : Mem) : ∀ r, f_X0_pinsInBoxes a0 M = some r → Ctr l G yX0_pinsInBoxes (.code yX0_pinsInBoxes cX0_pinsInBoxes 3 (some .int) :: wsA) 6 [.ref (gA G a0)] M (emI r) :=
  ctr_of (by decide) hl hG (Nat.le_of_ble_eq_true rfl) (fun p e s m args below meth c F => b_X0_pinsInBoxes F a0 M)

-- ===== X6_sizeOf DrumTowns.sizeOf([I)I =====
theorem ys_X6_sizeOf : yS yX6_sizeOf cX6_sizeOf 6 (some .int) 1 := ⟨sc_X6_sizeOf, ini_X6, cd_X6_sizeOf, ⟨by decide, by decide, by decide +kernel⟩, by decide⟩

def f_X6_sizeOf_10 : Nat → Int32 → Nat → Int32 → Int32 → Mem → Option (Int32 × Mem)
  | 0, _, _, _, _, _ => none
  | n + 1, y1, y2, y3, y4, M => if y3 ≤ y4 then (some (y1, M)) else (chk (kb y2 8) <| chk (inb y4 (al y2)) <| bnd (M.1 y2 y4.toNatClampNeg) fun x20 => bn (f_J6_bitCount_0f7a4 x20 M) fun r25 M25 => bnd (y1 + r25) fun x29 => bnd (y4 + (1 : Int32)) fun x30 => f_X6_sizeOf_10  n x29 y2 y3 x30 M25)

set_option maxRecDepth 100000 in
set_option maxHeartbeats 4000000 in
theorem l_X6_sizeOf_10 {G : GM} {p : Program} {l : Launch} {e : Env} {s : State} {m : MethodId} {args : Array Value} {below : List Frame} {meth : Method} {c : Code} (F : Fx G p l s m args meth c cX6_sizeOf RX6 6 (some .int)) : ∀ (n : Nat) (y1 : Int32) (y2 : Nat) (y3 : Int32) (y4 : Int32) (M : Mem), Rf G p l e s m args below meth c 7 6 emI (f_X6_sizeOf_10  n y1 y2 y3 y4 M) 10 [(1, .int y1), (2, .ref (gA G y2)), (3, .int y3), (4, .int y4)] [] M := by
  intro n
  induction n with
  | zero => intros; exact r_none
  | succ n ih =>
    intro y1 y2 y3 y4 M
    rw [f_X6_sizeOf_10]
    refine r_iload F 3 dX6_sizeOf_10 rfl ?_
    refine r_iload_n F 2 dX6_sizeOf_12 rfl rfl ?_
    refine r_icmp_ge (tgt := 36) F dX6_sizeOf_13 (by decide) (fun c1 => ?_) (fun c1 => ?_)
    · refine r_iload_n F 0 dX6_sizeOf_36 rfl rfl ?_
      exact r_iret F rfl dX6_sizeOf_37 rfl
    · refine r_aload_n F 1 dX6_sizeOf_16 rfl rfl ?_
      refine r_iload F 3 dX6_sizeOf_17 rfl ?_
      refine r_chk (fun h2 => ?_)
      refine r_chk (fun h3 => ?_)
      refine r_iald F dX6_sizeOf_19 (kb_k h2) rfl h3 ?_
      refine r_bi (fun x20 => ?_)
      refine r_istore (ls' := [(5, .int x20), (1, .int y1), (2, .ref (gA G y2)), (3, .int y3), (4, .int y4)]) F dX6_sizeOf_20 (by decide) rfl ?_
      refine r_iload_n F 1 dX6_sizeOf_22 rfl rfl ?_
      refine r_iload F 0 dX6_sizeOf_23 rfl ?_
      refine r_cS (val := vI) (As := [.int x20]) (rest := [.int y1]) (fun q9 => .int q9 :: [.int y1]) F (c_J6_bitCount_0f7a4 F.st F.gg x20 M) (fun _ _ => rfl) dX6_sizeOf_25 ml_X6_386 ys_J6_bitCount_0f7a4 rfl (by decide) rfl (Nat.le_of_ble_eq_true rfl) (fun _ => rfl) (fun r25 M25 => ?_)
      refine r_iadd F dX6_sizeOf_28 ?_
      refine r_bi (fun x29 => ?_)
      refine r_istore_n (ls' := [(1, .int x29), (5, .int x20), (2, .ref (gA G y2)), (3, .int y3), (4, .int y4)]) F dX6_sizeOf_29 rfl (by decide) rfl ?_
      refine r_iinc (ls' := fun q9 => [(4, .int q9), (1, .int x29), (5, .int x20), (2, .ref (gA G y2)), (3, .int y3)]) (k := 4) (v := y4 + (1 : Int32)) F dX6_sizeOf_30 rfl rfl (by decide) (fun _ => rfl) (fun x30 => ?_)
      refine r_goto (tgt := 10) F dX6_sizeOf_33 (by decide) ?_
      refine r_sub [1, 3, 4, 0] rfl ?_
      exact ih x29 y2 y3 x30 M25

def f_X6_sizeOf (a0 : Nat) (M : Mem) : Option (Int32 × Mem) := chk (kb a0 8) <| bnd (Int32.ofNat (al a0)) fun x6 => f_X6_sizeOf_10  FU (0 : Int32) a0 x6 (0 : Int32) M

set_option maxRecDepth 100000 in
set_option maxHeartbeats 4000000 in
theorem b_X6_sizeOf {G : GM} {p : Program} {l : Launch} {e : Env} {s : State} {m : MethodId} {args : Array Value} {below : List Frame} {meth : Method} {c : Code} (F : Fx G p l s m args meth c cX6_sizeOf RX6 6 (some .int)) (a0 : Nat) (M : Mem) : Rf G p l e s m args below meth c 7 6 emI (f_X6_sizeOf a0 M) 0 [(0, .ref (gA G a0))] [] M := by
  unfold f_X6_sizeOf
  refine r_iconst F dX6_sizeOf_0 (v := 0) (by decide) ?_
  refine r_istore_n (ls' := [(1, .int (0 : Int32)), (0, .ref (gA G a0))]) F dX6_sizeOf_1 rfl (by decide) rfl ?_
  refine r_aload_n F 1 dX6_sizeOf_2 rfl rfl ?_
  refine r_astore_n (ls' := [(2, .ref (gA G a0)), (1, .int (0 : Int32)), (0, .ref (gA G a0))]) F dX6_sizeOf_3 rfl (by decide) rfl ?_
  refine r_aload_n F 0 dX6_sizeOf_4 rfl rfl ?_
  refine r_chk (fun h1 => ?_)
  refine r_alen F dX6_sizeOf_5 (kb_k h1) rfl rfl ?_
  refine r_bi (fun x6 => ?_)
  refine r_istore_n (ls' := [(3, .int x6), (2, .ref (gA G a0)), (1, .int (0 : Int32)), (0, .ref (gA G a0))]) F dX6_sizeOf_6 rfl (by decide) rfl ?_
  refine r_iconst F dX6_sizeOf_7 (v := 0) (by decide) ?_
  refine r_istore (ls' := [(4, .int (0 : Int32)), (3, .int x6), (2, .ref (gA G a0)), (1, .int (0 : Int32)), (0, .ref (gA G a0))]) F dX6_sizeOf_8 (by decide) rfl ?_
  refine r_sub [3, 2, 1, 0] rfl ?_
  exact l_X6_sizeOf_10 F   FU (0 : Int32) a0 x6 (0 : Int32) M

set_option maxRecDepth 100000 in
set_option maxHeartbeats 4000000 in
theorem c_X6_sizeOf {l : Launch} {G : GM} (hl : l.stackTraces = false) (hG : GG G) (a0 : Nat) (M : Mem) : ∀ r, f_X6_sizeOf a0 M = some r → Ctr l G yX6_sizeOf (.code yX6_sizeOf cX6_sizeOf 6 (some .int) :: wsA) 7 [.ref (gA G a0)] M (emI r) :=
  ctr_of (by decide) hl hG (Nat.le_of_ble_eq_true rfl) (fun p e s m args below meth c F => b_X6_sizeOf F a0 M)

-- ===== X0_pinsInDrums DrumTowns$Land.pinsInDrums()I =====
theorem yv_X0_pinsInDrums : yV yX0_pinsInDrums cX0_pinsInDrums 3 (some .int) 0 := ⟨im_X0_pinsInDrums, sl_X0_pinsInDrums, ini_X0, cd_X0_pinsInDrums, ⟨by decide, by decide, by decide +kernel⟩, by decide⟩

def f_X0_pinsInDrums_4 : Nat → Nat → Int32 → Int32 → Mem → Option (Int32 × Mem)
  | 0, _, _, _, _ => none
  | n + 1, y0, y1, y2, M => chk (kb y0 1) <| if (M.1 y0 1) ≤ y2 then (some (y1, M)) else (chk (inb y2 6) <| bnd (tw (y0 + 1) y2) fun b18 => bn (f_X6_sizeOf (b18 + 1) M) fun r22 M22 => bnd (y1 + r22) fun x26 => bnd (y2 + (1 : Int32)) fun x27 => f_X0_pinsInDrums_4  n y0 x26 x27 M22)

set_option maxRecDepth 100000 in
set_option maxHeartbeats 4000000 in
theorem l_X0_pinsInDrums_4 {G : GM} {p : Program} {l : Launch} {e : Env} {s : State} {m : MethodId} {args : Array Value} {below : List Frame} {meth : Method} {c : Code} (F : Fx G p l s m args meth c cX0_pinsInDrums RX0 3 (some .int)) : ∀ (n : Nat) (y0 : Nat) (y1 : Int32) (y2 : Int32) (M : Mem), Rf G p l e s m args below meth c 8 3 emI (f_X0_pinsInDrums_4  n y0 y1 y2 M) 4 [(0, .ref (gA G y0)), (1, .int y1), (2, .int y2)] [] M := by
  intro n
  induction n with
  | zero => intros; exact r_none
  | succ n ih =>
    intro y0 y1 y2 M
    rw [f_X0_pinsInDrums_4]
    refine r_iload_n F 2 dX0_pinsInDrums_4 rfl rfl ?_
    refine r_aload_n F 0 dX0_pinsInDrums_5 rfl rfl ?_
    refine r_chk (fun h1 => ?_)
    refine gf_X0_38 F dX0_pinsInDrums_6 (kb_k h1) ?_
    refine r_icmp_ge (tgt := 33) F dX0_pinsInDrums_9 (by decide) (fun c2 => ?_) (fun c2 => ?_)
    · refine r_iload_n F 1 dX0_pinsInDrums_33 rfl rfl ?_
      exact r_iret F rfl dX0_pinsInDrums_34 rfl
    · refine r_iload_n F 1 dX0_pinsInDrums_12 rfl rfl ?_
      refine r_aload_n F 0 dX0_pinsInDrums_13 rfl rfl ?_
      refine gf_X0_11 F dX0_pinsInDrums_14 (kb_k h1) ?_
      refine r_iload_n F 2 dX0_pinsInDrums_17 rfl rfl ?_
      refine r_chk (fun h3 => ?_)
      refine r_aaldT F dX0_pinsInDrums_18 (kLs (kb_k h1)) h3 ?_
      refine r_br (kTw' (kLs (kb_k h1)) h3) (fun b18 k18 => ?_)
      refine gf_X0_75 F dX0_pinsInDrums_19 k18 ?_
      refine r_cSN (val := vI) (As := [.ref (gA G (b18 + 1))]) (rest := [.int y1]) (fun q9 => .int q9 :: [.int y1]) F (c_X6_sizeOf F.st F.gg (b18 + 1) M) (fun _ _ => rfl) dX0_pinsInDrums_22 mn_X0_78 ys_X6_sizeOf rfl (by decide) rfl (Nat.le_of_ble_eq_true rfl) (fun _ => rfl) (fun r22 M22 => ?_)
      refine r_iadd F dX0_pinsInDrums_25 ?_
      refine r_bi (fun x26 => ?_)
      refine r_istore_n (ls' := [(1, .int x26), (0, .ref (gA G y0)), (2, .int y2)]) F dX0_pinsInDrums_26 rfl (by decide) rfl ?_
      refine r_iinc (ls' := fun q9 => [(2, .int q9), (1, .int x26), (0, .ref (gA G y0))]) (k := 2) (v := y2 + (1 : Int32)) F dX0_pinsInDrums_27 rfl rfl (by decide) (fun _ => rfl) (fun x27 => ?_)
      refine r_goto (tgt := 4) F dX0_pinsInDrums_30 (by decide) ?_
      refine r_sub [2, 1, 0] rfl ?_
      exact ih y0 x26 x27 M22

def f_X0_pinsInDrums (a0 : Nat) (M : Mem) : Option (Int32 × Mem) := f_X0_pinsInDrums_4  FU a0 (0 : Int32) (0 : Int32) M

set_option maxRecDepth 100000 in
set_option maxHeartbeats 4000000 in
theorem b_X0_pinsInDrums {G : GM} {p : Program} {l : Launch} {e : Env} {s : State} {m : MethodId} {args : Array Value} {below : List Frame} {meth : Method} {c : Code} (F : Fx G p l s m args meth c cX0_pinsInDrums RX0 3 (some .int)) (a0 : Nat) (M : Mem) : Rf G p l e s m args below meth c 8 3 emI (f_X0_pinsInDrums a0 M) 0 [(0, .ref (gA G a0))] [] M := by
  unfold f_X0_pinsInDrums
  refine r_iconst F dX0_pinsInDrums_0 (v := 0) (by decide) ?_
  refine r_istore_n (ls' := [(1, .int (0 : Int32)), (0, .ref (gA G a0))]) F dX0_pinsInDrums_1 rfl (by decide) rfl ?_
  refine r_iconst F dX0_pinsInDrums_2 (v := 0) (by decide) ?_
  refine r_istore_n (ls' := [(2, .int (0 : Int32)), (1, .int (0 : Int32)), (0, .ref (gA G a0))]) F dX0_pinsInDrums_3 rfl (by decide) rfl ?_
  refine r_sub [2, 1, 0] rfl ?_
  exact l_X0_pinsInDrums_4 F   FU a0 (0 : Int32) (0 : Int32) M

set_option maxRecDepth 100000 in
set_option maxHeartbeats 4000000 in
theorem c_X0_pinsInDrums {l : Launch} {G : GM} (hl : l.stackTraces = false) (hG : GG G) (a0 : Nat) (M : Mem) : ∀ r, f_X0_pinsInDrums a0 M = some r → Ctr l G yX0_pinsInDrums (.code yX0_pinsInDrums cX0_pinsInDrums 3 (some .int) :: wsA) 8 [.ref (gA G a0)] M (emI r) :=
  ctr_of (by decide) hl hG (Nat.le_of_ble_eq_true rfl) (fun p e s m args below meth c F => b_X0_pinsInDrums F a0 M)

-- ===== X6_copyRow DrumTowns.copyRow([I[I)V =====
theorem ys_X6_copyRow : yS yX6_copyRow cX6_copyRow 2 none 2 := ⟨sc_X6_copyRow, ini_X6, cd_X6_copyRow, ⟨by decide, by decide, by decide +kernel⟩, by decide⟩

def f_X6_copyRow (a0 : Nat) (a1 : Nat) (M : Mem) : Option (Unit × Mem) := chk (kb a0 8) <| chk (kb a1 8) <| chk (!(decide ((if (Int32.ofNat (al a1)) < (Int32.ofNat (al a0)) then (Int32.ofNat (al a1)) else (Int32.ofNat (al a0))) < 0)) && (decide ((if (Int32.ofNat (al a1)) < (Int32.ofNat (al a0)) then (Int32.ofNat (al a1)) else (Int32.ofNat (al a0))).toNatClampNeg ≤ al a0) && decide ((if (Int32.ofNat (al a1)) < (Int32.ofNat (al a0)) then (Int32.ofNat (al a1)) else (Int32.ofNat (al a0))).toNatClampNeg ≤ al a1))) <| bnd (mcp M a0 a1 (if (Int32.ofNat (al a1)) < (Int32.ofNat (al a0)) then (Int32.ofNat (al a1)) else (Int32.ofNat (al a0)))) fun M11 => some ((), M11)

set_option maxRecDepth 100000 in
set_option maxHeartbeats 4000000 in
theorem b_X6_copyRow {G : GM} {p : Program} {l : Launch} {e : Env} {s : State} {m : MethodId} {args : Array Value} {below : List Frame} {meth : Method} {c : Code} (F : Fx G p l s m args meth c cX6_copyRow RX6 2 none) (a0 : Nat) (a1 : Nat) (M : Mem) : Rf G p l e s m args below meth c 6 2 emV (f_X6_copyRow a0 a1 M) 0 [(0, .ref (gA G a0)), (1, .ref (gA G a1))] [] M := by
  unfold f_X6_copyRow
  refine r_aload_n F 0 dX6_copyRow_0 rfl rfl ?_
  refine r_iconst F dX6_copyRow_1 (v := 0) (by decide) ?_
  refine r_aload_n F 1 dX6_copyRow_2 rfl rfl ?_
  refine r_iconst F dX6_copyRow_3 (v := 0) (by decide) ?_
  refine r_aload_n F 0 dX6_copyRow_4 rfl rfl ?_
  refine r_chk (fun h1 => ?_)
  refine r_alen F dX6_copyRow_5 (kb_k h1) rfl rfl ?_
  refine r_aload_n F 1 dX6_copyRow_6 rfl rfl ?_
  refine r_chk (fun h2 => ?_)
  refine r_alen F dX6_copyRow_7 (kb_k h2) rfl rfl ?_
  refine r_min F dX6_copyRow_8 ml_X6_375 ⟨sc_min, ini_J9, cd_min⟩ (by decide) (Nat.le_of_ble_eq_true rfl) ?_
  refine r_chk (fun h3 => ?_)
  refine r_copy F dX6_copyRow_11 ml_X6_380 ⟨na_arraycopy, sc_arraycopy, ini_J10⟩ (kb_k h1) (kb_k h2) h3 (by decide) (Nat.le_of_ble_eq_true rfl) (fun M11 => ?_)
  exact r_vret F rfl dX6_copyRow_14 rfl

set_option maxRecDepth 100000 in
set_option maxHeartbeats 4000000 in
theorem c_X6_copyRow {l : Launch} {G : GM} (hl : l.stackTraces = false) (hG : GG G) (a0 : Nat) (a1 : Nat) (M : Mem) : ∀ r, f_X6_copyRow a0 a1 M = some r → Ctr l G yX6_copyRow (.code yX6_copyRow cX6_copyRow 2 none :: wsA) 6 [.ref (gA G a0), .ref (gA G a1)] M (emV r) :=
  ctr_of (by decide) hl hG (Nat.le_of_ble_eq_true rfl) (fun p e s m args below meth c F => b_X6_copyRow F a0 a1 M)

