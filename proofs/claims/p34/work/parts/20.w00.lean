/-- fuel enough for any loop here -/
def FU : Nat := 100000
theorem sc_min : Cond.static Lib.Math.min.name ∈ wsA := sc_J9_min_7cf53
theorem cd_min : Cond.code Lib.Math.min.name Lib.Math.min.code 2 (some .int) ∈ wsA := cd_J9_min_7cf53
-- ===== J6_bitCount_0f7a4 java/lang/Integer.bitCount(I)I =====
theorem ys_J6_bitCount_0f7a4 : yS yJ6_bitCount_0f7a4 cJ6_bitCount_0f7a4 1 (some .int) 1 := ⟨sc_J6_bitCount_0f7a4, ini_J6, cd_J6_bitCount_0f7a4, ⟨by decide, by decide, by decide +kernel⟩, by decide⟩

def f_J6_bitCount_0f7a4 (a0 : Int32) (M : Mem) : Option (Int32 × Mem) := bnd (a0 - (((a0.toUInt32 >>> ((1 : Int32).toUInt32 &&& Int32.toUInt32 31)).toInt32) &&& (1431655765 : Int32))) fun x9 => bnd ((x9 &&& (858993459 : Int32)) + (((x9.toUInt32 >>> ((2 : Int32).toUInt32 &&& Int32.toUInt32 31)).toInt32) &&& (858993459 : Int32))) fun x23 => bnd ((x23 + ((x23.toUInt32 >>> ((4 : Int32).toUInt32 &&& Int32.toUInt32 31)).toInt32)) &&& (252645135 : Int32)) fun x33 => bnd (x33 + ((x33.toUInt32 >>> ((8 : Int32).toUInt32 &&& Int32.toUInt32 31)).toInt32)) fun x40 => bnd (x40 + ((x40.toUInt32 >>> ((16 : Int32).toUInt32 &&& Int32.toUInt32 31)).toInt32)) fun x47 => some ((x47 &&& (63 : Int32)), M)

set_option maxRecDepth 100000 in
set_option maxHeartbeats 4000000 in
theorem b_J6_bitCount_0f7a4 {G : GM} {p : Program} {l : Launch} {e : Env} {s : State} {m : MethodId} {args : Array Value} {below : List Frame} {meth : Method} {c : Code} (F : Fx G p l s m args meth c cJ6_bitCount_0f7a4 RJ6 1 (some .int)) (a0 : Int32) (M : Mem) : Rf G p l e s m args below meth c 6 1 emI (f_J6_bitCount_0f7a4 a0 M) 0 [(0, .int a0)] [] M := by
  unfold f_J6_bitCount_0f7a4
  refine r_iload_n F 0 dJ6_bitCount_0f7a4_0 rfl rfl ?_
  refine r_iload_n F 0 dJ6_bitCount_0f7a4_1 rfl rfl ?_
  refine r_iconst F dJ6_bitCount_0f7a4_2 (v := 1) (by decide) ?_
  refine r_iushr F dJ6_bitCount_0f7a4_3 ?_
  refine r_ldcw F dJ6_bitCount_0f7a4_4 kc_J6_265 ?_
  refine r_iand F dJ6_bitCount_0f7a4_7 ?_
  refine r_isub F dJ6_bitCount_0f7a4_8 ?_
  refine r_bi (fun x9 => ?_)
  refine r_istore_n (ls' := [(0, .int x9)]) F dJ6_bitCount_0f7a4_9 rfl (by decide) rfl ?_
  refine r_iload_n F 0 dJ6_bitCount_0f7a4_10 rfl rfl ?_
  refine r_ldcw F dJ6_bitCount_0f7a4_11 kc_J6_266 ?_
  refine r_iand F dJ6_bitCount_0f7a4_14 ?_
  refine r_iload_n F 0 dJ6_bitCount_0f7a4_15 rfl rfl ?_
  refine r_iconst F dJ6_bitCount_0f7a4_16 (v := 2) (by decide) ?_
  refine r_iushr F dJ6_bitCount_0f7a4_17 ?_
  refine r_ldcw F dJ6_bitCount_0f7a4_18 kc_J6_266 ?_
  refine r_iand F dJ6_bitCount_0f7a4_21 ?_
  refine r_iadd F dJ6_bitCount_0f7a4_22 ?_
  refine r_bi (fun x23 => ?_)
  refine r_istore_n (ls' := [(0, .int x23)]) F dJ6_bitCount_0f7a4_23 rfl (by decide) rfl ?_
  refine r_iload_n F 0 dJ6_bitCount_0f7a4_24 rfl rfl ?_
  refine r_iload_n F 0 dJ6_bitCount_0f7a4_25 rfl rfl ?_
  refine r_iconst F dJ6_bitCount_0f7a4_26 (v := 4) (by decide) ?_
  refine r_iushr F dJ6_bitCount_0f7a4_27 ?_
  refine r_iadd F dJ6_bitCount_0f7a4_28 ?_
  refine r_ldcw F dJ6_bitCount_0f7a4_29 kc_J6_267 ?_
  refine r_iand F dJ6_bitCount_0f7a4_32 ?_
  refine r_bi (fun x33 => ?_)
  refine r_istore_n (ls' := [(0, .int x33)]) F dJ6_bitCount_0f7a4_33 rfl (by decide) rfl ?_
  refine r_iload_n F 0 dJ6_bitCount_0f7a4_34 rfl rfl ?_
  refine r_iload_n F 0 dJ6_bitCount_0f7a4_35 rfl rfl ?_
  refine r_bipush F dJ6_bitCount_0f7a4_36 (v := 8) (by decide) ?_
  refine r_iushr F dJ6_bitCount_0f7a4_38 ?_
  refine r_iadd F dJ6_bitCount_0f7a4_39 ?_
  refine r_bi (fun x40 => ?_)
  refine r_istore_n (ls' := [(0, .int x40)]) F dJ6_bitCount_0f7a4_40 rfl (by decide) rfl ?_
  refine r_iload_n F 0 dJ6_bitCount_0f7a4_41 rfl rfl ?_
  refine r_iload_n F 0 dJ6_bitCount_0f7a4_42 rfl rfl ?_
  refine r_bipush F dJ6_bitCount_0f7a4_43 (v := 16) (by decide) ?_
  refine r_iushr F dJ6_bitCount_0f7a4_45 ?_
  refine r_iadd F dJ6_bitCount_0f7a4_46 ?_
  refine r_bi (fun x47 => ?_)
  refine r_istore_n (ls' := [(0, .int x47)]) F dJ6_bitCount_0f7a4_47 rfl (by decide) rfl ?_
  refine r_iload_n F 0 dJ6_bitCount_0f7a4_48 rfl rfl ?_
  refine r_bipush F dJ6_bitCount_0f7a4_49 (v := 63) (by decide) ?_
  refine r_iand F dJ6_bitCount_0f7a4_51 ?_
  exact r_iret F rfl dJ6_bitCount_0f7a4_52 rfl

set_option maxRecDepth 100000 in
set_option maxHeartbeats 4000000 in
theorem c_J6_bitCount_0f7a4 {l : Launch} {G : GM} (hl : l.stackTraces = false) (hG : GG G) (a0 : Int32) (M : Mem) : ∀ r, f_J6_bitCount_0f7a4 a0 M = some r → Ctr l G yJ6_bitCount_0f7a4 (.code yJ6_bitCount_0f7a4 cJ6_bitCount_0f7a4 1 (some .int) :: wsA) 6 [.int a0] M (emI r) :=
  ctr_of (by decide) hl hG (Nat.le_of_ble_eq_true rfl) (fun p e s m args below meth c F => b_J6_bitCount_0f7a4 F a0 M)

-- ===== L_low DrumTownsLaw.low(II)I =====
theorem ys_L_low : yS yL_low cL_low 2 (some .int) 2 := ⟨sc_L_low, ini_L, cd_L_low, ⟨by decide, by decide, by decide +kernel⟩, by decide⟩

def f_L_low (a0 : Int32) (a1 : Int32) (M : Mem) : Option (Int32 × Mem) := chk (!decide (a1 = 0)) <| some (((a0 &&& (2147483647 : Int32)) - (a0 &&& (2147483647 : Int32)) / a1 * a1), M)

set_option maxRecDepth 100000 in
set_option maxHeartbeats 4000000 in
theorem b_L_low {G : GM} {p : Program} {l : Launch} {e : Env} {s : State} {m : MethodId} {args : Array Value} {below : List Frame} {meth : Method} {c : Code} (F : Fx G p l s m args meth c cL_low RL 2 (some .int)) (a0 : Int32) (a1 : Int32) (M : Mem) : Rf G p l e s m args below meth c 6 2 emI (f_L_low a0 a1 M) 0 [(0, .int a0), (1, .int a1)] [] M := by
  unfold f_L_low
  refine r_iload_n F 0 dL_low_0 rfl rfl ?_
  refine r_ldc F dL_low_1 kc_L_7 ?_
  refine r_iand F dL_low_3 ?_
  refine r_iload_n F 1 dL_low_4 rfl rfl ?_
  refine r_chk (fun h1 => ?_)
  refine r_irem F dL_low_5 (by simpa using h1) ?_
  exact r_iret F rfl dL_low_6 rfl

set_option maxRecDepth 100000 in
set_option maxHeartbeats 4000000 in
theorem c_L_low {l : Launch} {G : GM} (hl : l.stackTraces = false) (hG : GG G) (a0 : Int32) (a1 : Int32) (M : Mem) : ∀ r, f_L_low a0 a1 M = some r → Ctr l G yL_low (.code yL_low cL_low 2 (some .int) :: wsA) 6 [.int a0, .int a1] M (emI r) :=
  ctr_of (by decide) hl hG (Nat.le_of_ble_eq_true rfl) (fun p e s m args below meth c F => b_L_low F a0 a1 M)

-- ===== X6_checkTown DrumTowns.checkTown(I)V =====
theorem yv_X6_checkTown : yV yX6_checkTown cX6_checkTown 2 none 1 := ⟨im_X6_checkTown, sl_X6_checkTown, ini_X6, cd_X6_checkTown, ⟨by decide, by decide, by decide +kernel⟩, by decide⟩

def f_X6_checkTown_15  (M : Mem) : Option ((Unit ⊕ String) × Mem) := some (.inr exI, M)

set_option maxRecDepth 100000 in
set_option maxHeartbeats 4000000 in
theorem l_X6_checkTown_15 {G : GM} {p : Program} {l : Launch} {e : Env} {s : State} {m : MethodId} {args : Array Value} {below : List Frame} {meth : Method} {c : Code} (F : Fx G p l s m args meth c cX6_checkTown RX6 2 none)  (M : Mem) : Rf G p l e s m args below meth c 6 2 (emT vU) (f_X6_checkTown_15   M) 15 [] [] M := by
  unfold f_X6_checkTown_15
  exact r_throwW F atI cl_X6_355 ini_IndexOutOfBoundsException (by decide : (357, "there is no such town") ∈ strW) dX6_checkTown_15 dX6_checkTown_18 dX6_checkTown_19 dX6_checkTown_22 dX6_checkTown_25 (by decide) (Nat.le_of_ble_eq_true rfl)

def f_X6_checkTown (a1 : Int32) (M : Mem) : Option ((Unit ⊕ String) × Mem) := if a1 < 0 then (f_X6_checkTown_15   M) else (if a1 < (M.1 34 1) then (some (.inl (), M)) else (f_X6_checkTown_15   M))

set_option maxRecDepth 100000 in
set_option maxHeartbeats 4000000 in
theorem b_X6_checkTown {G : GM} {p : Program} {l : Launch} {e : Env} {s : State} {m : MethodId} {args : Array Value} {below : List Frame} {meth : Method} {c : Code} (F : Fx G p l s m args meth c cX6_checkTown RX6 2 none) (a1 : Int32) (M : Mem) : Rf G p l e s m args below meth c 6 2 (emT vU) (f_X6_checkTown a1 M) 0 [(0, .ref (gA G 0)), (1, .int a1)] [] M := by
  unfold f_X6_checkTown
  refine r_iload_n F 1 dX6_checkTown_0 rfl rfl ?_
  refine r_if_lt (tgt := 15) F dX6_checkTown_1 (by decide) (fun c1 => ?_) (fun c1 => ?_)
  · refine r_sub [] rfl ?_
    exact l_X6_checkTown_15 F    M
  · refine r_iload_n F 1 dX6_checkTown_4 rfl rfl ?_
    refine r_aload_n F 0 dX6_checkTown_5 rfl rfl ?_
    refine gf_X6_10 F dX6_checkTown_6 (rfl : kd 0 = 0) ?_
    refine gf_X6_59 F dX6_checkTown_9 (rfl : kd 34 = 1) ?_
    refine r_icmp_lt (tgt := 26) F dX6_checkTown_12 (by decide) (fun c2 => ?_) (fun c2 => ?_)
    · exact r_vret F rfl dX6_checkTown_26 rfl
    · refine r_sub [] rfl ?_
      exact l_X6_checkTown_15 F    M

set_option maxRecDepth 100000 in
set_option maxHeartbeats 4000000 in
theorem c_X6_checkTown {l : Launch} {G : GM} (hl : l.stackTraces = false) (hG : GG G) (a1 : Int32) (M : Mem) : ∀ r, f_X6_checkTown a1 M = some r → Ctr l G yX6_checkTown (.code yX6_checkTown cX6_checkTown 2 none :: wsA) 6 [.ref (gA G 0), .int a1] M ((emT vU) r) :=
  ctr_of (by decide) hl hG (Nat.le_of_ble_eq_true rfl) (fun p e s m args below meth c F => b_X6_checkTown F a1 M)

-- ===== X6_sharedBy DrumTowns.sharedBy([I[I)I =====
theorem ys_X6_sharedBy : yS yX6_sharedBy cX6_sharedBy 4 (some .int) 2 := ⟨sc_X6_sharedBy, ini_X6, cd_X6_sharedBy, ⟨by decide, by decide, by decide +kernel⟩, by decide⟩

def f_X6_sharedBy_4 : Nat → Nat → Nat → Int32 → Int32 → Mem → Option (Int32 × Mem)
  | 0, _, _, _, _, _ => none
  | n + 1, y0, y1, y2, y3, M => if (24 : Int32) ≤ y3 then (some (y2, M)) else (chk (kb y0 8) <| chk (inb y3 (al y0)) <| chk (kb y1 8) <| chk (inb y3 (al y1)) <| bn (f_J6_bitCount_0f7a4 ((M.1 y0 y3.toNatClampNeg) &&& (M.1 y1 y3.toNatClampNeg)) M) fun r18 M18 => bnd (y2 + r18) fun x22 => bnd (y3 + (1 : Int32)) fun x23 => f_X6_sharedBy_4  n y0 y1 x22 x23 M18)

set_option maxRecDepth 100000 in
set_option maxHeartbeats 4000000 in
theorem l_X6_sharedBy_4 {G : GM} {p : Program} {l : Launch} {e : Env} {s : State} {m : MethodId} {args : Array Value} {below : List Frame} {meth : Method} {c : Code} (F : Fx G p l s m args meth c cX6_sharedBy RX6 4 (some .int)) : ∀ (n : Nat) (y0 : Nat) (y1 : Nat) (y2 : Int32) (y3 : Int32) (M : Mem), Rf G p l e s m args below meth c 7 4 emI (f_X6_sharedBy_4  n y0 y1 y2 y3 M) 4 [(0, .ref (gA G y0)), (1, .ref (gA G y1)), (2, .int y2), (3, .int y3)] [] M := by
  intro n
  induction n with
  | zero => intros; exact r_none
  | succ n ih =>
    intro y0 y1 y2 y3 M
    rw [f_X6_sharedBy_4]
    refine r_iload_n F 3 dX6_sharedBy_4 rfl rfl ?_
    refine r_bipush F dX6_sharedBy_5 (v := 24) (by decide) ?_
    refine r_icmp_ge (tgt := 29) F dX6_sharedBy_7 (by decide) (fun c1 => ?_) (fun c1 => ?_)
    · refine r_iload_n F 2 dX6_sharedBy_29 rfl rfl ?_
      exact r_iret F rfl dX6_sharedBy_30 rfl
    · refine r_iload_n F 2 dX6_sharedBy_10 rfl rfl ?_
      refine r_aload_n F 0 dX6_sharedBy_11 rfl rfl ?_
      refine r_iload_n F 3 dX6_sharedBy_12 rfl rfl ?_
      refine r_chk (fun h2 => ?_)
      refine r_chk (fun h3 => ?_)
      refine r_iald F dX6_sharedBy_13 (kb_k h2) rfl h3 ?_
      refine r_aload_n F 1 dX6_sharedBy_14 rfl rfl ?_
      refine r_iload_n F 3 dX6_sharedBy_15 rfl rfl ?_
      refine r_chk (fun h4 => ?_)
      refine r_chk (fun h5 => ?_)
      refine r_iald F dX6_sharedBy_16 (kb_k h4) rfl h5 ?_
      refine r_iand F dX6_sharedBy_17 ?_
      refine r_cS (val := vI) (As := [.int ((M.1 y0 y3.toNatClampNeg) &&& (M.1 y1 y3.toNatClampNeg))]) (rest := [.int y2]) (fun q9 => .int q9 :: [.int y2]) F (c_J6_bitCount_0f7a4 F.st F.gg ((M.1 y0 y3.toNatClampNeg) &&& (M.1 y1 y3.toNatClampNeg)) M) (fun _ _ => rfl) dX6_sharedBy_18 ml_X6_386 ys_J6_bitCount_0f7a4 rfl (by decide) rfl (Nat.le_of_ble_eq_true rfl) (fun _ => rfl) (fun r18 M18 => ?_)
      refine r_iadd F dX6_sharedBy_21 ?_
      refine r_bi (fun x22 => ?_)
      refine r_istore_n (ls' := [(2, .int x22), (0, .ref (gA G y0)), (1, .ref (gA G y1)), (3, .int y3)]) F dX6_sharedBy_22 rfl (by decide) rfl ?_
      refine r_iinc (ls' := fun q9 => [(3, .int q9), (2, .int x22), (0, .ref (gA G y0)), (1, .ref (gA G y1))]) (k := 3) (v := y3 + (1 : Int32)) F dX6_sharedBy_23 rfl rfl (by decide) (fun _ => rfl) (fun x23 => ?_)
      refine r_goto (tgt := 4) F dX6_sharedBy_26 (by decide) ?_
      refine r_sub [2, 3, 1, 0] rfl ?_
      exact ih y0 y1 x22 x23 M18

def f_X6_sharedBy (a0 : Nat) (a1 : Nat) (M : Mem) : Option (Int32 × Mem) := f_X6_sharedBy_4  FU a0 a1 (0 : Int32) (0 : Int32) M

set_option maxRecDepth 100000 in
set_option maxHeartbeats 4000000 in
theorem b_X6_sharedBy {G : GM} {p : Program} {l : Launch} {e : Env} {s : State} {m : MethodId} {args : Array Value} {below : List Frame} {meth : Method} {c : Code} (F : Fx G p l s m args meth c cX6_sharedBy RX6 4 (some .int)) (a0 : Nat) (a1 : Nat) (M : Mem) : Rf G p l e s m args below meth c 7 4 emI (f_X6_sharedBy a0 a1 M) 0 [(0, .ref (gA G a0)), (1, .ref (gA G a1))] [] M := by
  unfold f_X6_sharedBy
  refine r_iconst F dX6_sharedBy_0 (v := 0) (by decide) ?_
  refine r_istore_n (ls' := [(2, .int (0 : Int32)), (0, .ref (gA G a0)), (1, .ref (gA G a1))]) F dX6_sharedBy_1 rfl (by decide) rfl ?_
  refine r_iconst F dX6_sharedBy_2 (v := 0) (by decide) ?_
  refine r_istore_n (ls' := [(3, .int (0 : Int32)), (2, .int (0 : Int32)), (0, .ref (gA G a0)), (1, .ref (gA G a1))]) F dX6_sharedBy_3 rfl (by decide) rfl ?_
  refine r_sub [2, 3, 1, 0] rfl ?_
  exact l_X6_sharedBy_4 F   FU a0 a1 (0 : Int32) (0 : Int32) M

set_option maxRecDepth 100000 in
set_option maxHeartbeats 4000000 in
theorem c_X6_sharedBy {l : Launch} {G : GM} (hl : l.stackTraces = false) (hG : GG G) (a0 : Nat) (a1 : Nat) (M : Mem) : ∀ r, f_X6_sharedBy a0 a1 M = some r → Ctr l G yX6_sharedBy (.code yX6_sharedBy cX6_sharedBy 4 (some .int) :: wsA) 7 [.ref (gA G a0), .ref (gA G a1)] M (emI r) :=
  ctr_of (by decide) hl hG (Nat.le_of_ble_eq_true rfl) (fun p e s m args below meth c F => b_X6_sharedBy F a0 a1 M)

-- ===== X6_bestDrum DrumTowns.bestDrum(I)I =====
theorem yv_X6_bestDrum : yV yX6_bestDrum cX6_bestDrum 6 (some .int) 1 := ⟨im_X6_bestDrum, sl_X6_bestDrum, ini_X6, cd_X6_bestDrum, ⟨by decide, by decide, by decide +kernel⟩, by decide⟩

def f_X6_bestDrum_72 (k12 : Int32 → Int32 → Int32 → Int32 → Mem → Option ((Int32 ⊕ String) × Mem)) (y1 : Int32) (y2 : Int32) (y3 : Int32) (y4 : Int32) (M : Mem) : Option ((Int32 ⊕ String) × Mem) := bnd (y4 + (1 : Int32)) fun x72 => k12 y1 y2 y3 x72 M

set_option maxRecDepth 100000 in
set_option maxHeartbeats 4000000 in
theorem l_X6_bestDrum_72 {G : GM} {p : Program} {l : Launch} {e : Env} {s : State} {m : MethodId} {args : Array Value} {below : List Frame} {meth : Method} {c : Code} (F : Fx G p l s m args meth c cX6_bestDrum RX6 6 (some .int)) (k12 : Int32 → Int32 → Int32 → Int32 → Mem → Option ((Int32 ⊕ String) × Mem)) (H12 : ∀ (y1 : Int32) (y2 : Int32) (y3 : Int32) (y4 : Int32) (M : Mem), Rf G p l e s m args below meth c 8 6 (emT vI) (k12 y1 y2 y3 y4 M) 12 [(0, .ref (gA G 0)), (1, .int y1), (2, .int y2), (3, .int y3), (4, .int y4)] [] M) (y1 : Int32) (y2 : Int32) (y3 : Int32) (y4 : Int32) (M : Mem) : Rf G p l e s m args below meth c 8 6 (emT vI) (f_X6_bestDrum_72 k12 y1 y2 y3 y4 M) 72 [(0, .ref (gA G 0)), (1, .int y1), (2, .int y2), (3, .int y3), (4, .int y4)] [] M := by
  unfold f_X6_bestDrum_72
  refine r_iinc (ls' := fun q9 => [(4, .int q9), (0, .ref (gA G 0)), (1, .int y1), (2, .int y2), (3, .int y3)]) (k := 4) (v := y4 + (1 : Int32)) F dX6_bestDrum_72 rfl rfl (by decide) (fun _ => rfl) (fun x72 => ?_)
  refine r_goto (tgt := 12) F dX6_bestDrum_75 (by decide) ?_
  refine r_sub [1, 2, 3, 4, 0] rfl ?_
  exact H12 y1 y2 y3 x72 M

def f_X6_bestDrum_12 : Nat → Int32 → Int32 → Int32 → Int32 → Mem → Option ((Int32 ⊕ String) × Mem)
  | 0, _, _, _, _, _ => none
  | n + 1, y1, y2, y3, y4, M => if (M.1 34 1) ≤ y4 then (some (.inl y2, M)) else (chk (inb y4 6) <| bnd (tw 35 y4) fun b33 => chk (inb y1 6) <| bnd (tw 35 y1) fun b45 => bn (f_X6_sharedBy (b33 + 1) (b45 + 2) M) fun r49 M49 => if y4 = y1 then (f_X6_bestDrum_72 (f_X6_bestDrum_12  n) y1 y2 y3 y4 M49) else (if r49 ≤ y3 then (f_X6_bestDrum_72 (f_X6_bestDrum_12  n) y1 y2 y3 y4 M49) else (f_X6_bestDrum_72 (f_X6_bestDrum_12  n) y1 y4 r49 y4 M49)))

set_option maxRecDepth 100000 in
set_option maxHeartbeats 4000000 in
theorem l_X6_bestDrum_12 {G : GM} {p : Program} {l : Launch} {e : Env} {s : State} {m : MethodId} {args : Array Value} {below : List Frame} {meth : Method} {c : Code} (F : Fx G p l s m args meth c cX6_bestDrum RX6 6 (some .int)) : ∀ (n : Nat) (y1 : Int32) (y2 : Int32) (y3 : Int32) (y4 : Int32) (M : Mem), Rf G p l e s m args below meth c 8 6 (emT vI) (f_X6_bestDrum_12  n y1 y2 y3 y4 M) 12 [(0, .ref (gA G 0)), (1, .int y1), (2, .int y2), (3, .int y3), (4, .int y4)] [] M := by
  intro n
  induction n with
  | zero => intros; exact r_none
  | succ n ih =>
    intro y1 y2 y3 y4 M
    rw [f_X6_bestDrum_12]
    refine r_iload F 4 dX6_bestDrum_12 rfl ?_
    refine r_aload_n F 0 dX6_bestDrum_14 rfl rfl ?_
    refine gf_X6_10 F dX6_bestDrum_15 (rfl : kd 0 = 0) ?_
    refine gf_X6_59 F dX6_bestDrum_18 (rfl : kd 34 = 1) ?_
    refine r_icmp_ge (tgt := 78) F dX6_bestDrum_21 (by decide) (fun c1 => ?_) (fun c1 => ?_)
    · refine r_iload_n F 2 dX6_bestDrum_78 rfl rfl ?_
      exact r_iret F rfl dX6_bestDrum_79 rfl
    · refine r_aload_n F 0 dX6_bestDrum_24 rfl rfl ?_
      refine gf_X6_10 F dX6_bestDrum_25 (rfl : kd 0 = 0) ?_
      refine gf_X6_76 F dX6_bestDrum_28 (rfl : kd 34 = 1) ?_
      refine r_iload F 4 dX6_bestDrum_31 rfl ?_
      refine r_chk (fun h2 => ?_)
      refine r_aaldT F dX6_bestDrum_33 (rfl : kd 35 = 9) h2 ?_
      refine r_br (kTw' (rfl : kd 35 = 9) h2) (fun b33 k33 => ?_)
      refine gf_X6_109 F dX6_bestDrum_34 k33 ?_
      refine r_aload_n F 0 dX6_bestDrum_37 rfl rfl ?_
      refine gf_X6_10 F dX6_bestDrum_38 (rfl : kd 0 = 0) ?_
      refine gf_X6_76 F dX6_bestDrum_41 (rfl : kd 34 = 1) ?_
      refine r_iload_n F 1 dX6_bestDrum_44 rfl rfl ?_
      refine r_chk (fun h3 => ?_)
      refine r_aaldT F dX6_bestDrum_45 (rfl : kd 35 = 9) h3 ?_
      refine r_br (kTw' (rfl : kd 35 = 9) h3) (fun b45 k45 => ?_)
      refine gf_X6_207 F dX6_bestDrum_46 k45 ?_
      refine r_cS (val := vI) (As := [.ref (gA G (b33 + 1)), .ref (gA G (b45 + 2))]) (rest := []) (fun q9 => .int q9 :: []) F (c_X6_sharedBy F.st F.gg (b33 + 1) (b45 + 2) M) (fun _ _ => rfl) dX6_bestDrum_49 ml_X6_288 ys_X6_sharedBy rfl (by decide) rfl (Nat.le_of_ble_eq_true rfl) (fun _ => rfl) (fun r49 M49 => ?_)
      refine r_istore (ls' := [(5, .int r49), (0, .ref (gA G 0)), (1, .int y1), (2, .int y2), (3, .int y3), (4, .int y4)]) F dX6_bestDrum_52 (by decide) rfl ?_
      refine r_iload F 5 dX6_bestDrum_54 rfl ?_
      refine r_iload_n F 2 dX6_bestDrum_56 rfl rfl ?_
      refine r_icmp_eq (tgt := 72) F dX6_bestDrum_57 (by decide) (fun c4 => ?_) (fun c4 => ?_)
      · refine r_sub [1, 2, 3, 4, 5] rfl ?_
        exact l_X6_bestDrum_72 F (f_X6_bestDrum_12  n) (fun q0 q1 q2 q3 M9 => ih q0 q1 q2 q3 M9) y1 y2 y3 y4 M49
      · refine r_iload F 0 dX6_bestDrum_60 rfl ?_
        refine r_iload_n F 4 dX6_bestDrum_62 rfl rfl ?_
        refine r_icmp_le (tgt := 72) F dX6_bestDrum_63 (by decide) (fun c5 => ?_) (fun c5 => ?_)
        · refine r_sub [1, 2, 3, 4, 5] rfl ?_
          exact l_X6_bestDrum_72 F (f_X6_bestDrum_12  n) (fun q0 q1 q2 q3 M9 => ih q0 q1 q2 q3 M9) y1 y2 y3 y4 M49
        · refine r_iload F 5 dX6_bestDrum_66 rfl ?_
          refine r_istore_n (ls' := [(2, .int y4), (5, .int r49), (0, .ref (gA G 0)), (1, .int y1), (3, .int y3), (4, .int y4)]) F dX6_bestDrum_68 rfl (by decide) rfl ?_
          refine r_iload F 1 dX6_bestDrum_69 rfl ?_
          refine r_istore_n (ls' := [(3, .int r49), (2, .int y4), (5, .int r49), (0, .ref (gA G 0)), (1, .int y1), (4, .int y4)]) F dX6_bestDrum_71 rfl (by decide) rfl ?_
          refine r_sub [3, 4, 1, 0, 5] rfl ?_
          exact l_X6_bestDrum_72 F (f_X6_bestDrum_12  n) (fun q0 q1 q2 q3 M9 => ih q0 q1 q2 q3 M9) y1 y4 r49 y4 M49

def f_X6_bestDrum (a1 : Int32) (M : Mem) : Option ((Int32 ⊕ String) × Mem) := bt (f_X6_checkTown a1 M) fun _ M2 => f_X6_bestDrum_12  FU a1 (-1 : Int32) (-1 : Int32) (0 : Int32) M2

set_option maxRecDepth 100000 in
set_option maxHeartbeats 4000000 in
theorem b_X6_bestDrum {G : GM} {p : Program} {l : Launch} {e : Env} {s : State} {m : MethodId} {args : Array Value} {below : List Frame} {meth : Method} {c : Code} (F : Fx G p l s m args meth c cX6_bestDrum RX6 6 (some .int)) (a1 : Int32) (M : Mem) : Rf G p l e s m args below meth c 8 6 (emT vI) (f_X6_bestDrum a1 M) 0 [(0, .ref (gA G 0)), (1, .int a1)] [] M := by
  unfold f_X6_bestDrum
  refine r_aload_n F 0 dX6_bestDrum_0 rfl rfl ?_
  refine r_iload_n F 1 dX6_bestDrum_1 rfl rfl ?_
  refine r_tV (val := vU) (As := [.int a1]) (rest := []) (fun _ => []) F (c_X6_checkTown F.st F.gg a1 M) dX6_bestDrum_2 ml_X6_120 yv_X6_checkTown (rfl : kd 0 = 0) (by decide) rfl rfl (by decide) rfl (Nat.le_of_ble_eq_true rfl) (fun _ => rfl) (fun _ M2 => ?_)
  refine r_iconst F dX6_bestDrum_5 (v := -1) (by decide) ?_
  refine r_istore_n (ls' := [(2, .int (-1 : Int32)), (0, .ref (gA G 0)), (1, .int a1)]) F dX6_bestDrum_6 rfl (by decide) rfl ?_
  refine r_iconst F dX6_bestDrum_7 (v := -1) (by decide) ?_
  refine r_istore_n (ls' := [(3, .int (-1 : Int32)), (2, .int (-1 : Int32)), (0, .ref (gA G 0)), (1, .int a1)]) F dX6_bestDrum_8 rfl (by decide) rfl ?_
  refine r_iconst F dX6_bestDrum_9 (v := 0) (by decide) ?_
  refine r_istore (ls' := [(4, .int (0 : Int32)), (3, .int (-1 : Int32)), (2, .int (-1 : Int32)), (0, .ref (gA G 0)), (1, .int a1)]) F dX6_bestDrum_10 (by decide) rfl ?_
  refine r_sub [3, 4, 2, 1, 0] rfl ?_
  exact l_X6_bestDrum_12 F   FU a1 (-1 : Int32) (-1 : Int32) (0 : Int32) M2

set_option maxRecDepth 100000 in
set_option maxHeartbeats 4000000 in
theorem c_X6_bestDrum {l : Launch} {G : GM} (hl : l.stackTraces = false) (hG : GG G) (a1 : Int32) (M : Mem) : ∀ r, f_X6_bestDrum a1 M = some r → Ctr l G yX6_bestDrum (.code yX6_bestDrum cX6_bestDrum 6 (some .int) :: wsA) 8 [.ref (gA G 0), .int a1] M ((emT vI) r) :=
  ctr_of (by decide) hl hG (Nat.le_of_ble_eq_true rfl) (fun p e s m args below meth c F => b_X6_bestDrum F a1 M)

-- ===== X3_rightIfTurned DrumTowns$Town.rightIfTurned(I)I =====
theorem yv_X3_rightIfTurned : yV yX3_rightIfTurned cX3_rightIfTurned 4 (some .int) 1 := ⟨im_X3_rightIfTurned, sl_X3_rightIfTurned, ini_X3, cd_X3_rightIfTurned, ⟨by decide, by decide, by decide +kernel⟩, by decide⟩

def f_X3_rightIfTurned_4 : Nat → Nat → Int32 → Int32 → Int32 → Mem → Option (Int32 × Mem)
  | 0, _, _, _, _, _ => none
  | n + 1, y0, y1, y2, y3, M => if (24 : Int32) ≤ y3 then (some (y2, M)) else (chk (kb y0 2) <| chk (inb y3 24) <| chk (inb ((y3 + y1) - (y3 + y1) / (24 : Int32) * (24 : Int32)) 24) <| bn (f_J6_bitCount_0f7a4 ((M.1 (y0 + 1) y3.toNatClampNeg) &&& (M.1 (y0 + 2) ((y3 + y1) - (y3 + y1) / (24 : Int32) * (24 : Int32)).toNatClampNeg)) M) fun r29 M29 => bnd (y2 + r29) fun x33 => bnd (y3 + (1 : Int32)) fun x34 => f_X3_rightIfTurned_4  n y0 y1 x33 x34 M29)

set_option maxRecDepth 100000 in
set_option maxHeartbeats 4000000 in
theorem l_X3_rightIfTurned_4 {G : GM} {p : Program} {l : Launch} {e : Env} {s : State} {m : MethodId} {args : Array Value} {below : List Frame} {meth : Method} {c : Code} (F : Fx G p l s m args meth c cX3_rightIfTurned RX3 4 (some .int)) : ∀ (n : Nat) (y0 : Nat) (y1 : Int32) (y2 : Int32) (y3 : Int32) (M : Mem), Rf G p l e s m args below meth c 7 4 emI (f_X3_rightIfTurned_4  n y0 y1 y2 y3 M) 4 [(0, .ref (gA G y0)), (1, .int y1), (2, .int y2), (3, .int y3)] [] M := by
  intro n
  induction n with
  | zero => intros; exact r_none
  | succ n ih =>
    intro y0 y1 y2 y3 M
    rw [f_X3_rightIfTurned_4]
    refine r_iload_n F 3 dX3_rightIfTurned_4 rfl rfl ?_
    refine r_bipush F dX3_rightIfTurned_5 (v := 24) (by decide) ?_
    refine r_icmp_ge (tgt := 40) F dX3_rightIfTurned_7 (by decide) (fun c1 => ?_) (fun c1 => ?_)
    · refine r_iload_n F 2 dX3_rightIfTurned_40 rfl rfl ?_
      exact r_iret F rfl dX3_rightIfTurned_41 rfl
    · refine r_iload_n F 2 dX3_rightIfTurned_10 rfl rfl ?_
      refine r_aload_n F 0 dX3_rightIfTurned_11 rfl rfl ?_
      refine r_chk (fun h2 => ?_)
      refine gf_X3_9 F dX3_rightIfTurned_12 (kb_k h2) ?_
      refine r_iload_n F 3 dX3_rightIfTurned_15 rfl rfl ?_
      refine r_chk (fun h3 => ?_)
      refine r_iald F dX3_rightIfTurned_16 (kTd (kb_k h2)) (aTd (kb_k h2)) h3 ?_
      refine r_aload_n F 0 dX3_rightIfTurned_17 rfl rfl ?_
      refine gf_X3_15 F dX3_rightIfTurned_18 (kb_k h2) ?_
      refine r_iload_n F 3 dX3_rightIfTurned_21 rfl rfl ?_
      refine r_iload_n F 1 dX3_rightIfTurned_22 rfl rfl ?_
      refine r_iadd F dX3_rightIfTurned_23 ?_
      refine r_bipush F dX3_rightIfTurned_24 (v := 24) (by decide) ?_
      refine r_irem F dX3_rightIfTurned_26 (by decide) ?_
      refine r_chk (fun h4 => ?_)
      refine r_iald F dX3_rightIfTurned_27 (kTt (kb_k h2)) (aTt (kb_k h2)) h4 ?_
      refine r_iand F dX3_rightIfTurned_28 ?_
      refine r_cS (val := vI) (As := [.int ((M.1 (y0 + 1) y3.toNatClampNeg) &&& (M.1 (y0 + 2) ((y3 + y1) - (y3 + y1) / (24 : Int32) * (24 : Int32)).toNatClampNeg))]) (rest := [.int y2]) (fun q9 => .int q9 :: [.int y2]) F (c_J6_bitCount_0f7a4 F.st F.gg ((M.1 (y0 + 1) y3.toNatClampNeg) &&& (M.1 (y0 + 2) ((y3 + y1) - (y3 + y1) / (24 : Int32) * (24 : Int32)).toNatClampNeg)) M) (fun _ _ => rfl) dX3_rightIfTurned_29 ml_X3_25 ys_J6_bitCount_0f7a4 rfl (by decide) rfl (Nat.le_of_ble_eq_true rfl) (fun _ => rfl) (fun r29 M29 => ?_)
      refine r_iadd F dX3_rightIfTurned_32 ?_
      refine r_bi (fun x33 => ?_)
      refine r_istore_n (ls' := [(2, .int x33), (0, .ref (gA G y0)), (1, .int y1), (3, .int y3)]) F dX3_rightIfTurned_33 rfl (by decide) rfl ?_
      refine r_iinc (ls' := fun q9 => [(3, .int q9), (2, .int x33), (0, .ref (gA G y0)), (1, .int y1)]) (k := 3) (v := y3 + (1 : Int32)) F dX3_rightIfTurned_34 rfl rfl (by decide) (fun _ => rfl) (fun x34 => ?_)
      refine r_goto (tgt := 4) F dX3_rightIfTurned_37 (by decide) ?_
      refine r_sub [2, 3, 1, 0] rfl ?_
      exact ih y0 y1 x33 x34 M29

def f_X3_rightIfTurned (a0 : Nat) (a1 : Int32) (M : Mem) : Option (Int32 × Mem) := f_X3_rightIfTurned_4  FU a0 a1 (0 : Int32) (0 : Int32) M

set_option maxRecDepth 100000 in
set_option maxHeartbeats 4000000 in
theorem b_X3_rightIfTurned {G : GM} {p : Program} {l : Launch} {e : Env} {s : State} {m : MethodId} {args : Array Value} {below : List Frame} {meth : Method} {c : Code} (F : Fx G p l s m args meth c cX3_rightIfTurned RX3 4 (some .int)) (a0 : Nat) (a1 : Int32) (M : Mem) : Rf G p l e s m args below meth c 7 4 emI (f_X3_rightIfTurned a0 a1 M) 0 [(0, .ref (gA G a0)), (1, .int a1)] [] M := by
  unfold f_X3_rightIfTurned
  refine r_iconst F dX3_rightIfTurned_0 (v := 0) (by decide) ?_
  refine r_istore_n (ls' := [(2, .int (0 : Int32)), (0, .ref (gA G a0)), (1, .int a1)]) F dX3_rightIfTurned_1 rfl (by decide) rfl ?_
  refine r_iconst F dX3_rightIfTurned_2 (v := 0) (by decide) ?_
  refine r_istore_n (ls' := [(3, .int (0 : Int32)), (2, .int (0 : Int32)), (0, .ref (gA G a0)), (1, .int a1)]) F dX3_rightIfTurned_3 rfl (by decide) rfl ?_
  refine r_sub [2, 3, 1, 0] rfl ?_
  exact l_X3_rightIfTurned_4 F   FU a0 a1 (0 : Int32) (0 : Int32) M

set_option maxRecDepth 100000 in
set_option maxHeartbeats 4000000 in
theorem c_X3_rightIfTurned {l : Launch} {G : GM} (hl : l.stackTraces = false) (hG : GG G) (a0 : Nat) (a1 : Int32) (M : Mem) : ∀ r, f_X3_rightIfTurned a0 a1 M = some r → Ctr l G yX3_rightIfTurned (.code yX3_rightIfTurned cX3_rightIfTurned 4 (some .int) :: wsA) 7 [.ref (gA G a0), .int a1] M (emI r) :=
  ctr_of (by decide) hl hG (Nat.le_of_ble_eq_true rfl) (fun p e s m args below meth c F => b_X3_rightIfTurned F a0 a1 M)

-- ===== X3_rightPins DrumTowns$Town.rightPins()I =====
theorem yv_X3_rightPins : yV yX3_rightPins cX3_rightPins 1 (some .int) 0 := ⟨im_X3_rightPins, sl_X3_rightPins, ini_X3, cd_X3_rightPins, ⟨by decide, by decide, by decide +kernel⟩, by decide⟩

def f_X3_rightPins (a0 : Nat) (M : Mem) : Option (Int32 × Mem) := chk (kb a0 2) <| bn (f_X6_sharedBy (a0 + 1) (a0 + 2) M) fun r8 M8 => some (r8, M8)

set_option maxRecDepth 100000 in
set_option maxHeartbeats 4000000 in
theorem b_X3_rightPins {G : GM} {p : Program} {l : Launch} {e : Env} {s : State} {m : MethodId} {args : Array Value} {below : List Frame} {meth : Method} {c : Code} (F : Fx G p l s m args meth c cX3_rightPins RX3 1 (some .int)) (a0 : Nat) (M : Mem) : Rf G p l e s m args below meth c 8 1 emI (f_X3_rightPins a0 M) 0 [(0, .ref (gA G a0))] [] M := by
  unfold f_X3_rightPins
  refine r_aload_n F 0 dX3_rightPins_0 rfl rfl ?_
  refine r_chk (fun h1 => ?_)
  refine gf_X3_9 F dX3_rightPins_1 (kb_k h1) ?_
  refine r_aload_n F 0 dX3_rightPins_4 rfl rfl ?_
  refine gf_X3_15 F dX3_rightPins_5 (kb_k h1) ?_
  refine r_cSN (val := vI) (As := [.ref (gA G (a0 + 1)), .ref (gA G (a0 + 2))]) (rest := []) (fun q9 => .int q9 :: []) F (c_X6_sharedBy F.st F.gg (a0 + 1) (a0 + 2) M) (fun _ _ => rfl) dX3_rightPins_8 mn_X3_21 ys_X6_sharedBy rfl (by decide) rfl (Nat.le_of_ble_eq_true rfl) (fun _ => rfl) (fun r8 M8 => ?_)
  exact r_iret F rfl dX3_rightPins_11 rfl

set_option maxRecDepth 100000 in
set_option maxHeartbeats 4000000 in
theorem c_X3_rightPins {l : Launch} {G : GM} (hl : l.stackTraces = false) (hG : GG G) (a0 : Nat) (M : Mem) : ∀ r, f_X3_rightPins a0 M = some r → Ctr l G yX3_rightPins (.code yX3_rightPins cX3_rightPins 1 (some .int) :: wsA) 8 [.ref (gA G a0)] M (emI r) :=
  ctr_of (by decide) hl hG (Nat.le_of_ble_eq_true rfl) (fun p e s m args below meth c F => b_X3_rightPins F a0 M)

-- ===== X6_bestTurn DrumTowns.bestTurn(II)I =====
theorem yv_X6_bestTurn : yV yX6_bestTurn cX6_bestTurn 7 (some .int) 2 := ⟨im_X6_bestTurn, sl_X6_bestTurn, ini_X6, cd_X6_bestTurn, ⟨by decide, by decide, by decide +kernel⟩, by decide⟩

def f_X6_bestTurn_81 (k44 : Int32 → Int32 → Int32 → Int32 → Int32 → Mem → Option ((Int32 ⊕ String) × Mem)) (y1 : Int32) (y2 : Int32) (y3 : Int32) (y4 : Int32) (y5 : Int32) (M : Mem) : Option ((Int32 ⊕ String) × Mem) := bnd (y5 + (1 : Int32)) fun x81 => k44 y1 y2 y3 y4 x81 M

set_option maxRecDepth 100000 in
set_option maxHeartbeats 4000000 in
theorem l_X6_bestTurn_81 {G : GM} {p : Program} {l : Launch} {e : Env} {s : State} {m : MethodId} {args : Array Value} {below : List Frame} {meth : Method} {c : Code} (F : Fx G p l s m args meth c cX6_bestTurn RX6 7 (some .int)) (k44 : Int32 → Int32 → Int32 → Int32 → Int32 → Mem → Option ((Int32 ⊕ String) × Mem)) (H44 : ∀ (y1 : Int32) (y2 : Int32) (y3 : Int32) (y4 : Int32) (y5 : Int32) (M : Mem), Rf G p l e s m args below meth c 9 7 (emT vI) (k44 y1 y2 y3 y4 y5 M) 44 [(0, .ref (gA G 0)), (1, .int y1), (2, .int y2), (3, .int y3), (4, .int y4), (5, .int y5)] [] M) (y1 : Int32) (y2 : Int32) (y3 : Int32) (y4 : Int32) (y5 : Int32) (M : Mem) : Rf G p l e s m args below meth c 9 7 (emT vI) (f_X6_bestTurn_81 k44 y1 y2 y3 y4 y5 M) 81 [(0, .ref (gA G 0)), (1, .int y1), (2, .int y2), (3, .int y3), (4, .int y4), (5, .int y5)] [] M := by
  unfold f_X6_bestTurn_81
  refine r_iinc (ls' := fun q9 => [(5, .int q9), (0, .ref (gA G 0)), (1, .int y1), (2, .int y2), (3, .int y3), (4, .int y4)]) (k := 5) (v := y5 + (1 : Int32)) F dX6_bestTurn_81 rfl rfl (by decide) (fun _ => rfl) (fun x81 => ?_)
  refine r_goto (tgt := 44) F dX6_bestTurn_84 (by decide) ?_
  refine r_sub [1, 2, 3, 4, 5, 0] rfl ?_
  exact H44 y1 y2 y3 y4 x81 M

def f_X6_bestTurn_97 (z0 : Int32) (M : Mem) : Option ((Int32 ⊕ String) × Mem) := some (.inl z0, M)

set_option maxRecDepth 100000 in
set_option maxHeartbeats 4000000 in
theorem l_X6_bestTurn_97 {G : GM} {p : Program} {l : Launch} {e : Env} {s : State} {m : MethodId} {args : Array Value} {below : List Frame} {meth : Method} {c : Code} (F : Fx G p l s m args meth c cX6_bestTurn RX6 7 (some .int)) (z0 : Int32) (M : Mem) : Rf G p l e s m args below meth c 9 7 (emT vI) (f_X6_bestTurn_97  z0 M) 97 [] [.int z0] M := by
  unfold f_X6_bestTurn_97
  exact r_iret F rfl dX6_bestTurn_97 rfl

def f_X6_bestTurn_44 : Nat → Int32 → Int32 → Int32 → Int32 → Int32 → Mem → Option ((Int32 ⊕ String) × Mem)
  | 0, _, _, _, _, _, _ => none
  | n + 1, y1, y2, y3, y4, y5, M => if (24 : Int32) ≤ y5 then (if y2 = 0 then (f_X6_bestTurn_97  y3 M) else (f_X6_bestTurn_97  y4 M)) else (chk (inb y1 6) <| bnd (tw 35 y1) fun b59 => bn (f_X3_rightIfTurned b59 y5 M) fun r62 M62 => if r62 ≤ y4 then (f_X6_bestTurn_81 (f_X6_bestTurn_44  n) y1 y2 y3 y4 y5 M62) else (f_X6_bestTurn_81 (f_X6_bestTurn_44  n) y1 y2 y5 r62 y5 M62))

set_option maxRecDepth 100000 in
set_option maxHeartbeats 4000000 in
theorem l_X6_bestTurn_44 {G : GM} {p : Program} {l : Launch} {e : Env} {s : State} {m : MethodId} {args : Array Value} {below : List Frame} {meth : Method} {c : Code} (F : Fx G p l s m args meth c cX6_bestTurn RX6 7 (some .int)) : ∀ (n : Nat) (y1 : Int32) (y2 : Int32) (y3 : Int32) (y4 : Int32) (y5 : Int32) (M : Mem), Rf G p l e s m args below meth c 9 7 (emT vI) (f_X6_bestTurn_44  n y1 y2 y3 y4 y5 M) 44 [(0, .ref (gA G 0)), (1, .int y1), (2, .int y2), (3, .int y3), (4, .int y4), (5, .int y5)] [] M := by
  intro n
  induction n with
  | zero => intros; exact r_none
  | succ n ih =>
    intro y1 y2 y3 y4 y5 M
    rw [f_X6_bestTurn_44]
    refine r_iload F 5 dX6_bestTurn_44 rfl ?_
    refine r_bipush F dX6_bestTurn_46 (v := 24) (by decide) ?_
    refine r_icmp_ge (tgt := 87) F dX6_bestTurn_48 (by decide) (fun c1 => ?_) (fun c1 => ?_)
    · refine r_iload_n F 2 dX6_bestTurn_87 rfl rfl ?_
      refine r_if_ne (tgt := 95) F dX6_bestTurn_88 (by decide) (fun c2 => ?_) (fun c2 => ?_)
      · refine r_iload_n F 3 dX6_bestTurn_91 rfl rfl ?_
        refine r_goto (tgt := 97) F dX6_bestTurn_92 (by decide) ?_
        refine r_sub [] rfl ?_
        exact l_X6_bestTurn_97 F   y3 M
      · refine r_iload F 4 dX6_bestTurn_95 rfl ?_
        refine r_sub [] rfl ?_
        exact l_X6_bestTurn_97 F   y4 M
    · refine r_aload_n F 0 dX6_bestTurn_51 rfl rfl ?_
      refine gf_X6_10 F dX6_bestTurn_52 (rfl : kd 0 = 0) ?_
      refine gf_X6_76 F dX6_bestTurn_55 (rfl : kd 34 = 1) ?_
      refine r_iload_n F 1 dX6_bestTurn_58 rfl rfl ?_
      refine r_chk (fun h3 => ?_)
      refine r_aaldT F dX6_bestTurn_59 (rfl : kd 35 = 9) h3 ?_
      refine r_br (kTw' (rfl : kd 35 = 9) h3) (fun b59 k59 => ?_)
      refine r_iload F 5 dX6_bestTurn_60 rfl ?_
      refine r_cVN (val := vI) (As := [.int y5]) (rest := []) (fun q9 => .int q9 :: []) F (c_X3_rightIfTurned F.st F.gg b59 y5 M) (fun _ _ => rfl) dX6_bestTurn_62 mn_X6_285 yv_X3_rightIfTurned k59 (by decide) rfl rfl (by decide) rfl (Nat.le_of_ble_eq_true rfl) (fun _ => rfl) (fun r62 M62 => ?_)
      refine r_istore (ls' := [(6, .int r62), (0, .ref (gA G 0)), (1, .int y1), (2, .int y2), (3, .int y3), (4, .int y4), (5, .int y5)]) F dX6_bestTurn_65 (by decide) rfl ?_
      refine r_iload F 0 dX6_bestTurn_67 rfl ?_
      refine r_iload F 5 dX6_bestTurn_69 rfl ?_
      refine r_icmp_le (tgt := 81) F dX6_bestTurn_71 (by decide) (fun c4 => ?_) (fun c4 => ?_)
      · refine r_sub [1, 2, 3, 4, 5, 6] rfl ?_
        exact l_X6_bestTurn_81 F (f_X6_bestTurn_44  n) (fun q0 q1 q2 q3 q4 M9 => ih q0 q1 q2 q3 q4 M9) y1 y2 y3 y4 y5 M62
      · refine r_iload F 6 dX6_bestTurn_74 rfl ?_
        refine r_istore_n (ls' := [(3, .int y5), (6, .int r62), (0, .ref (gA G 0)), (1, .int y1), (2, .int y2), (4, .int y4), (5, .int y5)]) F dX6_bestTurn_76 rfl (by decide) rfl ?_
        refine r_iload F 1 dX6_bestTurn_77 rfl ?_
        refine r_istore (ls' := [(4, .int r62), (3, .int y5), (6, .int r62), (0, .ref (gA G 0)), (1, .int y1), (2, .int y2), (5, .int y5)]) F dX6_bestTurn_79 (by decide) rfl ?_
        refine r_sub [3, 4, 5, 1, 0, 6] rfl ?_
        exact l_X6_bestTurn_81 F (f_X6_bestTurn_44  n) (fun q0 q1 q2 q3 q4 M9 => ih q0 q1 q2 q3 q4 M9) y1 y2 y5 r62 y5 M62

def f_X6_bestTurn_25 (y1 : Int32) (y2 : Int32) (M : Mem) : Option ((Int32 ⊕ String) × Mem) := chk (inb y1 6) <| bnd (tw 35 y1) fun b35 => bn (f_X3_rightPins b35 M) fun r36 M36 => f_X6_bestTurn_44  FU y1 y2 (0 : Int32) r36 (1 : Int32) M36

set_option maxRecDepth 100000 in
set_option maxHeartbeats 4000000 in
theorem l_X6_bestTurn_25 {G : GM} {p : Program} {l : Launch} {e : Env} {s : State} {m : MethodId} {args : Array Value} {below : List Frame} {meth : Method} {c : Code} (F : Fx G p l s m args meth c cX6_bestTurn RX6 7 (some .int)) (y1 : Int32) (y2 : Int32) (M : Mem) : Rf G p l e s m args below meth c 9 7 (emT vI) (f_X6_bestTurn_25  y1 y2 M) 25 [(0, .ref (gA G 0)), (1, .int y1), (2, .int y2)] [] M := by
  unfold f_X6_bestTurn_25
  refine r_iconst F dX6_bestTurn_25 (v := 0) (by decide) ?_
  refine r_istore_n (ls' := [(3, .int (0 : Int32)), (0, .ref (gA G 0)), (1, .int y1), (2, .int y2)]) F dX6_bestTurn_26 rfl (by decide) rfl ?_
  refine r_aload_n F 1 dX6_bestTurn_27 rfl rfl ?_
  refine gf_X6_10 F dX6_bestTurn_28 (rfl : kd 0 = 0) ?_
  refine gf_X6_76 F dX6_bestTurn_31 (rfl : kd 34 = 1) ?_
  refine r_iload_n F 2 dX6_bestTurn_34 rfl rfl ?_
  refine r_chk (fun h1 => ?_)
  refine r_aaldT F dX6_bestTurn_35 (rfl : kd 35 = 9) h1 ?_
  refine r_br (kTw' (rfl : kd 35 = 9) h1) (fun b35 k35 => ?_)
  refine r_cVN (val := vI) (As := []) (rest := []) (fun q9 => .int q9 :: []) F (c_X3_rightPins F.st F.gg b35 M) (fun _ _ => rfl) dX6_bestTurn_36 mn_X6_129 yv_X3_rightPins k35 (by decide) rfl rfl (by decide) rfl (Nat.le_of_ble_eq_true rfl) (fun _ => rfl) (fun r36 M36 => ?_)
  refine r_istore (ls' := [(4, .int r36), (3, .int (0 : Int32)), (0, .ref (gA G 0)), (1, .int y1), (2, .int y2)]) F dX6_bestTurn_39 (by decide) rfl ?_
  refine r_iconst F dX6_bestTurn_41 (v := 1) (by decide) ?_
  refine r_istore (ls' := [(5, .int (1 : Int32)), (4, .int r36), (3, .int (0 : Int32)), (0, .ref (gA G 0)), (1, .int y1), (2, .int y2)]) F dX6_bestTurn_42 (by decide) rfl ?_
  refine r_sub [3, 4, 5, 2, 1, 0] rfl ?_
  exact l_X6_bestTurn_44 F   FU y1 y2 (0 : Int32) r36 (1 : Int32) M36

def f_X6_bestTurn (a1 : Int32) (a2 : Int32) (M : Mem) : Option ((Int32 ⊕ String) × Mem) := bt (f_X6_checkTown a1 M) fun _ M2 => if a2 = 0 then (f_X6_bestTurn_25  a1 a2 M2) else (if a2 = (1 : Int32) then (f_X6_bestTurn_25  a1 a2 M2) else (some (.inr exA, M2)))

set_option maxRecDepth 100000 in
set_option maxHeartbeats 4000000 in
theorem b_X6_bestTurn {G : GM} {p : Program} {l : Launch} {e : Env} {s : State} {m : MethodId} {args : Array Value} {below : List Frame} {meth : Method} {c : Code} (F : Fx G p l s m args meth c cX6_bestTurn RX6 7 (some .int)) (a1 : Int32) (a2 : Int32) (M : Mem) : Rf G p l e s m args below meth c 9 7 (emT vI) (f_X6_bestTurn a1 a2 M) 0 [(0, .ref (gA G 0)), (1, .int a1), (2, .int a2)] [] M := by
  unfold f_X6_bestTurn
  refine r_aload_n F 0 dX6_bestTurn_0 rfl rfl ?_
  refine r_iload_n F 1 dX6_bestTurn_1 rfl rfl ?_
  refine r_tV (val := vU) (As := [.int a1]) (rest := []) (fun _ => []) F (c_X6_checkTown F.st F.gg a1 M) dX6_bestTurn_2 ml_X6_120 yv_X6_checkTown (rfl : kd 0 = 0) (by decide) rfl rfl (by decide) rfl (Nat.le_of_ble_eq_true rfl) (fun _ => rfl) (fun _ M2 => ?_)
  refine r_iload_n F 2 dX6_bestTurn_5 rfl rfl ?_
  refine r_if_eq (tgt := 25) F dX6_bestTurn_6 (by decide) (fun c1 => ?_) (fun c1 => ?_)
  · refine r_sub [0, 1, 2] rfl ?_
    exact l_X6_bestTurn_25 F   a1 a2 M2
  · refine r_iload_n F 2 dX6_bestTurn_9 rfl rfl ?_
    refine r_iconst F dX6_bestTurn_10 (v := 1) (by decide) ?_
    refine r_icmp_eq (tgt := 25) F dX6_bestTurn_11 (by decide) (fun c2 => ?_) (fun c2 => ?_)
    · refine r_sub [0, 1, 2] rfl ?_
      exact l_X6_bestTurn_25 F   a1 a2 M2
    · exact r_throwW F atA cl_X6_52 ini_IllegalArgumentException (by decide : (283, "what is not 0 or 1") ∈ strW) dX6_bestTurn_14 dX6_bestTurn_17 dX6_bestTurn_18 dX6_bestTurn_21 dX6_bestTurn_24 (by decide) (Nat.le_of_ble_eq_true rfl)

set_option maxRecDepth 100000 in
set_option maxHeartbeats 4000000 in
theorem c_X6_bestTurn {l : Launch} {G : GM} (hl : l.stackTraces = false) (hG : GG G) (a1 : Int32) (a2 : Int32) (M : Mem) : ∀ r, f_X6_bestTurn a1 a2 M = some r → Ctr l G yX6_bestTurn (.code yX6_bestTurn cX6_bestTurn 7 (some .int) :: wsA) 9 [.ref (gA G 0), .int a1, .int a2] M ((emT vI) r) :=
  ctr_of (by decide) hl hG (Nat.le_of_ble_eq_true rfl) (fun p e s m args below meth c F => b_X6_bestTurn F a1 a2 M)

-- ===== X0_owedBy DrumTowns$Land.owedBy(I)I =====
theorem yv_X0_owedBy : yV yX0_owedBy cX0_owedBy 4 (some .int) 1 := ⟨im_X0_owedBy, sl_X0_owedBy, ini_X0, cd_X0_owedBy, ⟨by decide, by decide, by decide +kernel⟩, by decide⟩

def f_X0_owedBy_4 : Nat → Nat → Int32 → Int32 → Int32 → Mem → Option (Int32 × Mem)
  | 0, _, _, _, _, _ => none
  | n + 1, y0, y1, y2, y3, M => chk (kb y0 1) <| if (M.1 y0 1) ≤ y3 then (some (y2, M)) else (chk (inb y1 6) <| bnd (rw' (y0 + 3) y1) fun b18 => chk (inb y3 6) <| bnd (y2 + (M.1 b18 y3.toNatClampNeg)) fun x22 => bnd (y3 + (1 : Int32)) fun x23 => f_X0_owedBy_4  n y0 y1 x22 x23 M)

set_option maxRecDepth 100000 in
set_option maxHeartbeats 4000000 in
theorem l_X0_owedBy_4 {G : GM} {p : Program} {l : Launch} {e : Env} {s : State} {m : MethodId} {args : Array Value} {below : List Frame} {meth : Method} {c : Code} (F : Fx G p l s m args meth c cX0_owedBy RX0 4 (some .int)) : ∀ (n : Nat) (y0 : Nat) (y1 : Int32) (y2 : Int32) (y3 : Int32) (M : Mem), Rf G p l e s m args below meth c 6 4 emI (f_X0_owedBy_4  n y0 y1 y2 y3 M) 4 [(0, .ref (gA G y0)), (1, .int y1), (2, .int y2), (3, .int y3)] [] M := by
  intro n
  induction n with
  | zero => intros; exact r_none
  | succ n ih =>
    intro y0 y1 y2 y3 M
    rw [f_X0_owedBy_4]
    refine r_iload_n F 3 dX0_owedBy_4 rfl rfl ?_
    refine r_aload_n F 0 dX0_owedBy_5 rfl rfl ?_
    refine r_chk (fun h1 => ?_)
    refine gf_X0_38 F dX0_owedBy_6 (kb_k h1) ?_
    refine r_icmp_ge (tgt := 29) F dX0_owedBy_9 (by decide) (fun c2 => ?_) (fun c2 => ?_)
    · refine r_iload_n F 2 dX0_owedBy_29 rfl rfl ?_
      exact r_iret F rfl dX0_owedBy_30 rfl
    · refine r_iload_n F 2 dX0_owedBy_12 rfl rfl ?_
      refine r_aload_n F 0 dX0_owedBy_13 rfl rfl ?_
      refine gf_X0_23 F dX0_owedBy_14 (kb_k h1) ?_
      refine r_iload_n F 1 dX0_owedBy_17 rfl rfl ?_
      refine r_chk (fun h3 => ?_)
      refine r_aaldR F dX0_owedBy_18 (kLd (kb_k h1)) h3 ?_
      refine r_bra (kRw (kLd (kb_k h1)) h3) (aRw (kLd (kb_k h1)) h3) (fun b18 k18 k18a => ?_)
      refine r_iload_n F 3 dX0_owedBy_19 rfl rfl ?_
      refine r_chk (fun h4 => ?_)
      refine r_iald F dX0_owedBy_20 k18 k18a h4 ?_
      refine r_iadd F dX0_owedBy_21 ?_
      refine r_bi (fun x22 => ?_)
      refine r_istore_n (ls' := [(2, .int x22), (0, .ref (gA G y0)), (1, .int y1), (3, .int y3)]) F dX0_owedBy_22 rfl (by decide) rfl ?_
      refine r_iinc (ls' := fun q9 => [(3, .int q9), (2, .int x22), (0, .ref (gA G y0)), (1, .int y1)]) (k := 3) (v := y3 + (1 : Int32)) F dX0_owedBy_23 rfl rfl (by decide) (fun _ => rfl) (fun x23 => ?_)
      refine r_goto (tgt := 4) F dX0_owedBy_26 (by decide) ?_
      refine r_sub [2, 3, 1, 0] rfl ?_
      exact ih y0 y1 x22 x23 M

def f_X0_owedBy (a0 : Nat) (a1 : Int32) (M : Mem) : Option (Int32 × Mem) := f_X0_owedBy_4  FU a0 a1 (0 : Int32) (0 : Int32) M

set_option maxRecDepth 100000 in
set_option maxHeartbeats 4000000 in
theorem b_X0_owedBy {G : GM} {p : Program} {l : Launch} {e : Env} {s : State} {m : MethodId} {args : Array Value} {below : List Frame} {meth : Method} {c : Code} (F : Fx G p l s m args meth c cX0_owedBy RX0 4 (some .int)) (a0 : Nat) (a1 : Int32) (M : Mem) : Rf G p l e s m args below meth c 6 4 emI (f_X0_owedBy a0 a1 M) 0 [(0, .ref (gA G a0)), (1, .int a1)] [] M := by
  unfold f_X0_owedBy
  refine r_iconst F dX0_owedBy_0 (v := 0) (by decide) ?_
  refine r_istore_n (ls' := [(2, .int (0 : Int32)), (0, .ref (gA G a0)), (1, .int a1)]) F dX0_owedBy_1 rfl (by decide) rfl ?_
  refine r_iconst F dX0_owedBy_2 (v := 0) (by decide) ?_
  refine r_istore_n (ls' := [(3, .int (0 : Int32)), (2, .int (0 : Int32)), (0, .ref (gA G a0)), (1, .int a1)]) F dX0_owedBy_3 rfl (by decide) rfl ?_
  refine r_sub [2, 3, 1, 0] rfl ?_
  exact l_X0_owedBy_4 F   FU a0 a1 (0 : Int32) (0 : Int32) M

set_option maxRecDepth 100000 in
set_option maxHeartbeats 4000000 in
theorem c_X0_owedBy {l : Launch} {G : GM} (hl : l.stackTraces = false) (hG : GG G) (a0 : Nat) (a1 : Int32) (M : Mem) : ∀ r, f_X0_owedBy a0 a1 M = some r → Ctr l G yX0_owedBy (.code yX0_owedBy cX0_owedBy 4 (some .int) :: wsA) 6 [.ref (gA G a0), .int a1] M (emI r) :=
  ctr_of (by decide) hl hG (Nat.le_of_ble_eq_true rfl) (fun p e s m args below meth c F => b_X0_owedBy F a0 a1 M)

-- ===== X0_allDebts DrumTowns$Land.allDebts()I =====
theorem yv_X0_allDebts : yV yX0_allDebts cX0_allDebts 3 (some .int) 0 := ⟨im_X0_allDebts, sl_X0_allDebts, ini_X0, cd_X0_allDebts, ⟨by decide, by decide, by decide +kernel⟩, by decide⟩

def f_X0_allDebts_4 : Nat → Nat → Int32 → Int32 → Mem → Option (Int32 × Mem)
  | 0, _, _, _, _ => none
  | n + 1, y0, y1, y2, M => chk (kb y0 1) <| if (M.1 y0 1) ≤ y2 then (some (y1, M)) else (bn (f_X0_owedBy y0 y2 M) fun r15 M15 => bnd (y1 + r15) fun x19 => bnd (y2 + (1 : Int32)) fun x20 => f_X0_allDebts_4  n y0 x19 x20 M15)

set_option maxRecDepth 100000 in
set_option maxHeartbeats 4000000 in
theorem l_X0_allDebts_4 {G : GM} {p : Program} {l : Launch} {e : Env} {s : State} {m : MethodId} {args : Array Value} {below : List Frame} {meth : Method} {c : Code} (F : Fx G p l s m args meth c cX0_allDebts RX0 3 (some .int)) : ∀ (n : Nat) (y0 : Nat) (y1 : Int32) (y2 : Int32) (M : Mem), Rf G p l e s m args below meth c 7 3 emI (f_X0_allDebts_4  n y0 y1 y2 M) 4 [(0, .ref (gA G y0)), (1, .int y1), (2, .int y2)] [] M := by
  intro n
  induction n with
  | zero => intros; exact r_none
  | succ n ih =>
    intro y0 y1 y2 M
    rw [f_X0_allDebts_4]
    refine r_iload_n F 2 dX0_allDebts_4 rfl rfl ?_
    refine r_aload_n F 0 dX0_allDebts_5 rfl rfl ?_
    refine r_chk (fun h1 => ?_)
    refine gf_X0_38 F dX0_allDebts_6 (kb_k h1) ?_
    refine r_icmp_ge (tgt := 26) F dX0_allDebts_9 (by decide) (fun c2 => ?_) (fun c2 => ?_)
    · refine r_iload_n F 1 dX0_allDebts_26 rfl rfl ?_
      exact r_iret F rfl dX0_allDebts_27 rfl
    · refine r_iload_n F 1 dX0_allDebts_12 rfl rfl ?_
      refine r_aload_n F 0 dX0_allDebts_13 rfl rfl ?_
      refine r_iload_n F 2 dX0_allDebts_14 rfl rfl ?_
      refine r_cV (val := vI) (As := [.int y2]) (rest := [.int y1]) (fun q9 => .int q9 :: [.int y1]) F (c_X0_owedBy F.st F.gg y0 y2 M) (fun _ _ => rfl) dX0_allDebts_15 ml_X0_72 yv_X0_owedBy (kb_k h1) (by decide) rfl rfl (by decide) rfl (Nat.le_of_ble_eq_true rfl) (fun _ => rfl) (fun r15 M15 => ?_)
      refine r_iadd F dX0_allDebts_18 ?_
      refine r_bi (fun x19 => ?_)
      refine r_istore_n (ls' := [(1, .int x19), (0, .ref (gA G y0)), (2, .int y2)]) F dX0_allDebts_19 rfl (by decide) rfl ?_
      refine r_iinc (ls' := fun q9 => [(2, .int q9), (1, .int x19), (0, .ref (gA G y0))]) (k := 2) (v := y2 + (1 : Int32)) F dX0_allDebts_20 rfl rfl (by decide) (fun _ => rfl) (fun x20 => ?_)
      refine r_goto (tgt := 4) F dX0_allDebts_23 (by decide) ?_
      refine r_sub [2, 1, 0] rfl ?_
      exact ih y0 x19 x20 M15

def f_X0_allDebts (a0 : Nat) (M : Mem) : Option (Int32 × Mem) := f_X0_allDebts_4  FU a0 (0 : Int32) (0 : Int32) M

set_option maxRecDepth 100000 in
set_option maxHeartbeats 4000000 in
theorem b_X0_allDebts {G : GM} {p : Program} {l : Launch} {e : Env} {s : State} {m : MethodId} {args : Array Value} {below : List Frame} {meth : Method} {c : Code} (F : Fx G p l s m args meth c cX0_allDebts RX0 3 (some .int)) (a0 : Nat) (M : Mem) : Rf G p l e s m args below meth c 7 3 emI (f_X0_allDebts a0 M) 0 [(0, .ref (gA G a0))] [] M := by
  unfold f_X0_allDebts
  refine r_iconst F dX0_allDebts_0 (v := 0) (by decide) ?_
  refine r_istore_n (ls' := [(1, .int (0 : Int32)), (0, .ref (gA G a0))]) F dX0_allDebts_1 rfl (by decide) rfl ?_
  refine r_iconst F dX0_allDebts_2 (v := 0) (by decide) ?_
  refine r_istore_n (ls' := [(2, .int (0 : Int32)), (1, .int (0 : Int32)), (0, .ref (gA G a0))]) F dX0_allDebts_3 rfl (by decide) rfl ?_
  refine r_sub [2, 1, 0] rfl ?_
  exact l_X0_allDebts_4 F   FU a0 (0 : Int32) (0 : Int32) M

set_option maxRecDepth 100000 in
set_option maxHeartbeats 4000000 in
theorem c_X0_allDebts {l : Launch} {G : GM} (hl : l.stackTraces = false) (hG : GG G) (a0 : Nat) (M : Mem) : ∀ r, f_X0_allDebts a0 M = some r → Ctr l G yX0_allDebts (.code yX0_allDebts cX0_allDebts 3 (some .int) :: wsA) 7 [.ref (gA G a0)] M (emI r) :=
  ctr_of (by decide) hl hG (Nat.le_of_ble_eq_true rfl) (fun p e s m args below meth c F => b_X0_allDebts F a0 M)

-- ===== X0_allRightPins DrumTowns$Land.allRightPins()I =====
theorem yv_X0_allRightPins : yV yX0_allRightPins cX0_allRightPins 3 (some .int) 0 := ⟨im_X0_allRightPins, sl_X0_allRightPins, ini_X0, cd_X0_allRightPins, ⟨by decide, by decide, by decide +kernel⟩, by decide⟩

def f_X0_allRightPins_4 : Nat → Nat → Int32 → Int32 → Mem → Option (Int32 × Mem)
  | 0, _, _, _, _ => none
  | n + 1, y0, y1, y2, M => chk (kb y0 1) <| if (M.1 y0 1) ≤ y2 then (some (y1, M)) else (chk (inb y2 6) <| bnd (tw (y0 + 1) y2) fun b18 => bn (f_X3_rightPins b18 M) fun r19 M19 => bnd (y1 + r19) fun x23 => bnd (y2 + (1 : Int32)) fun x24 => f_X0_allRightPins_4  n y0 x23 x24 M19)

set_option maxRecDepth 100000 in
set_option maxHeartbeats 4000000 in
theorem l_X0_allRightPins_4 {G : GM} {p : Program} {l : Launch} {e : Env} {s : State} {m : MethodId} {args : Array Value} {below : List Frame} {meth : Method} {c : Code} (F : Fx G p l s m args meth c cX0_allRightPins RX0 3 (some .int)) : ∀ (n : Nat) (y0 : Nat) (y1 : Int32) (y2 : Int32) (M : Mem), Rf G p l e s m args below meth c 9 3 emI (f_X0_allRightPins_4  n y0 y1 y2 M) 4 [(0, .ref (gA G y0)), (1, .int y1), (2, .int y2)] [] M := by
  intro n
  induction n with
  | zero => intros; exact r_none
  | succ n ih =>
    intro y0 y1 y2 M
    rw [f_X0_allRightPins_4]
    refine r_iload_n F 2 dX0_allRightPins_4 rfl rfl ?_
    refine r_aload_n F 0 dX0_allRightPins_5 rfl rfl ?_
    refine r_chk (fun h1 => ?_)
    refine gf_X0_38 F dX0_allRightPins_6 (kb_k h1) ?_
    refine r_icmp_ge (tgt := 30) F dX0_allRightPins_9 (by decide) (fun c2 => ?_) (fun c2 => ?_)
    · refine r_iload_n F 1 dX0_allRightPins_30 rfl rfl ?_
      exact r_iret F rfl dX0_allRightPins_31 rfl
    · refine r_iload_n F 1 dX0_allRightPins_12 rfl rfl ?_
      refine r_aload_n F 0 dX0_allRightPins_13 rfl rfl ?_
      refine gf_X0_11 F dX0_allRightPins_14 (kb_k h1) ?_
      refine r_iload_n F 2 dX0_allRightPins_17 rfl rfl ?_
      refine r_chk (fun h3 => ?_)
      refine r_aaldT F dX0_allRightPins_18 (kLs (kb_k h1)) h3 ?_
      refine r_br (kTw' (kLs (kb_k h1)) h3) (fun b18 k18 => ?_)
      refine r_cVN (val := vI) (As := []) (rest := [.int y1]) (fun q9 => .int q9 :: [.int y1]) F (c_X3_rightPins F.st F.gg b18 M) (fun _ _ => rfl) dX0_allRightPins_19 mn_X0_82 yv_X3_rightPins k18 (by decide) rfl rfl (by decide) rfl (Nat.le_of_ble_eq_true rfl) (fun _ => rfl) (fun r19 M19 => ?_)
      refine r_iadd F dX0_allRightPins_22 ?_
      refine r_bi (fun x23 => ?_)
      refine r_istore_n (ls' := [(1, .int x23), (0, .ref (gA G y0)), (2, .int y2)]) F dX0_allRightPins_23 rfl (by decide) rfl ?_
      refine r_iinc (ls' := fun q9 => [(2, .int q9), (1, .int x23), (0, .ref (gA G y0))]) (k := 2) (v := y2 + (1 : Int32)) F dX0_allRightPins_24 rfl rfl (by decide) (fun _ => rfl) (fun x24 => ?_)
      refine r_goto (tgt := 4) F dX0_allRightPins_27 (by decide) ?_
      refine r_sub [2, 1, 0] rfl ?_
      exact ih y0 x23 x24 M19

def f_X0_allRightPins (a0 : Nat) (M : Mem) : Option (Int32 × Mem) := f_X0_allRightPins_4  FU a0 (0 : Int32) (0 : Int32) M

set_option maxRecDepth 100000 in
set_option maxHeartbeats 4000000 in
theorem b_X0_allRightPins {G : GM} {p : Program} {l : Launch} {e : Env} {s : State} {m : MethodId} {args : Array Value} {below : List Frame} {meth : Method} {c : Code} (F : Fx G p l s m args meth c cX0_allRightPins RX0 3 (some .int)) (a0 : Nat) (M : Mem) : Rf G p l e s m args below meth c 9 3 emI (f_X0_allRightPins a0 M) 0 [(0, .ref (gA G a0))] [] M := by
  unfold f_X0_allRightPins
  refine r_iconst F dX0_allRightPins_0 (v := 0) (by decide) ?_
  refine r_istore_n (ls' := [(1, .int (0 : Int32)), (0, .ref (gA G a0))]) F dX0_allRightPins_1 rfl (by decide) rfl ?_
  refine r_iconst F dX0_allRightPins_2 (v := 0) (by decide) ?_
  refine r_istore_n (ls' := [(2, .int (0 : Int32)), (1, .int (0 : Int32)), (0, .ref (gA G a0))]) F dX0_allRightPins_3 rfl (by decide) rfl ?_
  refine r_sub [2, 1, 0] rfl ?_
  exact l_X0_allRightPins_4 F   FU a0 (0 : Int32) (0 : Int32) M

set_option maxRecDepth 100000 in
set_option maxHeartbeats 4000000 in
theorem c_X0_allRightPins {l : Launch} {G : GM} (hl : l.stackTraces = false) (hG : GG G) (a0 : Nat) (M : Mem) : ∀ r, f_X0_allRightPins a0 M = some r → Ctr l G yX0_allRightPins (.code yX0_allRightPins cX0_allRightPins 3 (some .int) :: wsA) 9 [.ref (gA G a0)] M (emI r) :=
  ctr_of (by decide) hl hG (Nat.le_of_ble_eq_true rfl) (fun p e s m args below meth c F => b_X0_allRightPins F a0 M)

-- ===== X0_owingPairs DrumTowns$Land.owingPairs()I =====
theorem yv_X0_owingPairs : yV yX0_owingPairs cX0_owingPairs 4 (some .int) 0 := ⟨im_X0_owingPairs, sl_X0_owingPairs, ini_X0, cd_X0_owingPairs, ⟨by decide, by decide, by decide +kernel⟩, by decide⟩

def f_X0_owingPairs_39 (k4 : Nat → Int32 → Int32 → Mem → Option (Int32 × Mem)) (k14 : Nat → Int32 → Int32 → Int32 → Mem → Option (Int32 × Mem)) (y0 : Nat) (y2 : Int32) (y3 : Int32) (z0 : Int32) (z1 : Int32) (M : Mem) : Option (Int32 × Mem) := bnd (z0 + z1) fun x40 => bnd (y3 + (1 : Int32)) fun x41 => k14 y0 x40 y2 x41 M

set_option maxRecDepth 100000 in
set_option maxHeartbeats 4000000 in
theorem l_X0_owingPairs_39 {G : GM} {p : Program} {l : Launch} {e : Env} {s : State} {m : MethodId} {args : Array Value} {below : List Frame} {meth : Method} {c : Code} (F : Fx G p l s m args meth c cX0_owingPairs RX0 4 (some .int)) (k4 : Nat → Int32 → Int32 → Mem → Option (Int32 × Mem)) (k14 : Nat → Int32 → Int32 → Int32 → Mem → Option (Int32 × Mem)) (H4 : ∀ (y0 : Nat) (y1 : Int32) (y2 : Int32) (M : Mem), Rf G p l e s m args below meth c 6 4 emI (k4 y0 y1 y2 M) 4 [(0, .ref (gA G y0)), (1, .int y1), (2, .int y2)] [] M) (H14 : ∀ (y0 : Nat) (y1 : Int32) (y2 : Int32) (y3 : Int32) (M : Mem), Rf G p l e s m args below meth c 6 4 emI (k14 y0 y1 y2 y3 M) 14 [(0, .ref (gA G y0)), (1, .int y1), (2, .int y2), (3, .int y3)] [] M) (y0 : Nat) (y2 : Int32) (y3 : Int32) (z0 : Int32) (z1 : Int32) (M : Mem) : Rf G p l e s m args below meth c 6 4 emI (f_X0_owingPairs_39 k4 k14 y0 y2 y3 z0 z1 M) 39 [(0, .ref (gA G y0)), (2, .int y2), (3, .int y3)] [.int z1, .int z0] M := by
  unfold f_X0_owingPairs_39
  refine r_iadd F dX0_owingPairs_39 ?_
  refine r_bi (fun x40 => ?_)
  refine r_istore_n (ls' := [(1, .int x40), (0, .ref (gA G y0)), (2, .int y2), (3, .int y3)]) F dX0_owingPairs_40 rfl (by decide) rfl ?_
  refine r_iinc (ls' := fun q9 => [(3, .int q9), (1, .int x40), (0, .ref (gA G y0)), (2, .int y2)]) (k := 3) (v := y3 + (1 : Int32)) F dX0_owingPairs_41 rfl rfl (by decide) (fun _ => rfl) (fun x41 => ?_)
  refine r_goto (tgt := 14) F dX0_owingPairs_44 (by decide) ?_
  refine r_sub [2, 1, 3, 0] rfl ?_
  exact H14 y0 x40 y2 x41 M

def f_X0_owingPairs_14 (k4 : Nat → Int32 → Int32 → Mem → Option (Int32 × Mem)) : Nat → Nat → Int32 → Int32 → Int32 → Mem → Option (Int32 × Mem)
  | 0, _, _, _, _, _ => none
  | n + 1, y0, y1, y2, y3, M => chk (kb y0 1) <| if (M.1 y0 1) ≤ y3 then (bnd (y2 + (1 : Int32)) fun x47 => k4 y0 y1 x47 M) else (chk (inb y2 6) <| bnd (rw' (y0 + 3) y2) fun b28 => chk (inb y3 6) <| if (M.1 b28 y3.toNatClampNeg) ≤ 0 then (f_X0_owingPairs_39 k4 (f_X0_owingPairs_14 k4 n) y0 y2 y3 y1 (0 : Int32) M) else (f_X0_owingPairs_39 k4 (f_X0_owingPairs_14 k4 n) y0 y2 y3 y1 (1 : Int32) M))

set_option maxRecDepth 100000 in
set_option maxHeartbeats 4000000 in
theorem l_X0_owingPairs_14 {G : GM} {p : Program} {l : Launch} {e : Env} {s : State} {m : MethodId} {args : Array Value} {below : List Frame} {meth : Method} {c : Code} (F : Fx G p l s m args meth c cX0_owingPairs RX0 4 (some .int)) (k4 : Nat → Int32 → Int32 → Mem → Option (Int32 × Mem)) (H4 : ∀ (y0 : Nat) (y1 : Int32) (y2 : Int32) (M : Mem), Rf G p l e s m args below meth c 6 4 emI (k4 y0 y1 y2 M) 4 [(0, .ref (gA G y0)), (1, .int y1), (2, .int y2)] [] M) : ∀ (n : Nat) (y0 : Nat) (y1 : Int32) (y2 : Int32) (y3 : Int32) (M : Mem), Rf G p l e s m args below meth c 6 4 emI (f_X0_owingPairs_14 k4 n y0 y1 y2 y3 M) 14 [(0, .ref (gA G y0)), (1, .int y1), (2, .int y2), (3, .int y3)] [] M := by
  intro n
  induction n with
  | zero => intros; exact r_none
  | succ n ih =>
    intro y0 y1 y2 y3 M
    rw [f_X0_owingPairs_14]
    refine r_iload_n F 3 dX0_owingPairs_14 rfl rfl ?_
    refine r_aload_n F 0 dX0_owingPairs_15 rfl rfl ?_
    refine r_chk (fun h1 => ?_)
    refine gf_X0_38 F dX0_owingPairs_16 (kb_k h1) ?_
    refine r_icmp_ge (tgt := 47) F dX0_owingPairs_19 (by decide) (fun c2 => ?_) (fun c2 => ?_)
    · refine r_iinc (ls' := fun q9 => [(2, .int q9), (0, .ref (gA G y0)), (1, .int y1), (3, .int y3)]) (k := 2) (v := y2 + (1 : Int32)) F dX0_owingPairs_47 rfl rfl (by decide) (fun _ => rfl) (fun x47 => ?_)
      refine r_goto (tgt := 4) F dX0_owingPairs_50 (by decide) ?_
      refine r_sub [1, 2, 0] rfl ?_
      exact H4 y0 y1 x47 M
    · refine r_iload_n F 1 dX0_owingPairs_22 rfl rfl ?_
      refine r_aload_n F 0 dX0_owingPairs_23 rfl rfl ?_
      refine gf_X0_23 F dX0_owingPairs_24 (kb_k h1) ?_
      refine r_iload_n F 2 dX0_owingPairs_27 rfl rfl ?_
      refine r_chk (fun h3 => ?_)
      refine r_aaldR F dX0_owingPairs_28 (kLd (kb_k h1)) h3 ?_
      refine r_bra (kRw (kLd (kb_k h1)) h3) (aRw (kLd (kb_k h1)) h3) (fun b28 k28 k28a => ?_)
      refine r_iload_n F 3 dX0_owingPairs_29 rfl rfl ?_
      refine r_chk (fun h4 => ?_)
      refine r_iald F dX0_owingPairs_30 k28 k28a h4 ?_
      refine r_if_le (tgt := 38) F dX0_owingPairs_31 (by decide) (fun c5 => ?_) (fun c5 => ?_)
      · refine r_iconst F dX0_owingPairs_38 (v := 0) (by decide) ?_
        refine r_sub [0, 2, 3] rfl ?_
        exact l_X0_owingPairs_39 F k4 (f_X0_owingPairs_14 k4 n) H4 (fun q0 q1 q2 q3 M9 => ih q0 q1 q2 q3 M9) y0 y2 y3 y1 (0 : Int32) M
      · refine r_iconst F dX0_owingPairs_34 (v := 1) (by decide) ?_
        refine r_goto (tgt := 39) F dX0_owingPairs_35 (by decide) ?_
        refine r_sub [0, 2, 3] rfl ?_
        exact l_X0_owingPairs_39 F k4 (f_X0_owingPairs_14 k4 n) H4 (fun q0 q1 q2 q3 M9 => ih q0 q1 q2 q3 M9) y0 y2 y3 y1 (1 : Int32) M

def f_X0_owingPairs_4 : Nat → Nat → Int32 → Int32 → Mem → Option (Int32 × Mem)
  | 0, _, _, _, _ => none
  | n + 1, y0, y1, y2, M => chk (kb y0 1) <| if (M.1 y0 1) ≤ y2 then (some (y1, M)) else (f_X0_owingPairs_14 (f_X0_owingPairs_4  n) FU y0 y1 y2 (0 : Int32) M)

set_option maxRecDepth 100000 in
set_option maxHeartbeats 4000000 in
theorem l_X0_owingPairs_4 {G : GM} {p : Program} {l : Launch} {e : Env} {s : State} {m : MethodId} {args : Array Value} {below : List Frame} {meth : Method} {c : Code} (F : Fx G p l s m args meth c cX0_owingPairs RX0 4 (some .int)) : ∀ (n : Nat) (y0 : Nat) (y1 : Int32) (y2 : Int32) (M : Mem), Rf G p l e s m args below meth c 6 4 emI (f_X0_owingPairs_4  n y0 y1 y2 M) 4 [(0, .ref (gA G y0)), (1, .int y1), (2, .int y2)] [] M := by
  intro n
  induction n with
  | zero => intros; exact r_none
  | succ n ih =>
    intro y0 y1 y2 M
    rw [f_X0_owingPairs_4]
    refine r_iload_n F 2 dX0_owingPairs_4 rfl rfl ?_
    refine r_aload_n F 0 dX0_owingPairs_5 rfl rfl ?_
    refine r_chk (fun h1 => ?_)
    refine gf_X0_38 F dX0_owingPairs_6 (kb_k h1) ?_
    refine r_icmp_ge (tgt := 53) F dX0_owingPairs_9 (by decide) (fun c2 => ?_) (fun c2 => ?_)
    · refine r_iload_n F 1 dX0_owingPairs_53 rfl rfl ?_
      exact r_iret F rfl dX0_owingPairs_54 rfl
    · refine r_iconst F dX0_owingPairs_12 (v := 0) (by decide) ?_
      refine r_istore_n (ls' := [(3, .int (0 : Int32)), (0, .ref (gA G y0)), (1, .int y1), (2, .int y2)]) F dX0_owingPairs_13 rfl (by decide) rfl ?_
      refine r_sub [1, 2, 3, 0] rfl ?_
      exact l_X0_owingPairs_14 F (f_X0_owingPairs_4  n) (fun q0 q1 q2 M9 => ih q0 q1 q2 M9) FU y0 y1 y2 (0 : Int32) M

def f_X0_owingPairs (a0 : Nat) (M : Mem) : Option (Int32 × Mem) := f_X0_owingPairs_4  FU a0 (0 : Int32) (0 : Int32) M

set_option maxRecDepth 100000 in
set_option maxHeartbeats 4000000 in
theorem b_X0_owingPairs {G : GM} {p : Program} {l : Launch} {e : Env} {s : State} {m : MethodId} {args : Array Value} {below : List Frame} {meth : Method} {c : Code} (F : Fx G p l s m args meth c cX0_owingPairs RX0 4 (some .int)) (a0 : Nat) (M : Mem) : Rf G p l e s m args below meth c 6 4 emI (f_X0_owingPairs a0 M) 0 [(0, .ref (gA G a0))] [] M := by
  unfold f_X0_owingPairs
  refine r_iconst F dX0_owingPairs_0 (v := 0) (by decide) ?_
  refine r_istore_n (ls' := [(1, .int (0 : Int32)), (0, .ref (gA G a0))]) F dX0_owingPairs_1 rfl (by decide) rfl ?_
  refine r_iconst F dX0_owingPairs_2 (v := 0) (by decide) ?_
  refine r_istore_n (ls' := [(2, .int (0 : Int32)), (1, .int (0 : Int32)), (0, .ref (gA G a0))]) F dX0_owingPairs_3 rfl (by decide) rfl ?_
  refine r_sub [2, 1, 0] rfl ?_
  exact l_X0_owingPairs_4 F   FU a0 (0 : Int32) (0 : Int32) M

set_option maxRecDepth 100000 in
set_option maxHeartbeats 4000000 in
theorem c_X0_owingPairs {l : Launch} {G : GM} (hl : l.stackTraces = false) (hG : GG G) (a0 : Nat) (M : Mem) : ∀ r, f_X0_owingPairs a0 M = some r → Ctr l G yX0_owingPairs (.code yX0_owingPairs cX0_owingPairs 4 (some .int) :: wsA) 6 [.ref (gA G a0)] M (emI r) :=
  ctr_of (by decide) hl hG (Nat.le_of_ble_eq_true rfl) (fun p e s m args below meth c F => b_X0_owingPairs F a0 M)

