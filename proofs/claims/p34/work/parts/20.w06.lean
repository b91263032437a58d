-- ===== X6_isPlace DrumTowns.isPlace(I)Z =====
theorem ys_X6_isPlace : yS yX6_isPlace cX6_isPlace 1 (some .boolean) 1 := ⟨sc_X6_isPlace, ini_X6, cd_X6_isPlace, ⟨by decide, by decide, by decide +kernel⟩, by decide⟩

def f_X6_isPlace_17 (z0 : Int32) (M : Mem) : Option (Int32 × Mem) := chk (isb z0) <| some (z0, M)

set_option maxRecDepth 100000 in
set_option maxHeartbeats 4000000 in
theorem l_X6_isPlace_17 {G : GM} {p : Program} {l : Launch} {e : Env} {s : State} {m : MethodId} {args : Array Value} {below : List Frame} {meth : Method} {c : Code} (F : Fx G p l s m args meth c cX6_isPlace RX6 1 (some .boolean)) (z0 : Int32) (M : Mem) : Rf G p l e s m args below meth c 6 1 emI (f_X6_isPlace_17  z0 M) 17 [] [.int z0] M := by
  unfold f_X6_isPlace_17
  refine r_chk (fun h1 => ?_)
  exact r_zret F rfl dX6_isPlace_17 rfl (isb_or h1)

def f_X6_isPlace_16  (M : Mem) : Option (Int32 × Mem) := f_X6_isPlace_17  (0 : Int32) M

set_option maxRecDepth 100000 in
set_option maxHeartbeats 4000000 in
theorem l_X6_isPlace_16 {G : GM} {p : Program} {l : Launch} {e : Env} {s : State} {m : MethodId} {args : Array Value} {below : List Frame} {meth : Method} {c : Code} (F : Fx G p l s m args meth c cX6_isPlace RX6 1 (some .boolean))  (M : Mem) : Rf G p l e s m args below meth c 6 1 emI (f_X6_isPlace_16   M) 16 [] [] M := by
  unfold f_X6_isPlace_16
  refine r_iconst F dX6_isPlace_16 (v := 0) (by decide) ?_
  refine r_sub [] rfl ?_
  exact l_X6_isPlace_17 F   (0 : Int32) M

def f_X6_isPlace (a0 : Int32) (M : Mem) : Option (Int32 × Mem) := if a0 < (10 : Int32) then (f_X6_isPlace_16   M) else (if (16 : Int32) ≤ a0 then (f_X6_isPlace_16   M) else (f_X6_isPlace_17  (1 : Int32) M))

set_option maxRecDepth 100000 in
set_option maxHeartbeats 4000000 in
theorem b_X6_isPlace {G : GM} {p : Program} {l : Launch} {e : Env} {s : State} {m : MethodId} {args : Array Value} {below : List Frame} {meth : Method} {c : Code} (F : Fx G p l s m args meth c cX6_isPlace RX6 1 (some .boolean)) (a0 : Int32) (M : Mem) : Rf G p l e s m args below meth c 6 1 emI (f_X6_isPlace a0 M) 0 [(0, .int a0)] [] M := by
  unfold f_X6_isPlace
  refine r_iload_n F 0 dX6_isPlace_0 rfl rfl ?_
  refine r_bipush F dX6_isPlace_1 (v := 10) (by decide) ?_
  refine r_icmp_lt (tgt := 16) F dX6_isPlace_3 (by decide) (fun c1 => ?_) (fun c1 => ?_)
  · refine r_sub [] rfl ?_
    exact l_X6_isPlace_16 F    M
  · refine r_iload_n F 0 dX6_isPlace_6 rfl rfl ?_
    refine r_bipush F dX6_isPlace_7 (v := 16) (by decide) ?_
    refine r_icmp_ge (tgt := 16) F dX6_isPlace_9 (by decide) (fun c2 => ?_) (fun c2 => ?_)
    · refine r_sub [] rfl ?_
      exact l_X6_isPlace_16 F    M
    · refine r_iconst F dX6_isPlace_12 (v := 1) (by decide) ?_
      refine r_goto (tgt := 17) F dX6_isPlace_13 (by decide) ?_
      refine r_sub [] rfl ?_
      exact l_X6_isPlace_17 F   (1 : Int32) M

set_option maxRecDepth 100000 in
set_option maxHeartbeats 4000000 in
theorem c_X6_isPlace {l : Launch} {G : GM} (hl : l.stackTraces = false) (hG : GG G) (a0 : Int32) (M : Mem) : ∀ r, f_X6_isPlace a0 M = some r → Ctr l G yX6_isPlace (.code yX6_isPlace cX6_isPlace 1 (some .boolean) :: wsA) 6 [.int a0] M (emI r) :=
  ctr_of (by decide) hl hG (Nat.le_of_ble_eq_true rfl) (fun p e s m args below meth c F => b_X6_isPlace F a0 M)

-- ===== X6_ring DrumTowns.ring(I)I =====
theorem yv_X6_ring : yV yX6_ring cX6_ring 2 (some .int) 1 := ⟨im_X6_ring, sl_X6_ring, ini_X6, cd_X6_ring, ⟨by decide, by decide, by decide +kernel⟩, by decide⟩

def f_X6_ring_27 (y1 : Int32) (M : Mem) : Option ((Int32 ⊕ String) × Mem) := bn (f_X2_find 34 M) fun _ M35 => bn (f_X2_tell y1 M35) fun r43 M43 => some (.inl r43, M43)

set_option maxRecDepth 100000 in
set_option maxHeartbeats 4000000 in
theorem l_X6_ring_27 {G : GM} {p : Program} {l : Launch} {e : Env} {s : State} {m : MethodId} {args : Array Value} {below : List Frame} {meth : Method} {c : Code} (F : Fx G p l s m args meth c cX6_ring RX6 2 (some .int)) (y1 : Int32) (M : Mem) : Rf G p l e s m args below meth c 17 2 (emT vI) (f_X6_ring_27  y1 M) 27 [(0, .ref (gA G 0)), (1, .int y1)] [] M := by
  unfold f_X6_ring_27
  refine r_aload_n F 0 dX6_ring_27 rfl rfl ?_
  refine gf_X6_37 F dX6_ring_28 (rfl : kd 0 = 0) ?_
  refine r_aload_n F 0 dX6_ring_31 rfl rfl ?_
  refine gf_X6_10 F dX6_ring_32 (rfl : kd 0 = 0) ?_
  refine r_cVN (val := vU) (As := [.ref (gA G 34)]) (rest := []) (fun _ => []) F (c_X2_find F.st F.gg 34 M) (fun _ _ => rfl) dX6_ring_35 mn_X6_176 yv_X2_find (rfl : kd 10 = 4) (by decide) rfl rfl (by decide) rfl (Nat.le_of_ble_eq_true rfl) (fun _ => rfl) (fun _ M35 => ?_)
  refine r_aload_n F 0 dX6_ring_38 rfl rfl ?_
  refine gf_X6_37 F dX6_ring_39 (rfl : kd 0 = 0) ?_
  refine r_iload_n F 1 dX6_ring_42 rfl rfl ?_
  refine r_cVN (val := vI) (As := [.int y1]) (rest := []) (fun q9 => .int q9 :: []) F (c_X2_tell F.st F.gg y1 M35) (fun _ _ => rfl) dX6_ring_43 mn_X6_302 yv_X2_tell (rfl : kd 10 = 4) (by decide) rfl rfl (by decide) rfl (Nat.le_of_ble_eq_true rfl) (fun _ => rfl) (fun r43 M43 => ?_)
  exact r_iret F rfl dX6_ring_46 rfl

def f_X6_ring (a1 : Int32) (M : Mem) : Option ((Int32 ⊕ String) × Mem) := if a1 = 0 then (f_X6_ring_27  a1 M) else (if a1 = (1 : Int32) then (f_X6_ring_27  a1 M) else (bn (f_X6_isPlace a1 M) fun r10 M10 => if r10 = 0 then (some (.inr exA, M10)) else (f_X6_ring_27  a1 M10)))

set_option maxRecDepth 100000 in
set_option maxHeartbeats 4000000 in
theorem b_X6_ring {G : GM} {p : Program} {l : Launch} {e : Env} {s : State} {m : MethodId} {args : Array Value} {below : List Frame} {meth : Method} {c : Code} (F : Fx G p l s m args meth c cX6_ring RX6 2 (some .int)) (a1 : Int32) (M : Mem) : Rf G p l e s m args below meth c 17 2 (emT vI) (f_X6_ring a1 M) 0 [(0, .ref (gA G 0)), (1, .int a1)] [] M := by
  unfold f_X6_ring
  refine r_iload_n F 1 dX6_ring_0 rfl rfl ?_
  refine r_if_eq (tgt := 27) F dX6_ring_1 (by decide) (fun c1 => ?_) (fun c1 => ?_)
  · refine r_sub [0, 1] rfl ?_
    exact l_X6_ring_27 F   a1 M
  · refine r_iload_n F 1 dX6_ring_4 rfl rfl ?_
    refine r_iconst F dX6_ring_5 (v := 1) (by decide) ?_
    refine r_icmp_eq (tgt := 27) F dX6_ring_6 (by decide) (fun c2 => ?_) (fun c2 => ?_)
    · refine r_sub [0, 1] rfl ?_
      exact l_X6_ring_27 F   a1 M
    · refine r_iload_n F 1 dX6_ring_9 rfl rfl ?_
      refine r_cS (val := vI) (As := [.int a1]) (rest := []) (fun q9 => .int q9 :: []) F (c_X6_isPlace F.st F.gg a1 M) (fun _ _ => rfl) dX6_ring_10 ml_X6_292 ys_X6_isPlace rfl (by decide) rfl (Nat.le_of_ble_eq_true rfl) (fun _ => rfl) (fun r10 M10 => ?_)
      refine r_if_ne (tgt := 27) F dX6_ring_13 (by decide) (fun c3 => ?_) (fun c3 => ?_)
      · exact r_throwW F atA cl_X6_52 ini_IllegalArgumentException (by decide : (300, "what is not 0, 1, or 10 to 15") ∈ strW) dX6_ring_16 dX6_ring_19 dX6_ring_20 dX6_ring_23 dX6_ring_26 (by decide) (Nat.le_of_ble_eq_true rfl)
      · refine r_sub [0, 1] rfl ?_
        exact l_X6_ring_27 F   a1 M10

set_option maxRecDepth 100000 in
set_option maxHeartbeats 4000000 in
theorem c_X6_ring {l : Launch} {G : GM} (hl : l.stackTraces = false) (hG : GG G) (a1 : Int32) (M : Mem) : ∀ r, f_X6_ring a1 M = some r → Ctr l G yX6_ring (.code yX6_ring cX6_ring 2 (some .int) :: wsA) 17 [.ref (gA G 0), .int a1] M ((emT vI) r) :=
  ctr_of (by decide) hl hG (Nat.le_of_ble_eq_true rfl) (fun p e s m args below meth c F => b_X6_ring F a1 M)

-- ===== X0_takeRing DrumTowns$Land.takeRing(LDrumTowns$Ring;)V =====
theorem yv_X0_takeRing : yV yX0_takeRing cX0_takeRing 3 none 1 := ⟨im_X0_takeRing, sl_X0_takeRing, ini_X0, cd_X0_takeRing, ⟨by decide, by decide, by decide +kernel⟩, by decide⟩

def f_X0_takeRing_2 : Nat → Nat → Int32 → Mem → Option (Unit × Mem)
  | 0, _, _, _ => none
  | n + 1, y0, y2, M => if (M.1 10 1) ≤ y2 then (chk (kb y0 1) <| bnd (mw M y0 6 ((M.1 y0 6) + (1 : Int32))) fun M47 => bnd (mw M47 y0 7 ((M47.1 y0 7) + ((M47.1 10 2) * (M47.1 10 1)))) fun M65 => some ((), M65)) else (chk (kb y0 1) <| chk (inb y2 6) <| chk (inb (M.1 11 y2.toNatClampNeg) 6) <| bnd (rw' (y0 + 3) (M.1 11 y2.toNatClampNeg)) fun b20 => bn (f_X2_following y2 M) fun r23 M23 => chk (inb r23 6) <| chk (inb r23 6) <| bnd (mw M23 b20 r23.toNatClampNeg ((M23.1 b20 r23.toNatClampNeg) - (M23.1 10 2))) fun M33 => bnd (y2 + (1 : Int32)) fun x34 => f_X0_takeRing_2  n y0 x34 M33)

set_option maxRecDepth 100000 in
set_option maxHeartbeats 4000000 in
theorem l_X0_takeRing_2 {G : GM} {p : Program} {l : Launch} {e : Env} {s : State} {m : MethodId} {args : Array Value} {below : List Frame} {meth : Method} {c : Code} (F : Fx G p l s m args meth c cX0_takeRing RX0 3 none) : ∀ (n : Nat) (y0 : Nat) (y2 : Int32) (M : Mem), Rf G p l e s m args below meth c 7 3 emV (f_X0_takeRing_2  n y0 y2 M) 2 [(0, .ref (gA G y0)), (1, .ref (gA G 10)), (2, .int y2)] [] M := by
  intro n
  induction n with
  | zero => intros; exact r_none
  | succ n ih =>
    intro y0 y2 M
    rw [f_X0_takeRing_2]
    refine r_iload_n F 2 dX0_takeRing_2 rfl rfl ?_
    refine r_aload_n F 1 dX0_takeRing_3 rfl rfl ?_
    refine gf_X0_57 F dX0_takeRing_4 (rfl : kd 10 = 4) ?_
    refine r_icmp_ge (tgt := 40) F dX0_takeRing_7 (by decide) (fun c1 => ?_) (fun c1 => ?_)
    · refine r_aload_n F 0 dX0_takeRing_40 rfl rfl ?_
      refine r_dup F dX0_takeRing_41 rfl ?_
      refine r_chk (fun h2 => ?_)
      refine gf_X0_48 F dX0_takeRing_42 (kb_k h2) ?_
      refine r_iconst F dX0_takeRing_45 (v := 1) (by decide) ?_
      refine r_iadd F dX0_takeRing_46 ?_
      refine pf_X0_48 F dX0_takeRing_47 (kb_k h2) (fun M47 => ?_)
      refine r_aload_n F 0 dX0_takeRing_50 rfl rfl ?_
      refine r_dup F dX0_takeRing_51 rfl ?_
      refine gf_X0_51 F dX0_takeRing_52 (kb_k h2) ?_
      refine r_aload_n F 1 dX0_takeRing_55 rfl rfl ?_
      refine gf_X0_69 F dX0_takeRing_56 (rfl : kd 10 = 4) ?_
      refine r_aload_n F 1 dX0_takeRing_59 rfl rfl ?_
      refine gf_X0_57 F dX0_takeRing_60 (rfl : kd 10 = 4) ?_
      refine r_imul F dX0_takeRing_63 ?_
      refine r_iadd F dX0_takeRing_64 ?_
      refine pf_X0_51 F dX0_takeRing_65 (kb_k h2) (fun M65 => ?_)
      exact r_vret F rfl dX0_takeRing_68 rfl
    · refine r_aload_n F 0 dX0_takeRing_10 rfl rfl ?_
      refine r_chk (fun h3 => ?_)
      refine gf_X0_23 F dX0_takeRing_11 (kb_k h3) ?_
      refine r_aload_n F 1 dX0_takeRing_14 rfl rfl ?_
      refine gf_X0_62 F dX0_takeRing_15 (rfl : kd 10 = 4) ?_
      refine r_iload_n F 2 dX0_takeRing_18 rfl rfl ?_
      refine r_chk (fun h4 => ?_)
      refine r_iald F dX0_takeRing_19 (rfl : kd 11 = 8) (rfl : al 11 = 6) h4 ?_
      refine r_chk (fun h5 => ?_)
      refine r_aaldR F dX0_takeRing_20 (kLd (kb_k h3)) h5 ?_
      refine r_bra (kRw (kLd (kb_k h3)) h5) (aRw (kLd (kb_k h3)) h5) (fun b20 k20 k20a => ?_)
      refine r_aload_n F 1 dX0_takeRing_21 rfl rfl ?_
      refine r_iload_n F 2 dX0_takeRing_22 rfl rfl ?_
      refine r_cVN (val := vI) (As := [.int y2]) (rest := [.ref (gA G b20)]) (fun q9 => .int q9 :: [.ref (gA G b20)]) F (c_X2_following F.st F.gg y2 M) (fun _ _ => rfl) dX0_takeRing_23 mn_X0_65 yv_X2_following (rfl : kd 10 = 4) (by decide) rfl rfl (by decide) rfl (Nat.le_of_ble_eq_true rfl) (fun _ => rfl) (fun r23 M23 => ?_)
      refine r_dup2 F dX0_takeRing_26 rfl rfl ?_
      refine r_chk (fun h6 => ?_)
      refine r_iald F dX0_takeRing_27 k20 k20a h6 ?_
      refine r_aload_n F 1 dX0_takeRing_28 rfl rfl ?_
      refine gf_X0_69 F dX0_takeRing_29 (rfl : kd 10 = 4) ?_
      refine r_isub F dX0_takeRing_32 ?_
      refine r_chk (fun h7 => ?_)
      refine r_iast F dX0_takeRing_33 k20 k20a h7 (fun M33 => ?_)
      refine r_iinc (ls' := fun q9 => [(2, .int q9), (0, .ref (gA G y0)), (1, .ref (gA G 10))]) (k := 2) (v := y2 + (1 : Int32)) F dX0_takeRing_34 rfl rfl (by decide) (fun _ => rfl) (fun x34 => ?_)
      refine r_goto (tgt := 2) F dX0_takeRing_37 (by decide) ?_
      refine r_sub [1, 2, 0] rfl ?_
      exact ih y0 x34 M33

def f_X0_takeRing (a0 : Nat) (M : Mem) : Option (Unit × Mem) := f_X0_takeRing_2  FU a0 (0 : Int32) M

set_option maxRecDepth 100000 in
set_option maxHeartbeats 4000000 in
theorem b_X0_takeRing {G : GM} {p : Program} {l : Launch} {e : Env} {s : State} {m : MethodId} {args : Array Value} {below : List Frame} {meth : Method} {c : Code} (F : Fx G p l s m args meth c cX0_takeRing RX0 3 none) (a0 : Nat) (M : Mem) : Rf G p l e s m args below meth c 7 3 emV (f_X0_takeRing a0 M) 0 [(0, .ref (gA G a0)), (1, .ref (gA G 10))] [] M := by
  unfold f_X0_takeRing
  refine r_iconst F dX0_takeRing_0 (v := 0) (by decide) ?_
  refine r_istore_n (ls' := [(2, .int (0 : Int32)), (0, .ref (gA G a0)), (1, .ref (gA G 10))]) F dX0_takeRing_1 rfl (by decide) rfl ?_
  refine r_sub [1, 2, 0] rfl ?_
  exact l_X0_takeRing_2 F   FU a0 (0 : Int32) M

set_option maxRecDepth 100000 in
set_option maxHeartbeats 4000000 in
theorem c_X0_takeRing {l : Launch} {G : GM} (hl : l.stackTraces = false) (hG : GG G) (a0 : Nat) (M : Mem) : ∀ r, f_X0_takeRing a0 M = some r → Ctr l G yX0_takeRing (.code yX0_takeRing cX0_takeRing 3 none :: wsA) 7 [.ref (gA G a0), .ref (gA G 10)] M (emV r) :=
  ctr_of (by decide) hl hG (Nat.le_of_ble_eq_true rfl) (fun p e s m args below meth c F => b_X0_takeRing F a0 M)

-- ===== X6_settle DrumTowns.settle()I =====
theorem yv_X6_settle : yV yX6_settle cX6_settle 2 (some .int) 0 := ⟨im_X6_settle, sl_X6_settle, ini_X6, cd_X6_settle, ⟨by decide, by decide, by decide +kernel⟩, by decide⟩

def f_X6_settle_61 (y1 : Int32) (M : Mem) : Option (Int32 × Mem) := some (y1, M)

set_option maxRecDepth 100000 in
set_option maxHeartbeats 4000000 in
theorem l_X6_settle_61 {G : GM} {p : Program} {l : Launch} {e : Env} {s : State} {m : MethodId} {args : Array Value} {below : List Frame} {meth : Method} {c : Code} (F : Fx G p l s m args meth c cX6_settle RX6 2 (some .int)) (y1 : Int32) (M : Mem) : Rf G p l e s m args below meth c 17 2 emI (f_X6_settle_61  y1 M) 61 [(1, .int y1)] [] M := by
  unfold f_X6_settle_61
  refine r_iload_n F 0 dX6_settle_61 rfl rfl ?_
  exact r_iret F rfl dX6_settle_62 rfl

def f_X6_settle_17 : Nat → Int32 → Mem → Option (Int32 × Mem)
  | 0, _, _ => none
  | n + 1, y1, M => if (M.1 10 1) ≤ 0 then (f_X6_settle_61  y1 M) else (if (30 : Int32) ≤ y1 then (f_X6_settle_61  y1 M) else (bn (f_X0_takeRing 34 M) fun _ M41 => bnd (y1 + (1 : Int32)) fun x44 => bn (f_X2_find 34 M41) fun _ M55 => f_X6_settle_17  n x44 M55))

set_option maxRecDepth 100000 in
set_option maxHeartbeats 4000000 in
theorem l_X6_settle_17 {G : GM} {p : Program} {l : Launch} {e : Env} {s : State} {m : MethodId} {args : Array Value} {below : List Frame} {meth : Method} {c : Code} (F : Fx G p l s m args meth c cX6_settle RX6 2 (some .int)) : ∀ (n : Nat) (y1 : Int32) (M : Mem), Rf G p l e s m args below meth c 17 2 emI (f_X6_settle_17  n y1 M) 17 [(0, .ref (gA G 0)), (1, .int y1)] [] M := by
  intro n
  induction n with
  | zero => intros; exact r_none
  | succ n ih =>
    intro y1 M
    rw [f_X6_settle_17]
    refine r_aload_n F 0 dX6_settle_17 rfl rfl ?_
    refine gf_X6_37 F dX6_settle_18 (rfl : kd 0 = 0) ?_
    refine gf_X6_180 F dX6_settle_21 (rfl : kd 10 = 4) ?_
    refine r_if_le (tgt := 61) F dX6_settle_24 (by decide) (fun c1 => ?_) (fun c1 => ?_)
    · refine r_sub [1] rfl ?_
      exact l_X6_settle_61 F   y1 M
    · refine r_iload_n F 1 dX6_settle_27 rfl rfl ?_
      refine r_bipush F dX6_settle_28 (v := 30) (by decide) ?_
      refine r_icmp_ge (tgt := 61) F dX6_settle_30 (by decide) (fun c2 => ?_) (fun c2 => ?_)
      · refine r_sub [1] rfl ?_
        exact l_X6_settle_61 F   y1 M
      · refine r_aload_n F 0 dX6_settle_33 rfl rfl ?_
        refine gf_X6_10 F dX6_settle_34 (rfl : kd 0 = 0) ?_
        refine r_aload_n F 0 dX6_settle_37 rfl rfl ?_
        refine gf_X6_37 F dX6_settle_38 (rfl : kd 0 = 0) ?_
        refine r_cVN (val := vU) (As := [.ref (gA G 10)]) (rest := []) (fun _ => []) F (c_X0_takeRing F.st F.gg 34 M) (fun _ _ => rfl) dX6_settle_41 mn_X6_183 yv_X0_takeRing (rfl : kd 34 = 1) (by decide) rfl rfl (by decide) rfl (Nat.le_of_ble_eq_true rfl) (fun _ => rfl) (fun _ M41 => ?_)
        refine r_iinc (ls' := fun q9 => [(1, .int q9), (0, .ref (gA G 0))]) (k := 1) (v := y1 + (1 : Int32)) F dX6_settle_44 rfl rfl (by decide) (fun _ => rfl) (fun x44 => ?_)
        refine r_aload_n F 1 dX6_settle_47 rfl rfl ?_
        refine gf_X6_37 F dX6_settle_48 (rfl : kd 0 = 0) ?_
        refine r_aload_n F 1 dX6_settle_51 rfl rfl ?_
        refine gf_X6_10 F dX6_settle_52 (rfl : kd 0 = 0) ?_
        refine r_cVN (val := vU) (As := [.ref (gA G 34)]) (rest := []) (fun _ => []) F (c_X2_find F.st F.gg 34 M41) (fun _ _ => rfl) dX6_settle_55 mn_X6_176 yv_X2_find (rfl : kd 10 = 4) (by decide) rfl rfl (by decide) rfl (Nat.le_of_ble_eq_true rfl) (fun _ => rfl) (fun _ M55 => ?_)
        refine r_goto (tgt := 17) F dX6_settle_58 (by decide) ?_
        refine r_sub [1, 0] rfl ?_
        exact ih x44 M55

def f_X6_settle  (M : Mem) : Option (Int32 × Mem) := bn (f_X6_saveState M) fun _ M1 => bn (f_X2_find 34 M1) fun _ M14 => f_X6_settle_17  FU (0 : Int32) M14

set_option maxRecDepth 100000 in
set_option maxHeartbeats 4000000 in
theorem b_X6_settle {G : GM} {p : Program} {l : Launch} {e : Env} {s : State} {m : MethodId} {args : Array Value} {below : List Frame} {meth : Method} {c : Code} (F : Fx G p l s m args meth c cX6_settle RX6 2 (some .int))  (M : Mem) : Rf G p l e s m args below meth c 17 2 emI (f_X6_settle  M) 0 [(0, .ref (gA G 0))] [] M := by
  unfold f_X6_settle
  refine r_aload_n F 0 dX6_settle_0 rfl rfl ?_
  refine r_cV (val := vU) (As := []) (rest := []) (fun _ => []) F (c_X6_saveState F.st F.gg  M) (fun _ _ => rfl) dX6_settle_1 ml_X6_73 yv_X6_saveState (rfl : kd 0 = 0) (by decide) rfl rfl (by decide) rfl (Nat.le_of_ble_eq_true rfl) (fun _ => rfl) (fun _ M1 => ?_)
  refine r_iconst F dX6_settle_4 (v := 0) (by decide) ?_
  refine r_istore_n (ls' := [(1, .int (0 : Int32)), (0, .ref (gA G 0))]) F dX6_settle_5 rfl (by decide) rfl ?_
  refine r_aload_n F 1 dX6_settle_6 rfl rfl ?_
  refine gf_X6_37 F dX6_settle_7 (rfl : kd 0 = 0) ?_
  refine r_aload_n F 1 dX6_settle_10 rfl rfl ?_
  refine gf_X6_10 F dX6_settle_11 (rfl : kd 0 = 0) ?_
  refine r_cVN (val := vU) (As := [.ref (gA G 34)]) (rest := []) (fun _ => []) F (c_X2_find F.st F.gg 34 M1) (fun _ _ => rfl) dX6_settle_14 mn_X6_176 yv_X2_find (rfl : kd 10 = 4) (by decide) rfl rfl (by decide) rfl (Nat.le_of_ble_eq_true rfl) (fun _ => rfl) (fun _ M14 => ?_)
  refine r_sub [1, 0] rfl ?_
  exact l_X6_settle_17 F   FU (0 : Int32) M14

set_option maxRecDepth 100000 in
set_option maxHeartbeats 4000000 in
theorem c_X6_settle {l : Launch} {G : GM} (hl : l.stackTraces = false) (hG : GG G)  (M : Mem) : ∀ r, f_X6_settle  M = some r → Ctr l G yX6_settle (.code yX6_settle cX6_settle 2 (some .int) :: wsA) 17 [.ref (gA G 0)] M (emI r) :=
  ctr_of (by decide) hl hG (Nat.le_of_ble_eq_true rfl) (fun p e s m args below meth c F => b_X6_settle F  M)

-- ===== L_isSettled DrumTownsLaw.isSettled(LDrumTowns;I)Z =====
theorem ys_L_isSettled : yS yL_isSettled cL_isSettled 9 (some .boolean) 2 := ⟨sc_L_isSettled, ini_L, cd_L_isSettled, ⟨by decide, by decide, by decide +kernel⟩, by decide⟩

def f_L_isSettled_176 (z0 : Int32) (M : Mem) : Option ((Int32 ⊕ String) × Mem) := chk (isb z0) <| some (.inl z0, M)

set_option maxRecDepth 100000 in
set_option maxHeartbeats 4000000 in
theorem l_L_isSettled_176 {G : GM} {p : Program} {l : Launch} {e : Env} {s : State} {m : MethodId} {args : Array Value} {below : List Frame} {meth : Method} {c : Code} (F : Fx G p l s m args meth c cL_isSettled RL 9 (some .boolean)) (z0 : Int32) (M : Mem) : Rf G p l e s m args below meth c 18 9 (emT vI) (f_L_isSettled_176  z0 M) 176 [] [.int z0] M := by
  unfold f_L_isSettled_176
  refine r_chk (fun h1 => ?_)
  exact r_zret F rfl dL_isSettled_176 rfl (isb_or h1)

def f_L_isSettled_175  (M : Mem) : Option ((Int32 ⊕ String) × Mem) := f_L_isSettled_176  (0 : Int32) M

set_option maxRecDepth 100000 in
set_option maxHeartbeats 4000000 in
theorem l_L_isSettled_175 {G : GM} {p : Program} {l : Launch} {e : Env} {s : State} {m : MethodId} {args : Array Value} {below : List Frame} {meth : Method} {c : Code} (F : Fx G p l s m args meth c cL_isSettled RL 9 (some .boolean))  (M : Mem) : Rf G p l e s m args below meth c 18 9 (emT vI) (f_L_isSettled_175   M) 175 [] [] M := by
  unfold f_L_isSettled_175
  refine r_iconst F dL_isSettled_175 (v := 0) (by decide) ?_
  refine r_sub [] rfl ?_
  exact l_L_isSettled_176 F   (0 : Int32) M

def f_L_isSettled_150 (y3 : Int32) (z0 : Int32) (M : Mem) : Option ((Int32 ⊕ String) × Mem) := bt (f_X6_undo M) fun r153 M153 => if z0 = 0 then (f_L_isSettled_175   M153) else (bt (f_X6_count (3 : Int32) M153) fun r164 M164 => if r164 = y3 then (f_L_isSettled_176  (1 : Int32) M164) else (f_L_isSettled_175   M164))

set_option maxRecDepth 100000 in
set_option maxHeartbeats 4000000 in
theorem l_L_isSettled_150 {G : GM} {p : Program} {l : Launch} {e : Env} {s : State} {m : MethodId} {args : Array Value} {below : List Frame} {meth : Method} {c : Code} (F : Fx G p l s m args meth c cL_isSettled RL 9 (some .boolean)) (y3 : Int32) (z0 : Int32) (M : Mem) : Rf G p l e s m args below meth c 18 9 (emT vI) (f_L_isSettled_150  y3 z0 M) 150 [(0, .ref (gA G 0)), (3, .int y3)] [.int z0] M := by
  unfold f_L_isSettled_150
  refine r_istore (ls' := [(8, .int z0), (0, .ref (gA G 0)), (3, .int y3)]) F dL_isSettled_150 (by decide) rfl ?_
  refine r_aload_n F 1 dL_isSettled_152 rfl rfl ?_
  refine r_tV (val := vI) (As := []) (rest := []) (fun q9 => .int q9 :: []) F (c_X6_undo F.st F.gg  M) dL_isSettled_153 ml_L_107 yv_X6_undo (rfl : kd 0 = 0) (by decide) rfl rfl (by decide) rfl (Nat.le_of_ble_eq_true rfl) (fun _ => rfl) (fun r153 M153 => ?_)
  refine r_pop F dL_isSettled_156 rfl ?_
  refine r_iload F 0 dL_isSettled_157 rfl ?_
  refine r_if_eq (tgt := 175) F dL_isSettled_159 (by decide) (fun c1 => ?_) (fun c1 => ?_)
  · refine r_sub [] rfl ?_
    exact l_L_isSettled_175 F    M153
  · refine r_aload_n F 1 dL_isSettled_162 rfl rfl ?_
    refine r_iconst F dL_isSettled_163 (v := 3) (by decide) ?_
    refine r_tV (val := vI) (As := [.int (3 : Int32)]) (rest := []) (fun q9 => .int q9 :: []) F (c_X6_count F.st F.gg (3 : Int32) M153) dL_isSettled_164 ml_L_53 yv_X6_count (rfl : kd 0 = 0) (by decide) rfl rfl (by decide) rfl (Nat.le_of_ble_eq_true rfl) (fun _ => rfl) (fun r164 M164 => ?_)
    refine r_iload_n F 2 dL_isSettled_167 rfl rfl ?_
    refine r_icmp_ne (tgt := 175) F dL_isSettled_168 (by decide) (fun c2 => ?_) (fun c2 => ?_)
    · refine r_iconst F dL_isSettled_171 (v := 1) (by decide) ?_
      refine r_goto (tgt := 176) F dL_isSettled_172 (by decide) ?_
      refine r_sub [] rfl ?_
      exact l_L_isSettled_176 F   (1 : Int32) M164
    · refine r_sub [] rfl ?_
      exact l_L_isSettled_175 F    M164

def f_L_isSettled_149 (y3 : Int32) (M : Mem) : Option ((Int32 ⊕ String) × Mem) := f_L_isSettled_150  y3 (0 : Int32) M

set_option maxRecDepth 100000 in
set_option maxHeartbeats 4000000 in
theorem l_L_isSettled_149 {G : GM} {p : Program} {l : Launch} {e : Env} {s : State} {m : MethodId} {args : Array Value} {below : List Frame} {meth : Method} {c : Code} (F : Fx G p l s m args meth c cL_isSettled RL 9 (some .boolean)) (y3 : Int32) (M : Mem) : Rf G p l e s m args below meth c 18 9 (emT vI) (f_L_isSettled_149  y3 M) 149 [(0, .ref (gA G 0)), (3, .int y3)] [] M := by
  unfold f_L_isSettled_149
  refine r_iconst F dL_isSettled_149 (v := 0) (by decide) ?_
  refine r_sub [0, 1] rfl ?_
  exact l_L_isSettled_150 F   y3 (0 : Int32) M

def f_L_isSettled_69 (y1 : Int32) (y2 : Int32) (y3 : Int32) (y4 : Int32) (y5 : Int32) (y6 : Int32) (y7 : Int32) (z0 : Int32) (M : Mem) : Option ((Int32 ⊕ String) × Mem) := if z0 = y6 then (bt (f_X6_ring (0 : Int32) M) fun r76 M76 => if r76 = (-1 : Int32) then (bt (f_X6_ring (10 : Int32) M76) fun r86 M86 => if r86 = (-1 : Int32) then (bt (f_X6_town y1 (7 : Int32) M86) fun r97 M97 => bt (f_X6_town y1 (6 : Int32) M97) fun r104 M104 => if (r97 - r104) = y2 then (bt (f_X6_count (7 : Int32) M104) fun r115 M115 => if r115 = (y5 + y7) then (bt (f_X6_count (8 : Int32) M115) fun r129 M129 => bt (f_X6_count (3 : Int32) M129) fun r138 M138 => if (r129 - y4) = (y3 - r138) then (f_L_isSettled_150  y3 (1 : Int32) M138) else (f_L_isSettled_149  y3 M138)) else (f_L_isSettled_149  y3 M115)) else (f_L_isSettled_149  y3 M104)) else (f_L_isSettled_149  y3 M86)) else (f_L_isSettled_149  y3 M76)) else (f_L_isSettled_149  y3 M)

set_option maxRecDepth 100000 in
set_option maxHeartbeats 4000000 in
theorem l_L_isSettled_69 {G : GM} {p : Program} {l : Launch} {e : Env} {s : State} {m : MethodId} {args : Array Value} {below : List Frame} {meth : Method} {c : Code} (F : Fx G p l s m args meth c cL_isSettled RL 9 (some .boolean)) (y1 : Int32) (y2 : Int32) (y3 : Int32) (y4 : Int32) (y5 : Int32) (y6 : Int32) (y7 : Int32) (z0 : Int32) (M : Mem) : Rf G p l e s m args below meth c 18 9 (emT vI) (f_L_isSettled_69  y1 y2 y3 y4 y5 y6 y7 z0 M) 69 [(0, .ref (gA G 0)), (1, .int y1), (2, .int y2), (3, .int y3), (4, .int y4), (5, .int y5), (6, .int y6), (7, .int y7)] [.int z0] M := by
  unfold f_L_isSettled_69
  refine r_iload F 6 dL_isSettled_69 rfl ?_
  refine r_icmp_ne (tgt := 149) F dL_isSettled_71 (by decide) (fun c1 => ?_) (fun c1 => ?_)
  · refine r_aload_n F 0 dL_isSettled_74 rfl rfl ?_
    refine r_iconst F dL_isSettled_75 (v := 0) (by decide) ?_
    refine r_tV (val := vI) (As := [.int (0 : Int32)]) (rest := []) (fun q9 => .int q9 :: []) F (c_X6_ring F.st F.gg (0 : Int32) M) dL_isSettled_76 ml_L_110 yv_X6_ring (rfl : kd 0 = 0) (by decide) rfl rfl (by decide) rfl (Nat.le_of_ble_eq_true rfl) (fun _ => rfl) (fun r76 M76 => ?_)
    refine r_iconst F dL_isSettled_79 (v := -1) (by decide) ?_
    refine r_icmp_ne (tgt := 149) F dL_isSettled_80 (by decide) (fun c2 => ?_) (fun c2 => ?_)
    · refine r_aload_n F 0 dL_isSettled_83 rfl rfl ?_
      refine r_bipush F dL_isSettled_84 (v := 10) (by decide) ?_
      refine r_tV (val := vI) (As := [.int (10 : Int32)]) (rest := []) (fun q9 => .int q9 :: []) F (c_X6_ring F.st F.gg (10 : Int32) M76) dL_isSettled_86 ml_L_110 yv_X6_ring (rfl : kd 0 = 0) (by decide) rfl rfl (by decide) rfl (Nat.le_of_ble_eq_true rfl) (fun _ => rfl) (fun r86 M86 => ?_)
      refine r_iconst F dL_isSettled_89 (v := -1) (by decide) ?_
      refine r_icmp_ne (tgt := 149) F dL_isSettled_90 (by decide) (fun c3 => ?_) (fun c3 => ?_)
      · refine r_aload_n F 0 dL_isSettled_93 rfl rfl ?_
        refine r_iload_n F 1 dL_isSettled_94 rfl rfl ?_
        refine r_bipush F dL_isSettled_95 (v := 7) (by decide) ?_
        refine r_tV (val := vI) (As := [.int y1, .int (7 : Int32)]) (rest := []) (fun q9 => .int q9 :: []) F (c_X6_town F.st F.gg y1 (7 : Int32) M86) dL_isSettled_97 ml_L_89 yv_X6_town (rfl : kd 0 = 0) (by decide) rfl rfl (by decide) rfl (Nat.le_of_ble_eq_true rfl) (fun _ => rfl) (fun r97 M97 => ?_)
        refine r_aload_n F 0 dL_isSettled_100 rfl rfl ?_
        refine r_iload_n F 1 dL_isSettled_101 rfl rfl ?_
        refine r_bipush F dL_isSettled_102 (v := 6) (by decide) ?_
        refine r_tV (val := vI) (As := [.int y1, .int (6 : Int32)]) (rest := [.int r97]) (fun q9 => .int q9 :: [.int r97]) F (c_X6_town F.st F.gg y1 (6 : Int32) M97) dL_isSettled_104 ml_L_89 yv_X6_town (rfl : kd 0 = 0) (by decide) rfl rfl (by decide) rfl (Nat.le_of_ble_eq_true rfl) (fun _ => rfl) (fun r104 M104 => ?_)
        refine r_isub F dL_isSettled_107 ?_
        refine r_iload_n F 2 dL_isSettled_108 rfl rfl ?_
        refine r_icmp_ne (tgt := 149) F dL_isSettled_109 (by decide) (fun c4 => ?_) (fun c4 => ?_)
        · refine r_aload_n F 0 dL_isSettled_112 rfl rfl ?_
          refine r_bipush F dL_isSettled_113 (v := 7) (by decide) ?_
          refine r_tV (val := vI) (As := [.int (7 : Int32)]) (rest := []) (fun q9 => .int q9 :: []) F (c_X6_count F.st F.gg (7 : Int32) M104) dL_isSettled_115 ml_L_53 yv_X6_count (rfl : kd 0 = 0) (by decide) rfl rfl (by decide) rfl (Nat.le_of_ble_eq_true rfl) (fun _ => rfl) (fun r115 M115 => ?_)
          refine r_iload F 5 dL_isSettled_118 rfl ?_
          refine r_iload F 7 dL_isSettled_120 rfl ?_
          refine r_iadd F dL_isSettled_122 ?_
          refine r_icmp_ne (tgt := 149) F dL_isSettled_123 (by decide) (fun c5 => ?_) (fun c5 => ?_)
          · refine r_aload_n F 0 dL_isSettled_126 rfl rfl ?_
            refine r_bipush F dL_isSettled_127 (v := 8) (by decide) ?_
            refine r_tV (val := vI) (As := [.int (8 : Int32)]) (rest := []) (fun q9 => .int q9 :: []) F (c_X6_count F.st F.gg (8 : Int32) M115) dL_isSettled_129 ml_L_53 yv_X6_count (rfl : kd 0 = 0) (by decide) rfl rfl (by decide) rfl (Nat.le_of_ble_eq_true rfl) (fun _ => rfl) (fun r129 M129 => ?_)
            refine r_iload F 4 dL_isSettled_132 rfl ?_
            refine r_isub F dL_isSettled_134 ?_
            refine r_iload_n F 3 dL_isSettled_135 rfl rfl ?_
            refine r_aload_n F 0 dL_isSettled_136 rfl rfl ?_
            refine r_iconst F dL_isSettled_137 (v := 3) (by decide) ?_
            refine r_tV (val := vI) (As := [.int (3 : Int32)]) (rest := [.int y3, .int (r129 - y4)]) (fun q9 => .int q9 :: [.int y3, .int (r129 - y4)]) F (c_X6_count F.st F.gg (3 : Int32) M129) dL_isSettled_138 ml_L_53 yv_X6_count (rfl : kd 0 = 0) (by decide) rfl rfl (by decide) rfl (Nat.le_of_ble_eq_true rfl) (fun _ => rfl) (fun r138 M138 => ?_)
            refine r_isub F dL_isSettled_141 ?_
            refine r_icmp_ne (tgt := 149) F dL_isSettled_142 (by decide) (fun c6 => ?_) (fun c6 => ?_)
            · refine r_iconst F dL_isSettled_145 (v := 1) (by decide) ?_
              refine r_goto (tgt := 150) F dL_isSettled_146 (by decide) ?_
              refine r_sub [0, 3] rfl ?_
              exact l_L_isSettled_150 F   y3 (1 : Int32) M138
            · refine r_sub [0, 3] rfl ?_
              exact l_L_isSettled_149 F   y3 M138
          · refine r_sub [0, 3] rfl ?_
            exact l_L_isSettled_149 F   y3 M115
        · refine r_sub [0, 3] rfl ?_
          exact l_L_isSettled_149 F   y3 M104
      · refine r_sub [0, 3] rfl ?_
        exact l_L_isSettled_149 F   y3 M86
    · refine r_sub [0, 3] rfl ?_
      exact l_L_isSettled_149 F   y3 M76
  · refine r_sub [0, 3] rfl ?_
    exact l_L_isSettled_149 F   y3 M

def f_L_isSettled_51 (y1 : Int32) (y2 : Int32) (y3 : Int32) (y4 : Int32) (y5 : Int32) (z0 : Int32) (M : Mem) : Option ((Int32 ⊕ String) × Mem) := bn (f_X6_settle M) fun r54 M54 => if r54 ≤ 0 then (f_L_isSettled_69  y1 y2 y3 y4 y5 z0 r54 (0 : Int32) M54) else (f_L_isSettled_69  y1 y2 y3 y4 y5 z0 r54 (1 : Int32) M54)

set_option maxRecDepth 100000 in
set_option maxHeartbeats 4000000 in
theorem l_L_isSettled_51 {G : GM} {p : Program} {l : Launch} {e : Env} {s : State} {m : MethodId} {args : Array Value} {below : List Frame} {meth : Method} {c : Code} (F : Fx G p l s m args meth c cL_isSettled RL 9 (some .boolean)) (y1 : Int32) (y2 : Int32) (y3 : Int32) (y4 : Int32) (y5 : Int32) (z0 : Int32) (M : Mem) : Rf G p l e s m args below meth c 18 9 (emT vI) (f_L_isSettled_51  y1 y2 y3 y4 y5 z0 M) 51 [(0, .ref (gA G 0)), (1, .int y1), (2, .int y2), (3, .int y3), (4, .int y4), (5, .int y5)] [.int z0] M := by
  unfold f_L_isSettled_51
  refine r_istore (ls' := [(6, .int z0), (0, .ref (gA G 0)), (1, .int y1), (2, .int y2), (3, .int y3), (4, .int y4), (5, .int y5)]) F dL_isSettled_51 (by decide) rfl ?_
  refine r_aload_n F 1 dL_isSettled_53 rfl rfl ?_
  refine r_cV (val := vI) (As := []) (rest := []) (fun q9 => .int q9 :: []) F (c_X6_settle F.st F.gg  M) (fun _ _ => rfl) dL_isSettled_54 ml_L_85 yv_X6_settle (rfl : kd 0 = 0) (by decide) rfl rfl (by decide) rfl (Nat.le_of_ble_eq_true rfl) (fun _ => rfl) (fun r54 M54 => ?_)
  refine r_istore (ls' := [(7, .int r54), (6, .int z0), (0, .ref (gA G 0)), (1, .int y1), (2, .int y2), (3, .int y3), (4, .int y4), (5, .int y5)]) F dL_isSettled_57 (by decide) rfl ?_
  refine r_iload F 0 dL_isSettled_59 rfl ?_
  refine r_if_le (tgt := 68) F dL_isSettled_61 (by decide) (fun c1 => ?_) (fun c1 => ?_)
  · refine r_iconst F dL_isSettled_68 (v := 0) (by decide) ?_
    refine r_sub [2, 3, 4, 5, 6, 7, 1, 0] rfl ?_
    exact l_L_isSettled_69 F   y1 y2 y3 y4 y5 z0 r54 (0 : Int32) M54
  · refine r_iconst F dL_isSettled_64 (v := 1) (by decide) ?_
    refine r_goto (tgt := 69) F dL_isSettled_65 (by decide) ?_
    refine r_sub [2, 3, 4, 5, 6, 7, 1, 0] rfl ?_
    exact l_L_isSettled_69 F   y1 y2 y3 y4 y5 z0 r54 (1 : Int32) M54

def f_L_isSettled (a1 : Int32) (M : Mem) : Option ((Int32 ⊕ String) × Mem) := bt (f_X6_town a1 (7 : Int32) M) fun r4 M4 => bt (f_X6_town a1 (6 : Int32) M4) fun r11 M11 => bnd (r4 - r11) fun x15 => bt (f_X6_count (3 : Int32) M11) fun r18 M18 => bt (f_X6_count (8 : Int32) M18) fun r25 M25 => bt (f_X6_count (7 : Int32) M25) fun r33 M33 => bt (f_X6_ring (0 : Int32) M33) fun r40 M40 => if r40 ≤ 0 then (f_L_isSettled_51  a1 x15 r18 r25 r33 (0 : Int32) M40) else (f_L_isSettled_51  a1 x15 r18 r25 r33 (1 : Int32) M40)

set_option maxRecDepth 100000 in
set_option maxHeartbeats 4000000 in
theorem b_L_isSettled {G : GM} {p : Program} {l : Launch} {e : Env} {s : State} {m : MethodId} {args : Array Value} {below : List Frame} {meth : Method} {c : Code} (F : Fx G p l s m args meth c cL_isSettled RL 9 (some .boolean)) (a1 : Int32) (M : Mem) : Rf G p l e s m args below meth c 18 9 (emT vI) (f_L_isSettled a1 M) 0 [(0, .ref (gA G 0)), (1, .int a1)] [] M := by
  unfold f_L_isSettled
  refine r_aload_n F 0 dL_isSettled_0 rfl rfl ?_
  refine r_iload_n F 1 dL_isSettled_1 rfl rfl ?_
  refine r_bipush F dL_isSettled_2 (v := 7) (by decide) ?_
  refine r_tV (val := vI) (As := [.int a1, .int (7 : Int32)]) (rest := []) (fun q9 => .int q9 :: []) F (c_X6_town F.st F.gg a1 (7 : Int32) M) dL_isSettled_4 ml_L_89 yv_X6_town (rfl : kd 0 = 0) (by decide) rfl rfl (by decide) rfl (Nat.le_of_ble_eq_true rfl) (fun _ => rfl) (fun r4 M4 => ?_)
  refine r_aload_n F 0 dL_isSettled_7 rfl rfl ?_
  refine r_iload_n F 1 dL_isSettled_8 rfl rfl ?_
  refine r_bipush F dL_isSettled_9 (v := 6) (by decide) ?_
  refine r_tV (val := vI) (As := [.int a1, .int (6 : Int32)]) (rest := [.int r4]) (fun q9 => .int q9 :: [.int r4]) F (c_X6_town F.st F.gg a1 (6 : Int32) M4) dL_isSettled_11 ml_L_89 yv_X6_town (rfl : kd 0 = 0) (by decide) rfl rfl (by decide) rfl (Nat.le_of_ble_eq_true rfl) (fun _ => rfl) (fun r11 M11 => ?_)
  refine r_isub F dL_isSettled_14 ?_
  refine r_bi (fun x15 => ?_)
  refine r_istore_n (ls' := [(2, .int x15), (0, .ref (gA G 0)), (1, .int a1)]) F dL_isSettled_15 rfl (by decide) rfl ?_
  refine r_aload_n F 1 dL_isSettled_16 rfl rfl ?_
  refine r_iconst F dL_isSettled_17 (v := 3) (by decide) ?_
  refine r_tV (val := vI) (As := [.int (3 : Int32)]) (rest := []) (fun q9 => .int q9 :: []) F (c_X6_count F.st F.gg (3 : Int32) M11) dL_isSettled_18 ml_L_53 yv_X6_count (rfl : kd 0 = 0) (by decide) rfl rfl (by decide) rfl (Nat.le_of_ble_eq_true rfl) (fun _ => rfl) (fun r18 M18 => ?_)
  refine r_istore_n (ls' := [(3, .int r18), (2, .int x15), (0, .ref (gA G 0)), (1, .int a1)]) F dL_isSettled_21 rfl (by decide) rfl ?_
  refine r_aload_n F 2 dL_isSettled_22 rfl rfl ?_
  refine r_bipush F dL_isSettled_23 (v := 8) (by decide) ?_
  refine r_tV (val := vI) (As := [.int (8 : Int32)]) (rest := []) (fun q9 => .int q9 :: []) F (c_X6_count F.st F.gg (8 : Int32) M18) dL_isSettled_25 ml_L_53 yv_X6_count (rfl : kd 0 = 0) (by decide) rfl rfl (by decide) rfl (Nat.le_of_ble_eq_true rfl) (fun _ => rfl) (fun r25 M25 => ?_)
  refine r_istore (ls' := [(4, .int r25), (3, .int r18), (2, .int x15), (0, .ref (gA G 0)), (1, .int a1)]) F dL_isSettled_28 (by decide) rfl ?_
  refine r_aload_n F 3 dL_isSettled_30 rfl rfl ?_
  refine r_bipush F dL_isSettled_31 (v := 7) (by decide) ?_
  refine r_tV (val := vI) (As := [.int (7 : Int32)]) (rest := []) (fun q9 => .int q9 :: []) F (c_X6_count F.st F.gg (7 : Int32) M25) dL_isSettled_33 ml_L_53 yv_X6_count (rfl : kd 0 = 0) (by decide) rfl rfl (by decide) rfl (Nat.le_of_ble_eq_true rfl) (fun _ => rfl) (fun r33 M33 => ?_)
  refine r_istore (ls' := [(5, .int r33), (4, .int r25), (3, .int r18), (2, .int x15), (0, .ref (gA G 0)), (1, .int a1)]) F dL_isSettled_36 (by decide) rfl ?_
  refine r_aload_n F 4 dL_isSettled_38 rfl rfl ?_
  refine r_iconst F dL_isSettled_39 (v := 0) (by decide) ?_
  refine r_tV (val := vI) (As := [.int (0 : Int32)]) (rest := []) (fun q9 => .int q9 :: []) F (c_X6_ring F.st F.gg (0 : Int32) M33) dL_isSettled_40 ml_L_110 yv_X6_ring (rfl : kd 0 = 0) (by decide) rfl rfl (by decide) rfl (Nat.le_of_ble_eq_true rfl) (fun _ => rfl) (fun r40 M40 => ?_)
  refine r_if_le (tgt := 50) F dL_isSettled_43 (by decide) (fun c1 => ?_) (fun c1 => ?_)
  · refine r_iconst F dL_isSettled_50 (v := 0) (by decide) ?_
    refine r_sub [4, 5, 3, 2, 1, 0] rfl ?_
    exact l_L_isSettled_51 F   a1 x15 r18 r25 r33 (0 : Int32) M40
  · refine r_iconst F dL_isSettled_46 (v := 1) (by decide) ?_
    refine r_goto (tgt := 51) F dL_isSettled_47 (by decide) ?_
    refine r_sub [4, 5, 3, 2, 1, 0] rfl ?_
    exact l_L_isSettled_51 F   a1 x15 r18 r25 r33 (1 : Int32) M40

set_option maxRecDepth 100000 in
set_option maxHeartbeats 4000000 in
theorem c_L_isSettled {l : Launch} {G : GM} (hl : l.stackTraces = false) (hG : GG G) (a1 : Int32) (M : Mem) : ∀ r, f_L_isSettled a1 M = some r → Ctr l G yL_isSettled (.code yL_isSettled cL_isSettled 9 (some .boolean) :: wsA) 18 [.ref (gA G 0), .int a1] M ((emT vI) r) :=
  ctr_of (by decide) hl hG (Nat.le_of_ble_eq_true rfl) (fun p e s m args below meth c F => b_L_isSettled F a1 M)

-- ===== X6_bestTrades DrumTowns.bestTrades(I)I =====
theorem yv_X6_bestTrades : yV yX6_bestTrades cX6_bestTrades 2 (some .int) 1 := ⟨im_X6_bestTrades, sl_X6_bestTrades, ini_X6, cd_X6_bestTrades, ⟨by decide, by decide, by decide +kernel⟩, by decide⟩

def f_X6_bestTrades_22 (y1 : Int32) (M : Mem) : Option ((Int32 ⊕ String) × Mem) := bn (f_X4_find 34 M) fun _ M30 => bn (f_X4_tell y1 M30) fun r38 M38 => some (.inl r38, M38)

set_option maxRecDepth 100000 in
set_option maxHeartbeats 4000000 in
theorem l_X6_bestTrades_22 {G : GM} {p : Program} {l : Launch} {e : Env} {s : State} {m : MethodId} {args : Array Value} {below : List Frame} {meth : Method} {c : Code} (F : Fx G p l s m args meth c cX6_bestTrades RX6 2 (some .int)) (y1 : Int32) (M : Mem) : Rf G p l e s m args below meth c 10 2 (emT vI) (f_X6_bestTrades_22  y1 M) 22 [(0, .ref (gA G 0)), (1, .int y1)] [] M := by
  unfold f_X6_bestTrades_22
  refine r_aload_n F 0 dX6_bestTrades_22 rfl rfl ?_
  refine gf_X6_44 F dX6_bestTrades_23 (rfl : kd 0 = 0) ?_
  refine r_aload_n F 0 dX6_bestTrades_26 rfl rfl ?_
  refine gf_X6_10 F dX6_bestTrades_27 (rfl : kd 0 = 0) ?_
  refine r_cVN (val := vU) (As := [.ref (gA G 34)]) (rest := []) (fun _ => []) F (c_X4_find F.st F.gg 34 M) (fun _ _ => rfl) dX6_bestTrades_30 mn_X6_298 yv_X4_find (rfl : kd 12 = 5) (by decide) rfl rfl (by decide) rfl (Nat.le_of_ble_eq_true rfl) (fun _ => rfl) (fun _ M30 => ?_)
  refine r_aload_n F 0 dX6_bestTrades_33 rfl rfl ?_
  refine gf_X6_44 F dX6_bestTrades_34 (rfl : kd 0 = 0) ?_
  refine r_iload_n F 1 dX6_bestTrades_37 rfl rfl ?_
  refine r_cVN (val := vI) (As := [.int y1]) (rest := []) (fun q9 => .int q9 :: []) F (c_X4_tell F.st F.gg y1 M30) (fun _ _ => rfl) dX6_bestTrades_38 mn_X6_299 yv_X4_tell (rfl : kd 12 = 5) (by decide) rfl rfl (by decide) rfl (Nat.le_of_ble_eq_true rfl) (fun _ => rfl) (fun r38 M38 => ?_)
  exact r_iret F rfl dX6_bestTrades_41 rfl

def f_X6_bestTrades (a1 : Int32) (M : Mem) : Option ((Int32 ⊕ String) × Mem) := if a1 = 0 then (f_X6_bestTrades_22  a1 M) else (bn (f_X6_isPlace a1 M) fun r5 M5 => if r5 = 0 then (some (.inr exA, M5)) else (f_X6_bestTrades_22  a1 M5))

set_option maxRecDepth 100000 in
set_option maxHeartbeats 4000000 in
theorem b_X6_bestTrades {G : GM} {p : Program} {l : Launch} {e : Env} {s : State} {m : MethodId} {args : Array Value} {below : List Frame} {meth : Method} {c : Code} (F : Fx G p l s m args meth c cX6_bestTrades RX6 2 (some .int)) (a1 : Int32) (M : Mem) : Rf G p l e s m args below meth c 10 2 (emT vI) (f_X6_bestTrades a1 M) 0 [(0, .ref (gA G 0)), (1, .int a1)] [] M := by
  unfold f_X6_bestTrades
  refine r_iload_n F 1 dX6_bestTrades_0 rfl rfl ?_
  refine r_if_eq (tgt := 22) F dX6_bestTrades_1 (by decide) (fun c1 => ?_) (fun c1 => ?_)
  · refine r_sub [0, 1] rfl ?_
    exact l_X6_bestTrades_22 F   a1 M
  · refine r_iload_n F 1 dX6_bestTrades_4 rfl rfl ?_
    refine r_cS (val := vI) (As := [.int a1]) (rest := []) (fun q9 => .int q9 :: []) F (c_X6_isPlace F.st F.gg a1 M) (fun _ _ => rfl) dX6_bestTrades_5 ml_X6_292 ys_X6_isPlace rfl (by decide) rfl (Nat.le_of_ble_eq_true rfl) (fun _ => rfl) (fun r5 M5 => ?_)
    refine r_if_ne (tgt := 22) F dX6_bestTrades_8 (by decide) (fun c2 => ?_) (fun c2 => ?_)
    · exact r_throwW F atA cl_X6_52 ini_IllegalArgumentException (by decide : (296, "what is not 0 or 10 to 15") ∈ strW) dX6_bestTrades_11 dX6_bestTrades_14 dX6_bestTrades_15 dX6_bestTrades_18 dX6_bestTrades_21 (by decide) (Nat.le_of_ble_eq_true rfl)
    · refine r_sub [0, 1] rfl ?_
      exact l_X6_bestTrades_22 F   a1 M5

set_option maxRecDepth 100000 in
set_option maxHeartbeats 4000000 in
theorem c_X6_bestTrades {l : Launch} {G : GM} (hl : l.stackTraces = false) (hG : GG G) (a1 : Int32) (M : Mem) : ∀ r, f_X6_bestTrades a1 M = some r → Ctr l G yX6_bestTrades (.code yX6_bestTrades cX6_bestTrades 2 (some .int) :: wsA) 10 [.ref (gA G 0), .int a1] M ((emT vI) r) :=
  ctr_of (by decide) hl hG (Nat.le_of_ble_eq_true rfl) (fun p e s m args below meth c F => b_X6_bestTrades F a1 M)

-- ===== X6_checkStep DrumTowns.checkStep(I)V =====
theorem ys_X6_checkStep : yS yX6_checkStep cX6_checkStep 1 none 1 := ⟨sc_X6_checkStep, ini_X6, cd_X6_checkStep, ⟨by decide, by decide, by decide +kernel⟩, by decide⟩

def f_X6_checkStep_10  (M : Mem) : Option ((Unit ⊕ String) × Mem) := some (.inr exI, M)

set_option maxRecDepth 100000 in
set_option maxHeartbeats 4000000 in
theorem l_X6_checkStep_10 {G : GM} {p : Program} {l : Launch} {e : Env} {s : State} {m : MethodId} {args : Array Value} {below : List Frame} {meth : Method} {c : Code} (F : Fx G p l s m args meth c cX6_checkStep RX6 1 none)  (M : Mem) : Rf G p l e s m args below meth c 6 1 (emT vU) (f_X6_checkStep_10   M) 10 [] [] M := by
  unfold f_X6_checkStep_10
  exact r_throwW F atI cl_X6_355 ini_IndexOutOfBoundsException (by decide : (360, "there is no such step") ∈ strW) dX6_checkStep_10 dX6_checkStep_13 dX6_checkStep_14 dX6_checkStep_17 dX6_checkStep_20 (by decide) (Nat.le_of_ble_eq_true rfl)

def f_X6_checkStep (a0 : Int32) (M : Mem) : Option ((Unit ⊕ String) × Mem) := if a0 < 0 then (f_X6_checkStep_10   M) else (if a0 < (24 : Int32) then (some (.inl (), M)) else (f_X6_checkStep_10   M))

set_option maxRecDepth 100000 in
set_option maxHeartbeats 4000000 in
theorem b_X6_checkStep {G : GM} {p : Program} {l : Launch} {e : Env} {s : State} {m : MethodId} {args : Array Value} {below : List Frame} {meth : Method} {c : Code} (F : Fx G p l s m args meth c cX6_checkStep RX6 1 none) (a0 : Int32) (M : Mem) : Rf G p l e s m args below meth c 6 1 (emT vU) (f_X6_checkStep a0 M) 0 [(0, .int a0)] [] M := by
  unfold f_X6_checkStep
  refine r_iload_n F 0 dX6_checkStep_0 rfl rfl ?_
  refine r_if_lt (tgt := 10) F dX6_checkStep_1 (by decide) (fun c1 => ?_) (fun c1 => ?_)
  · refine r_sub [] rfl ?_
    exact l_X6_checkStep_10 F    M
  · refine r_iload_n F 0 dX6_checkStep_4 rfl rfl ?_
    refine r_bipush F dX6_checkStep_5 (v := 24) (by decide) ?_
    refine r_icmp_lt (tgt := 21) F dX6_checkStep_7 (by decide) (fun c2 => ?_) (fun c2 => ?_)
    · exact r_vret F rfl dX6_checkStep_21 rfl
    · refine r_sub [] rfl ?_
      exact l_X6_checkStep_10 F    M

set_option maxRecDepth 100000 in
set_option maxHeartbeats 4000000 in
theorem c_X6_checkStep {l : Launch} {G : GM} (hl : l.stackTraces = false) (hG : GG G) (a0 : Int32) (M : Mem) : ∀ r, f_X6_checkStep a0 M = some r → Ctr l G yX6_checkStep (.code yX6_checkStep cX6_checkStep 1 none :: wsA) 6 [.int a0] M ((emT vU) r) :=
  ctr_of (by decide) hl hG (Nat.le_of_ble_eq_true rfl) (fun p e s m args below meth c F => b_X6_checkStep F a0 M)

-- ===== X6_step DrumTowns.step(III)I =====
theorem yv_X6_step : yV yX6_step cX6_step 4 (some .int) 3 := ⟨im_X6_step, sl_X6_step, ini_X6, cd_X6_step, ⟨by decide, by decide, by decide +kernel⟩, by decide⟩

def f_X6_step (a1 : Int32) (a2 : Int32) (a3 : Int32) (M : Mem) : Option ((Int32 ⊕ String) × Mem) := bt (f_X6_checkTown a1 M) fun _ M2 => bt (f_X6_checkStep a2 M2) fun _ M6 => if a3 = 0 then (chk (inb a1 6) <| bnd (tw 35 a1) fun b44 => chk (inb a2 24) <| some (.inl (M6.1 (b44 + 1) a2.toNatClampNeg), M6)) else (if a3 = 1 then (chk (inb a1 6) <| bnd (tw 35 a1) fun b59 => chk (inb a2 24) <| some (.inl (M6.1 (b59 + 2) a2.toNatClampNeg), M6)) else (if a3 = 2 then (bn (f_X6_foresee a1 M6) fun _ M68 => chk (inb a2 24) <| some (.inl (M68.1 9 a2.toNatClampNeg), M68)) else (some (.inr exA, M6))))

set_option maxRecDepth 100000 in
set_option maxHeartbeats 4000000 in
theorem b_X6_step {G : GM} {p : Program} {l : Launch} {e : Env} {s : State} {m : MethodId} {args : Array Value} {below : List Frame} {meth : Method} {c : Code} (F : Fx G p l s m args meth c cX6_step RX6 4 (some .int)) (a1 : Int32) (a2 : Int32) (a3 : Int32) (M : Mem) : Rf G p l e s m args below meth c 10 4 (emT vI) (f_X6_step a1 a2 a3 M) 0 [(0, .ref (gA G 0)), (1, .int a1), (2, .int a2), (3, .int a3)] [] M := by
  unfold f_X6_step
  refine r_aload_n F 0 dX6_step_0 rfl rfl ?_
  refine r_iload_n F 1 dX6_step_1 rfl rfl ?_
  refine r_tV (val := vU) (As := [.int a1]) (rest := []) (fun _ => []) F (c_X6_checkTown F.st F.gg a1 M) dX6_step_2 ml_X6_120 yv_X6_checkTown (rfl : kd 0 = 0) (by decide) rfl rfl (by decide) rfl (Nat.le_of_ble_eq_true rfl) (fun _ => rfl) (fun _ M2 => ?_)
  refine r_iload_n F 2 dX6_step_5 rfl rfl ?_
  refine r_tS (val := vU) (As := [.int a2]) (rest := []) (fun _ => []) F (c_X6_checkStep F.st F.gg a2 M2) dX6_step_6 ml_X6_236 ys_X6_checkStep rfl (by decide) rfl (Nat.le_of_ble_eq_true rfl) (fun _ => rfl) (fun _ M6 => ?_)
  refine r_iload_n F 3 dX6_step_9 rfl rfl ?_
  refine r_ite (fun c1 => ?_) (fun c1 => ?_)
  · refine r_tabIn (tgt := 36) F dX6_step_10 c1 (by decide) (by decide) rfl (by decide) ?_
    refine r_aload_n F 0 dX6_step_36 rfl rfl ?_
    refine gf_X6_10 F dX6_step_37 (rfl : kd 0 = 0) ?_
    refine gf_X6_76 F dX6_step_40 (rfl : kd 34 = 1) ?_
    refine r_iload_n F 1 dX6_step_43 rfl rfl ?_
    refine r_chk (fun h2 => ?_)
    refine r_aaldT F dX6_step_44 (rfl : kd 35 = 9) h2 ?_
    refine r_br (kTw' (rfl : kd 35 = 9) h2) (fun b44 k44 => ?_)
    refine gf_X6_109 F dX6_step_45 k44 ?_
    refine r_iload_n F 2 dX6_step_48 rfl rfl ?_
    refine r_chk (fun h3 => ?_)
    refine r_iald F dX6_step_49 (kTd k44) (aTd k44) h3 ?_
    exact r_iret F rfl dX6_step_50 rfl
  refine r_ite (fun c4 => ?_) (fun c4 => ?_)
  · refine r_tabIn (tgt := 51) F dX6_step_10 c4 (by decide) (by decide) rfl (by decide) ?_
    refine r_aload_n F 0 dX6_step_51 rfl rfl ?_
    refine gf_X6_10 F dX6_step_52 (rfl : kd 0 = 0) ?_
    refine gf_X6_76 F dX6_step_55 (rfl : kd 34 = 1) ?_
    refine r_iload_n F 1 dX6_step_58 rfl rfl ?_
    refine r_chk (fun h5 => ?_)
    refine r_aaldT F dX6_step_59 (rfl : kd 35 = 9) h5 ?_
    refine r_br (kTw' (rfl : kd 35 = 9) h5) (fun b59 k59 => ?_)
    refine gf_X6_207 F dX6_step_60 k59 ?_
    refine r_iload_n F 2 dX6_step_63 rfl rfl ?_
    refine r_chk (fun h6 => ?_)
    refine r_iald F dX6_step_64 (kTt k59) (aTt k59) h6 ?_
    exact r_iret F rfl dX6_step_65 rfl
  refine r_ite (fun c7 => ?_) (fun c7 => ?_)
  · refine r_tabIn (tgt := 66) F dX6_step_10 c7 (by decide) (by decide) rfl (by decide) ?_
    refine r_aload_n F 0 dX6_step_66 rfl rfl ?_
    refine r_iload_n F 1 dX6_step_67 rfl rfl ?_
    refine r_cV (val := vU) (As := [.int a1]) (rest := []) (fun _ => []) F (c_X6_foresee F.st F.gg a1 M6) (fun _ _ => rfl) dX6_step_68 ml_X6_145 yv_X6_foresee (rfl : kd 0 = 0) (by decide) rfl rfl (by decide) rfl (Nat.le_of_ble_eq_true rfl) (fun _ => rfl) (fun _ M68 => ?_)
    refine r_aload_n F 0 dX6_step_71 rfl rfl ?_
    refine gf_X6_30 F dX6_step_72 (rfl : kd 0 = 0) ?_
    refine gf_X6_239 F dX6_step_75 (rfl : kd 5 = 3) ?_
    refine r_iload_n F 2 dX6_step_78 rfl rfl ?_
    refine r_chk (fun h8 => ?_)
    refine r_iald F dX6_step_79 (rfl : kd 9 = 8) (rfl : al 9 = 24) h8 ?_
    exact r_iret F rfl dX6_step_80 rfl
  refine r_tabOut (tgt := 81) F dX6_step_10 (by have n0 := lv_neT (a := 0) c1 (by decide); have n1 := lv_neT (a := 1) c4 (by decide); have n2 := lv_neT (a := 2) c7 (by decide); omega) (by decide) ?_
  exact r_throw F atA cl_X6_52 ini_IllegalArgumentException (by decide : (242, "what is not 0 to 2") ∈ strW) dX6_step_81 dX6_step_84 dX6_step_85 dX6_step_87 dX6_step_90 (by decide) (Nat.le_of_ble_eq_true rfl)

set_option maxRecDepth 100000 in
set_option maxHeartbeats 4000000 in
theorem c_X6_step {l : Launch} {G : GM} (hl : l.stackTraces = false) (hG : GG G) (a1 : Int32) (a2 : Int32) (a3 : Int32) (M : Mem) : ∀ r, f_X6_step a1 a2 a3 M = some r → Ctr l G yX6_step (.code yX6_step cX6_step 4 (some .int) :: wsA) 10 [.ref (gA G 0), .int a1, .int a2, .int a3] M ((emT vI) r) :=
  ctr_of (by decide) hl hG (Nat.le_of_ble_eq_true rfl) (fun p e s m args below meth c F => b_X6_step F a1 a2 a3 M)

-- ===== L_isSound DrumTownsLaw.isSound(LDrumTowns;)Z =====
theorem ys_L_isSound : yS yL_isSound cL_isSound 12 (some .boolean) 1 := ⟨sc_L_isSound, ini_L, cd_L_isSound, ⟨by decide, by decide, by decide +kernel⟩, by decide⟩

def f_L_isSound_138  (M : Mem) : Option ((Int32 ⊕ String) × Mem) := some (.inl (0 : Int32), M)

set_option maxRecDepth 100000 in
set_option maxHeartbeats 4000000 in
theorem l_L_isSound_138 {G : GM} {p : Program} {l : Launch} {e : Env} {s : State} {m : MethodId} {args : Array Value} {below : List Frame} {meth : Method} {c : Code} (F : Fx G p l s m args meth c cL_isSound RL 12 (some .boolean))  (M : Mem) : Rf G p l e s m args below meth c 11 12 (emT vI) (f_L_isSound_138   M) 138 [] [] M := by
  unfold f_L_isSound_138
  refine r_iconst F dL_isSound_138 (v := 0) (by decide) ?_
  exact r_zret F rfl dL_isSound_139 rfl (by decide)

def f_L_isSound_186 (k12 : Int32 → Int32 → Int32 → Int32 → Int32 → Mem → Option ((Int32 ⊕ String) × Mem)) (k146 : Int32 → Int32 → Int32 → Int32 → Int32 → Int32 → Int32 → Int32 → Int32 → Mem → Option ((Int32 ⊕ String) × Mem)) : Nat → Int32 → Int32 → Int32 → Int32 → Int32 → Int32 → Int32 → Int32 → Int32 → Int32 → Int32 → Mem → Option ((Int32 ⊕ String) × Mem)
  | 0, _, _, _, _, _, _, _, _, _, _, _, _ => none
  | n + 1, y1, y2, y3, y4, y5, y6, y7, y8, y9, y10, y11, M => if (12 : Int32) ≤ y11 then (bnd (y9 + (1 : Int32)) fun x211 => k146 y1 y2 y3 y4 y5 y6 y7 y8 x211 M) else (bnd (y8 + ((y10 >>> (y11 &&& 31)) &&& (1 : Int32))) fun x203 => bnd (y11 + (1 : Int32)) fun x205 => f_L_isSound_186 k12 k146 n y1 y2 y3 y4 y5 y6 y7 x203 y9 y10 x205 M)

set_option maxRecDepth 100000 in
set_option maxHeartbeats 4000000 in
theorem l_L_isSound_186 {G : GM} {p : Program} {l : Launch} {e : Env} {s : State} {m : MethodId} {args : Array Value} {below : List Frame} {meth : Method} {c : Code} (F : Fx G p l s m args meth c cL_isSound RL 12 (some .boolean)) (k12 : Int32 → Int32 → Int32 → Int32 → Int32 → Mem → Option ((Int32 ⊕ String) × Mem)) (k146 : Int32 → Int32 → Int32 → Int32 → Int32 → Int32 → Int32 → Int32 → Int32 → Mem → Option ((Int32 ⊕ String) × Mem)) (H12 : ∀ (y1 : Int32) (y2 : Int32) (y3 : Int32) (y4 : Int32) (y5 : Int32) (M : Mem), Rf G p l e s m args below meth c 11 12 (emT vI) (k12 y1 y2 y3 y4 y5 M) 12 [(0, .ref (gA G 0)), (1, .int y1), (2, .int y2), (3, .int y3), (4, .int y4), (5, .int y5)] [] M) (H146 : ∀ (y1 : Int32) (y2 : Int32) (y3 : Int32) (y4 : Int32) (y5 : Int32) (y6 : Int32) (y7 : Int32) (y8 : Int32) (y9 : Int32) (M : Mem), Rf G p l e s m args below meth c 11 12 (emT vI) (k146 y1 y2 y3 y4 y5 y6 y7 y8 y9 M) 146 [(0, .ref (gA G 0)), (1, .int y1), (2, .int y2), (3, .int y3), (4, .int y4), (5, .int y5), (6, .int y6), (7, .int y7), (8, .int y8), (9, .int y9)] [] M) : ∀ (n : Nat) (y1 : Int32) (y2 : Int32) (y3 : Int32) (y4 : Int32) (y5 : Int32) (y6 : Int32) (y7 : Int32) (y8 : Int32) (y9 : Int32) (y10 : Int32) (y11 : Int32) (M : Mem), Rf G p l e s m args below meth c 11 12 (emT vI) (f_L_isSound_186 k12 k146 n y1 y2 y3 y4 y5 y6 y7 y8 y9 y10 y11 M) 186 [(0, .ref (gA G 0)), (1, .int y1), (2, .int y2), (3, .int y3), (4, .int y4), (5, .int y5), (6, .int y6), (7, .int y7), (8, .int y8), (9, .int y9), (10, .int y10), (11, .int y11)] [] M := by
  intro n
  induction n with
  | zero => intros; exact r_none
  | succ n ih =>
    intro y1 y2 y3 y4 y5 y6 y7 y8 y9 y10 y11 M
    rw [f_L_isSound_186]
    refine r_iload F 11 dL_isSound_186 rfl ?_
    refine r_bipush F dL_isSound_188 (v := 12) (by decide) ?_
    refine r_icmp_ge (tgt := 211) F dL_isSound_190 (by decide) (fun c1 => ?_) (fun c1 => ?_)
    · refine r_iinc (ls' := fun q9 => [(9, .int q9), (0, .ref (gA G 0)), (1, .int y1), (2, .int y2), (3, .int y3), (4, .int y4), (5, .int y5), (6, .int y6), (7, .int y7), (8, .int y8), (10, .int y10), (11, .int y11)]) (k := 9) (v := y9 + (1 : Int32)) F dL_isSound_211 rfl rfl (by decide) (fun _ => rfl) (fun x211 => ?_)
      refine r_goto (tgt := 146) F dL_isSound_214 (by decide) ?_
      refine r_sub [1, 2, 3, 4, 5, 6, 7, 8, 9, 0] rfl ?_
      exact H146 y1 y2 y3 y4 y5 y6 y7 y8 x211 M
    · refine r_iload F 8 dL_isSound_193 rfl ?_
      refine r_iload F 10 dL_isSound_195 rfl ?_
      refine r_iload F 11 dL_isSound_197 rfl ?_
      refine r_ishr F dL_isSound_199 ?_
      refine r_iconst F dL_isSound_200 (v := 1) (by decide) ?_
      refine r_iand F dL_isSound_201 ?_
      refine r_iadd F dL_isSound_202 ?_
      refine r_bi (fun x203 => ?_)
      refine r_istore (ls' := [(8, .int x203), (0, .ref (gA G 0)), (1, .int y1), (2, .int y2), (3, .int y3), (4, .int y4), (5, .int y5), (6, .int y6), (7, .int y7), (9, .int y9), (10, .int y10), (11, .int y11)]) F dL_isSound_203 (by decide) rfl ?_
      refine r_iinc (ls' := fun q9 => [(11, .int q9), (8, .int x203), (0, .ref (gA G 0)), (1, .int y1), (2, .int y2), (3, .int y3), (4, .int y4), (5, .int y5), (6, .int y6), (7, .int y7), (9, .int y9), (10, .int y10)]) (k := 11) (v := y11 + (1 : Int32)) F dL_isSound_205 rfl rfl (by decide) (fun _ => rfl) (fun x205 => ?_)
      refine r_goto (tgt := 186) F dL_isSound_208 (by decide) ?_
      refine r_sub [2, 3, 4, 5, 6, 7, 8, 9, 1, 10, 11, 0] rfl ?_
      exact ih y1 y2 y3 y4 y5 y6 y7 x203 y9 y10 x205 M

def f_L_isSound_241  (M : Mem) : Option ((Int32 ⊕ String) × Mem) := some (.inl (0 : Int32), M)

set_option maxRecDepth 100000 in
set_option maxHeartbeats 4000000 in
theorem l_L_isSound_241 {G : GM} {p : Program} {l : Launch} {e : Env} {s : State} {m : MethodId} {args : Array Value} {below : List Frame} {meth : Method} {c : Code} (F : Fx G p l s m args meth c cL_isSound RL 12 (some .boolean))  (M : Mem) : Rf G p l e s m args below meth c 11 12 (emT vI) (f_L_isSound_241   M) 241 [] [] M := by
  unfold f_L_isSound_241
  refine r_iconst F dL_isSound_241 (v := 0) (by decide) ?_
  exact r_zret F rfl dL_isSound_242 rfl (by decide)

def f_L_isSound_146 (k12 : Int32 → Int32 → Int32 → Int32 → Int32 → Mem → Option ((Int32 ⊕ String) × Mem)) : Nat → Int32 → Int32 → Int32 → Int32 → Int32 → Int32 → Int32 → Int32 → Int32 → Mem → Option ((Int32 ⊕ String) × Mem)
  | 0, _, _, _, _, _, _, _, _, _, _ => none
  | n + 1, y1, y2, y3, y4, y5, y6, y7, y8, y9, M => if (24 : Int32) ≤ y9 then (if y8 = y7 then (bt (f_X6_bestTurn y5 (1 : Int32) M) fun r228 M228 => bt (f_X6_town y5 (3 : Int32) M228) fun r235 M235 => if r235 ≤ r228 then (bt (f_X6_town y5 (0 : Int32) M235) fun r248 M248 => bnd (y1 + (r248 + y6)) fun x255 => bt (f_X6_town y5 (3 : Int32) M248) fun r261 M261 => bnd (y2 + r261) fun x265 => bt (f_X6_town y5 (6 : Int32) M261) fun r272 M272 => bnd (y3 + r272) fun x276 => bt (f_X6_town y5 (7 : Int32) M272) fun r284 M284 => bnd (y4 + r284) fun x288 => bnd (y5 + (1 : Int32)) fun x290 => k12 x255 x265 x276 x288 x290 M284) else (f_L_isSound_241   M235)) else (f_L_isSound_241   M)) else (bt (f_X6_step y5 y9 (2 : Int32) M) fun r159 M159 => bt (f_X6_step y5 y9 (0 : Int32) M159) fun r172 M172 => if (r159 &&& (r172 ^^^ (-1 : Int32))) = 0 then (f_L_isSound_186 k12 (f_L_isSound_146 k12 n) FU y1 y2 y3 y4 y5 y6 y7 y8 y9 r159 (0 : Int32) M172) else (some (.inl (0 : Int32), M172)))

set_option maxRecDepth 100000 in
set_option maxHeartbeats 4000000 in
theorem l_L_isSound_146 {G : GM} {p : Program} {l : Launch} {e : Env} {s : State} {m : MethodId} {args : Array Value} {below : List Frame} {meth : Method} {c : Code} (F : Fx G p l s m args meth c cL_isSound RL 12 (some .boolean)) (k12 : Int32 → Int32 → Int32 → Int32 → Int32 → Mem → Option ((Int32 ⊕ String) × Mem)) (H12 : ∀ (y1 : Int32) (y2 : Int32) (y3 : Int32) (y4 : Int32) (y5 : Int32) (M : Mem), Rf G p l e s m args below meth c 11 12 (emT vI) (k12 y1 y2 y3 y4 y5 M) 12 [(0, .ref (gA G 0)), (1, .int y1), (2, .int y2), (3, .int y3), (4, .int y4), (5, .int y5)] [] M) : ∀ (n : Nat) (y1 : Int32) (y2 : Int32) (y3 : Int32) (y4 : Int32) (y5 : Int32) (y6 : Int32) (y7 : Int32) (y8 : Int32) (y9 : Int32) (M : Mem), Rf G p l e s m args below meth c 11 12 (emT vI) (f_L_isSound_146 k12 n y1 y2 y3 y4 y5 y6 y7 y8 y9 M) 146 [(0, .ref (gA G 0)), (1, .int y1), (2, .int y2), (3, .int y3), (4, .int y4), (5, .int y5), (6, .int y6), (7, .int y7), (8, .int y8), (9, .int y9)] [] M := by
  intro n
  induction n with
  | zero => intros; exact r_none
  | succ n ih =>
    intro y1 y2 y3 y4 y5 y6 y7 y8 y9 M
    rw [f_L_isSound_146]
    refine r_iload F 9 dL_isSound_146 rfl ?_
    refine r_bipush F dL_isSound_148 (v := 24) (by decide) ?_
    refine r_icmp_ge (tgt := 217) F dL_isSound_150 (by decide) (fun c1 => ?_) (fun c1 => ?_)
    · refine r_iload F 8 dL_isSound_217 rfl ?_
      refine r_iload F 7 dL_isSound_219 rfl ?_
      refine r_icmp_ne (tgt := 241) F dL_isSound_221 (by decide) (fun c2 => ?_) (fun c2 => ?_)
      · refine r_aload_n F 0 dL_isSound_224 rfl rfl ?_
        refine r_iload F 5 dL_isSound_225 rfl ?_
        refine r_iconst F dL_isSound_227 (v := 1) (by decide) ?_
        refine r_tV (val := vI) (As := [.int y5, .int (1 : Int32)]) (rest := []) (fun q9 => .int q9 :: []) F (c_X6_bestTurn F.st F.gg y5 (1 : Int32) M) dL_isSound_228 ml_L_98 yv_X6_bestTurn (rfl : kd 0 = 0) (by decide) rfl rfl (by decide) rfl (Nat.le_of_ble_eq_true rfl) (fun _ => rfl) (fun r228 M228 => ?_)
        refine r_aload_n F 0 dL_isSound_231 rfl rfl ?_
        refine r_iload F 5 dL_isSound_232 rfl ?_
        refine r_iconst F dL_isSound_234 (v := 3) (by decide) ?_
        refine r_tV (val := vI) (As := [.int y5, .int (3 : Int32)]) (rest := [.int r228]) (fun q9 => .int q9 :: [.int r228]) F (c_X6_town F.st F.gg y5 (3 : Int32) M228) dL_isSound_235 ml_L_89 yv_X6_town (rfl : kd 0 = 0) (by decide) rfl rfl (by decide) rfl (Nat.le_of_ble_eq_true rfl) (fun _ => rfl) (fun r235 M235 => ?_)
        refine r_icmp_ge (tgt := 243) F dL_isSound_238 (by decide) (fun c3 => ?_) (fun c3 => ?_)
        · refine r_iload_n F 1 dL_isSound_243 rfl rfl ?_
          refine r_aload_n F 0 dL_isSound_244 rfl rfl ?_
          refine r_iload F 5 dL_isSound_245 rfl ?_
          refine r_iconst F dL_isSound_247 (v := 0) (by decide) ?_
          refine r_tV (val := vI) (As := [.int y5, .int (0 : Int32)]) (rest := [.int y1]) (fun q9 => .int q9 :: [.int y1]) F (c_X6_town F.st F.gg y5 (0 : Int32) M235) dL_isSound_248 ml_L_89 yv_X6_town (rfl : kd 0 = 0) (by decide) rfl rfl (by decide) rfl (Nat.le_of_ble_eq_true rfl) (fun _ => rfl) (fun r248 M248 => ?_)
          refine r_iload F 6 dL_isSound_251 rfl ?_
          refine r_iadd F dL_isSound_253 ?_
          refine r_iadd F dL_isSound_254 ?_
          refine r_bi (fun x255 => ?_)
          refine r_istore_n (ls' := [(1, .int x255), (0, .ref (gA G 0)), (2, .int y2), (3, .int y3), (4, .int y4), (5, .int y5), (6, .int y6), (7, .int y7), (8, .int y8), (9, .int y9)]) F dL_isSound_255 rfl (by decide) rfl ?_
          refine r_iload_n F 2 dL_isSound_256 rfl rfl ?_
          refine r_aload_n F 1 dL_isSound_257 rfl rfl ?_
          refine r_iload F 5 dL_isSound_258 rfl ?_
          refine r_iconst F dL_isSound_260 (v := 3) (by decide) ?_
          refine r_tV (val := vI) (As := [.int y5, .int (3 : Int32)]) (rest := [.int y2]) (fun q9 => .int q9 :: [.int y2]) F (c_X6_town F.st F.gg y5 (3 : Int32) M248) dL_isSound_261 ml_L_89 yv_X6_town (rfl : kd 0 = 0) (by decide) rfl rfl (by decide) rfl (Nat.le_of_ble_eq_true rfl) (fun _ => rfl) (fun r261 M261 => ?_)
          refine r_iadd F dL_isSound_264 ?_
          refine r_bi (fun x265 => ?_)
          refine r_istore_n (ls' := [(2, .int x265), (1, .int x255), (0, .ref (gA G 0)), (3, .int y3), (4, .int y4), (5, .int y5), (6, .int y6), (7, .int y7), (8, .int y8), (9, .int y9)]) F dL_isSound_265 rfl (by decide) rfl ?_
          refine r_iload_n F 3 dL_isSound_266 rfl rfl ?_
          refine r_aload_n F 2 dL_isSound_267 rfl rfl ?_
          refine r_iload F 5 dL_isSound_268 rfl ?_
          refine r_bipush F dL_isSound_270 (v := 6) (by decide) ?_
          refine r_tV (val := vI) (As := [.int y5, .int (6 : Int32)]) (rest := [.int y3]) (fun q9 => .int q9 :: [.int y3]) F (c_X6_town F.st F.gg y5 (6 : Int32) M261) dL_isSound_272 ml_L_89 yv_X6_town (rfl : kd 0 = 0) (by decide) rfl rfl (by decide) rfl (Nat.le_of_ble_eq_true rfl) (fun _ => rfl) (fun r272 M272 => ?_)
          refine r_iadd F dL_isSound_275 ?_
          refine r_bi (fun x276 => ?_)
          refine r_istore_n (ls' := [(3, .int x276), (2, .int x265), (1, .int x255), (0, .ref (gA G 0)), (4, .int y4), (5, .int y5), (6, .int y6), (7, .int y7), (8, .int y8), (9, .int y9)]) F dL_isSound_276 rfl (by decide) rfl ?_
          refine r_iload F 4 dL_isSound_277 rfl ?_
          refine r_aload_n F 3 dL_isSound_279 rfl rfl ?_
          refine r_iload F 5 dL_isSound_280 rfl ?_
          refine r_bipush F dL_isSound_282 (v := 7) (by decide) ?_
          refine r_tV (val := vI) (As := [.int y5, .int (7 : Int32)]) (rest := [.int y4]) (fun q9 => .int q9 :: [.int y4]) F (c_X6_town F.st F.gg y5 (7 : Int32) M272) dL_isSound_284 ml_L_89 yv_X6_town (rfl : kd 0 = 0) (by decide) rfl rfl (by decide) rfl (Nat.le_of_ble_eq_true rfl) (fun _ => rfl) (fun r284 M284 => ?_)
          refine r_iadd F dL_isSound_287 ?_
          refine r_bi (fun x288 => ?_)
          refine r_istore (ls' := [(4, .int x288), (3, .int x276), (2, .int x265), (1, .int x255), (0, .ref (gA G 0)), (5, .int y5), (6, .int y6), (7, .int y7), (8, .int y8), (9, .int y9)]) F dL_isSound_288 (by decide) rfl ?_
          refine r_iinc (ls' := fun q9 => [(5, .int q9), (4, .int x288), (3, .int x276), (2, .int x265), (1, .int x255), (0, .ref (gA G 0)), (6, .int y6), (7, .int y7), (8, .int y8), (9, .int y9)]) (k := 5) (v := y5 + (1 : Int32)) F dL_isSound_290 rfl rfl (by decide) (fun _ => rfl) (fun x290 => ?_)
          refine r_goto (tgt := 12) F dL_isSound_293 (by decide) ?_
          refine r_sub [5, 4, 3, 2, 1, 0] rfl ?_
          exact H12 x255 x265 x276 x288 x290 M284
        · refine r_sub [] rfl ?_
          exact l_L_isSound_241 F    M235
      · refine r_sub [] rfl ?_
        exact l_L_isSound_241 F    M
    · refine r_aload_n F 0 dL_isSound_153 rfl rfl ?_
      refine r_iload F 5 dL_isSound_154 rfl ?_
      refine r_iload F 9 dL_isSound_156 rfl ?_
      refine r_iconst F dL_isSound_158 (v := 2) (by decide) ?_
      refine r_tV (val := vI) (As := [.int y5, .int y9, .int (2 : Int32)]) (rest := []) (fun q9 => .int q9 :: []) F (c_X6_step F.st F.gg y5 y9 (2 : Int32) M) dL_isSound_159 ml_L_95 yv_X6_step (rfl : kd 0 = 0) (by decide) rfl rfl (by decide) rfl (Nat.le_of_ble_eq_true rfl) (fun _ => rfl) (fun r159 M159 => ?_)
      refine r_istore (ls' := [(10, .int r159), (0, .ref (gA G 0)), (1, .int y1), (2, .int y2), (3, .int y3), (4, .int y4), (5, .int y5), (6, .int y6), (7, .int y7), (8, .int y8), (9, .int y9)]) F dL_isSound_162 (by decide) rfl ?_
      refine r_iload F 0 dL_isSound_164 rfl ?_
      refine r_aload_n F 1 dL_isSound_166 rfl rfl ?_
      refine r_iload F 6 dL_isSound_167 rfl ?_
      refine r_iload F 10 dL_isSound_169 rfl ?_
      refine r_iconst F dL_isSound_171 (v := 0) (by decide) ?_
      refine r_tV (val := vI) (As := [.int y5, .int y9, .int (0 : Int32)]) (rest := [.int r159]) (fun q9 => .int q9 :: [.int r159]) F (c_X6_step F.st F.gg y5 y9 (0 : Int32) M159) dL_isSound_172 ml_L_95 yv_X6_step (rfl : kd 0 = 0) (by decide) rfl rfl (by decide) rfl (Nat.le_of_ble_eq_true rfl) (fun _ => rfl) (fun r172 M172 => ?_)
      refine r_iconst F dL_isSound_175 (v := -1) (by decide) ?_
      refine r_ixor F dL_isSound_176 ?_
      refine r_iand F dL_isSound_177 ?_
      refine r_if_eq (tgt := 183) F dL_isSound_178 (by decide) (fun c4 => ?_) (fun c4 => ?_)
      · refine r_iconst F dL_isSound_183 (v := 0) (by decide) ?_
        refine r_istore (ls' := [(11, .int (0 : Int32)), (10, .int r159), (0, .ref (gA G 0)), (1, .int y1), (2, .int y2), (3, .int y3), (4, .int y4), (5, .int y5), (6, .int y6), (7, .int y7), (8, .int y8), (9, .int y9)]) F dL_isSound_184 (by decide) rfl ?_
        refine r_sub [2, 3, 4, 5, 6, 7, 8, 9, 10, 11, 1, 0] rfl ?_
        exact l_L_isSound_186 F k12 (f_L_isSound_146 k12 n) H12 (fun q0 q1 q2 q3 q4 q5 q6 q7 q8 M9 => ih q0 q1 q2 q3 q4 q5 q6 q7 q8 M9) FU y1 y2 y3 y4 y5 y6 y7 y8 y9 r159 (0 : Int32) M172
      · refine r_iconst F dL_isSound_181 (v := 0) (by decide) ?_
        exact r_zret F rfl dL_isSound_182 rfl (by decide)

def f_L_isSound_344 (z0 : Int32) (M : Mem) : Option ((Int32 ⊕ String) × Mem) := chk (isb z0) <| some (.inl z0, M)

set_option maxRecDepth 100000 in
set_option maxHeartbeats 4000000 in
theorem l_L_isSound_344 {G : GM} {p : Program} {l : Launch} {e : Env} {s : State} {m : MethodId} {args : Array Value} {below : List Frame} {meth : Method} {c : Code} (F : Fx G p l s m args meth c cL_isSound RL 12 (some .boolean)) (z0 : Int32) (M : Mem) : Rf G p l e s m args below meth c 11 12 (emT vI) (f_L_isSound_344  z0 M) 344 [] [.int z0] M := by
  unfold f_L_isSound_344
  refine r_chk (fun h1 => ?_)
  exact r_zret F rfl dL_isSound_344 rfl (isb_or h1)

def f_L_isSound_343  (M : Mem) : Option ((Int32 ⊕ String) × Mem) := f_L_isSound_344  (0 : Int32) M

set_option maxRecDepth 100000 in
set_option maxHeartbeats 4000000 in
theorem l_L_isSound_343 {G : GM} {p : Program} {l : Launch} {e : Env} {s : State} {m : MethodId} {args : Array Value} {below : List Frame} {meth : Method} {c : Code} (F : Fx G p l s m args meth c cL_isSound RL 12 (some .boolean))  (M : Mem) : Rf G p l e s m args below meth c 11 12 (emT vI) (f_L_isSound_343   M) 343 [] [] M := by
  unfold f_L_isSound_343
  refine r_iconst F dL_isSound_343 (v := 0) (by decide) ?_
  refine r_sub [] rfl ?_
  exact l_L_isSound_344 F   (0 : Int32) M

def f_L_isSound_12 : Nat → Int32 → Int32 → Int32 → Int32 → Int32 → Mem → Option ((Int32 ⊕ String) × Mem)
  | 0, _, _, _, _, _, _ => none
  | n + 1, y1, y2, y3, y4, y5, M => bt (f_X6_count (0 : Int32) M) fun r16 M16 => if r16 ≤ y5 then (bt (f_X6_count (1 : Int32) M16) fun r298 M298 => if r298 = y1 then (bt (f_X6_count (9 : Int32) M298) fun r308 M308 => if r308 = y2 then (if y3 = y4 then (bt (f_X6_count (3 : Int32) M308) fun r324 M324 => if y3 = r324 then (bt (f_X6_bestTrades (0 : Int32) M324) fun r332 M332 => if r332 < y2 then (f_L_isSound_343   M332) else (f_L_isSound_344  (1 : Int32) M332)) else (f_L_isSound_343   M324)) else (f_L_isSound_343   M308)) else (f_L_isSound_343   M308)) else (f_L_isSound_343   M298)) else (bt (f_X6_town y5 (1 : Int32) M16) fun r26 M26 => bt (f_X6_ifPlayed y5 (0 : Int32) M26) fun r35 M35 => bt (f_X6_town y5 (3 : Int32) M35) fun r44 M44 => bt (f_X6_town y5 (4 : Int32) M44) fun r51 M51 => if (r44 + r51) = r26 then (bt (f_X6_town y5 (3 : Int32) M51) fun r64 M64 => bt (f_X6_town y5 (5 : Int32) M64) fun r71 M71 => bt (f_X6_town y5 (2 : Int32) M71) fun r79 M79 => if (r64 + r71) = r79 then (bt (f_X6_ifPlayed y5 (1 : Int32) M79) fun r91 M91 => bt (f_X6_ifPlayed y5 (2 : Int32) M91) fun r99 M99 => if ((r35 + r91) + r99) = r26 then (bt (f_X6_ifPlayed y5 (3 : Int32) M99) fun r112 M112 => if r35 < r112 then (f_L_isSound_138   M112) else (bt (f_X6_ifPlayed y5 (4 : Int32) M112) fun r124 M124 => bt (f_X6_town y5 (11 : Int32) M124) fun r132 M132 => if r132 ≤ r124 then (f_L_isSound_146 (f_L_isSound_12  n) FU y1 y2 y3 y4 y5 r26 r35 (0 : Int32) (0 : Int32) M132) else (f_L_isSound_138   M132))) else (f_L_isSound_138   M99)) else (f_L_isSound_138   M79)) else (f_L_isSound_138   M51))

set_option maxRecDepth 100000 in
set_option maxHeartbeats 4000000 in
theorem l_L_isSound_12 {G : GM} {p : Program} {l : Launch} {e : Env} {s : State} {m : MethodId} {args : Array Value} {below : List Frame} {meth : Method} {c : Code} (F : Fx G p l s m args meth c cL_isSound RL 12 (some .boolean)) : ∀ (n : Nat) (y1 : Int32) (y2 : Int32) (y3 : Int32) (y4 : Int32) (y5 : Int32) (M : Mem), Rf G p l e s m args below meth c 11 12 (emT vI) (f_L_isSound_12  n y1 y2 y3 y4 y5 M) 12 [(0, .ref (gA G 0)), (1, .int y1), (2, .int y2), (3, .int y3), (4, .int y4), (5, .int y5)] [] M := by
  intro n
  induction n with
  | zero => intros; exact r_none
  | succ n ih =>
    intro y1 y2 y3 y4 y5 M
    rw [f_L_isSound_12]
    refine r_iload F 5 dL_isSound_12 rfl ?_
    refine r_aload_n F 0 dL_isSound_14 rfl rfl ?_
    refine r_iconst F dL_isSound_15 (v := 0) (by decide) ?_
    refine r_tV (val := vI) (As := [.int (0 : Int32)]) (rest := [.int y5]) (fun q9 => .int q9 :: [.int y5]) F (c_X6_count F.st F.gg (0 : Int32) M) dL_isSound_16 ml_L_53 yv_X6_count (rfl : kd 0 = 0) (by decide) rfl rfl (by decide) rfl (Nat.le_of_ble_eq_true rfl) (fun _ => rfl) (fun r16 M16 => ?_)
    refine r_icmp_ge (tgt := 296) F dL_isSound_19 (by decide) (fun c1 => ?_) (fun c1 => ?_)
    · refine r_aload_n F 0 dL_isSound_296 rfl rfl ?_
      refine r_iconst F dL_isSound_297 (v := 1) (by decide) ?_
      refine r_tV (val := vI) (As := [.int (1 : Int32)]) (rest := []) (fun q9 => .int q9 :: []) F (c_X6_count F.st F.gg (1 : Int32) M16) dL_isSound_298 ml_L_53 yv_X6_count (rfl : kd 0 = 0) (by decide) rfl rfl (by decide) rfl (Nat.le_of_ble_eq_true rfl) (fun _ => rfl) (fun r298 M298 => ?_)
      refine r_iload_n F 1 dL_isSound_301 rfl rfl ?_
      refine r_icmp_ne (tgt := 343) F dL_isSound_302 (by decide) (fun c2 => ?_) (fun c2 => ?_)
      · refine r_aload_n F 0 dL_isSound_305 rfl rfl ?_
        refine r_bipush F dL_isSound_306 (v := 9) (by decide) ?_
        refine r_tV (val := vI) (As := [.int (9 : Int32)]) (rest := []) (fun q9 => .int q9 :: []) F (c_X6_count F.st F.gg (9 : Int32) M298) dL_isSound_308 ml_L_53 yv_X6_count (rfl : kd 0 = 0) (by decide) rfl rfl (by decide) rfl (Nat.le_of_ble_eq_true rfl) (fun _ => rfl) (fun r308 M308 => ?_)
        refine r_iload_n F 2 dL_isSound_311 rfl rfl ?_
        refine r_icmp_ne (tgt := 343) F dL_isSound_312 (by decide) (fun c3 => ?_) (fun c3 => ?_)
        · refine r_iload_n F 3 dL_isSound_315 rfl rfl ?_
          refine r_iload F 4 dL_isSound_316 rfl ?_
          refine r_icmp_ne (tgt := 343) F dL_isSound_318 (by decide) (fun c4 => ?_) (fun c4 => ?_)
          · refine r_iload_n F 3 dL_isSound_321 rfl rfl ?_
            refine r_aload_n F 0 dL_isSound_322 rfl rfl ?_
            refine r_iconst F dL_isSound_323 (v := 3) (by decide) ?_
            refine r_tV (val := vI) (As := [.int (3 : Int32)]) (rest := [.int y3]) (fun q9 => .int q9 :: [.int y3]) F (c_X6_count F.st F.gg (3 : Int32) M308) dL_isSound_324 ml_L_53 yv_X6_count (rfl : kd 0 = 0) (by decide) rfl rfl (by decide) rfl (Nat.le_of_ble_eq_true rfl) (fun _ => rfl) (fun r324 M324 => ?_)
            refine r_icmp_ne (tgt := 343) F dL_isSound_327 (by decide) (fun c5 => ?_) (fun c5 => ?_)
            · refine r_aload_n F 0 dL_isSound_330 rfl rfl ?_
              refine r_iconst F dL_isSound_331 (v := 0) (by decide) ?_
              refine r_tV (val := vI) (As := [.int (0 : Int32)]) (rest := []) (fun q9 => .int q9 :: []) F (c_X6_bestTrades F.st F.gg (0 : Int32) M324) dL_isSound_332 ml_L_101 yv_X6_bestTrades (rfl : kd 0 = 0) (by decide) rfl rfl (by decide) rfl (Nat.le_of_ble_eq_true rfl) (fun _ => rfl) (fun r332 M332 => ?_)
              refine r_iload_n F 2 dL_isSound_335 rfl rfl ?_
              refine r_icmp_lt (tgt := 343) F dL_isSound_336 (by decide) (fun c6 => ?_) (fun c6 => ?_)
              · refine r_sub [] rfl ?_
                exact l_L_isSound_343 F    M332
              · refine r_iconst F dL_isSound_339 (v := 1) (by decide) ?_
                refine r_goto (tgt := 344) F dL_isSound_340 (by decide) ?_
                refine r_sub [] rfl ?_
                exact l_L_isSound_344 F   (1 : Int32) M332
            · refine r_sub [] rfl ?_
              exact l_L_isSound_343 F    M324
          · refine r_sub [] rfl ?_
            exact l_L_isSound_343 F    M308
        · refine r_sub [] rfl ?_
          exact l_L_isSound_343 F    M308
      · refine r_sub [] rfl ?_
        exact l_L_isSound_343 F    M298
    · refine r_aload_n F 0 dL_isSound_22 rfl rfl ?_
      refine r_iload F 5 dL_isSound_23 rfl ?_
      refine r_iconst F dL_isSound_25 (v := 1) (by decide) ?_
      refine r_tV (val := vI) (As := [.int y5, .int (1 : Int32)]) (rest := []) (fun q9 => .int q9 :: []) F (c_X6_town F.st F.gg y5 (1 : Int32) M16) dL_isSound_26 ml_L_89 yv_X6_town (rfl : kd 0 = 0) (by decide) rfl rfl (by decide) rfl (Nat.le_of_ble_eq_true rfl) (fun _ => rfl) (fun r26 M26 => ?_)
      refine r_istore (ls' := [(6, .int r26), (0, .ref (gA G 0)), (1, .int y1), (2, .int y2), (3, .int y3), (4, .int y4), (5, .int y5)]) F dL_isSound_29 (by decide) rfl ?_
      refine r_aload_n F 1 dL_isSound_31 rfl rfl ?_
      refine r_iload F 6 dL_isSound_32 rfl ?_
      refine r_iconst F dL_isSound_34 (v := 0) (by decide) ?_
      refine r_tV (val := vI) (As := [.int y5, .int (0 : Int32)]) (rest := []) (fun q9 => .int q9 :: []) F (c_X6_ifPlayed F.st F.gg y5 (0 : Int32) M26) dL_isSound_35 ml_L_92 yv_X6_ifPlayed (rfl : kd 0 = 0) (by decide) rfl rfl (by decide) rfl (Nat.le_of_ble_eq_true rfl) (fun _ => rfl) (fun r35 M35 => ?_)
      refine r_istore (ls' := [(7, .int r35), (6, .int r26), (0, .ref (gA G 0)), (1, .int y1), (2, .int y2), (3, .int y3), (4, .int y4), (5, .int y5)]) F dL_isSound_38 (by decide) rfl ?_
      refine r_aload_n F 2 dL_isSound_40 rfl rfl ?_
      refine r_iload F 7 dL_isSound_41 rfl ?_
      refine r_iconst F dL_isSound_43 (v := 3) (by decide) ?_
      refine r_tV (val := vI) (As := [.int y5, .int (3 : Int32)]) (rest := []) (fun q9 => .int q9 :: []) F (c_X6_town F.st F.gg y5 (3 : Int32) M35) dL_isSound_44 ml_L_89 yv_X6_town (rfl : kd 0 = 0) (by decide) rfl rfl (by decide) rfl (Nat.le_of_ble_eq_true rfl) (fun _ => rfl) (fun r44 M44 => ?_)
      refine r_aload_n F 2 dL_isSound_47 rfl rfl ?_
      refine r_iload F 7 dL_isSound_48 rfl ?_
      refine r_iconst F dL_isSound_50 (v := 4) (by decide) ?_
      refine r_tV (val := vI) (As := [.int y5, .int (4 : Int32)]) (rest := [.int r44]) (fun q9 => .int q9 :: [.int r44]) F (c_X6_town F.st F.gg y5 (4 : Int32) M44) dL_isSound_51 ml_L_89 yv_X6_town (rfl : kd 0 = 0) (by decide) rfl rfl (by decide) rfl (Nat.le_of_ble_eq_true rfl) (fun _ => rfl) (fun r51 M51 => ?_)
      refine r_iadd F dL_isSound_54 ?_
      refine r_iload F 1 dL_isSound_55 rfl ?_
      refine r_icmp_ne (tgt := 138) F dL_isSound_57 (by decide) (fun c7 => ?_) (fun c7 => ?_)
      · refine r_aload_n F 2 dL_isSound_60 rfl rfl ?_
        refine r_iload F 7 dL_isSound_61 rfl ?_
        refine r_iconst F dL_isSound_63 (v := 3) (by decide) ?_
        refine r_tV (val := vI) (As := [.int y5, .int (3 : Int32)]) (rest := []) (fun q9 => .int q9 :: []) F (c_X6_town F.st F.gg y5 (3 : Int32) M51) dL_isSound_64 ml_L_89 yv_X6_town (rfl : kd 0 = 0) (by decide) rfl rfl (by decide) rfl (Nat.le_of_ble_eq_true rfl) (fun _ => rfl) (fun r64 M64 => ?_)
        refine r_aload_n F 2 dL_isSound_67 rfl rfl ?_
        refine r_iload F 7 dL_isSound_68 rfl ?_
        refine r_iconst F dL_isSound_70 (v := 5) (by decide) ?_
        refine r_tV (val := vI) (As := [.int y5, .int (5 : Int32)]) (rest := [.int r64]) (fun q9 => .int q9 :: [.int r64]) F (c_X6_town F.st F.gg y5 (5 : Int32) M64) dL_isSound_71 ml_L_89 yv_X6_town (rfl : kd 0 = 0) (by decide) rfl rfl (by decide) rfl (Nat.le_of_ble_eq_true rfl) (fun _ => rfl) (fun r71 M71 => ?_)
        refine r_iadd F dL_isSound_74 ?_
        refine r_aload_n F 2 dL_isSound_75 rfl rfl ?_
        refine r_iload F 7 dL_isSound_76 rfl ?_
        refine r_iconst F dL_isSound_78 (v := 2) (by decide) ?_
        refine r_tV (val := vI) (As := [.int y5, .int (2 : Int32)]) (rest := [.int (r64 + r71)]) (fun q9 => .int q9 :: [.int (r64 + r71)]) F (c_X6_town F.st F.gg y5 (2 : Int32) M71) dL_isSound_79 ml_L_89 yv_X6_town (rfl : kd 0 = 0) (by decide) rfl rfl (by decide) rfl (Nat.le_of_ble_eq_true rfl) (fun _ => rfl) (fun r79 M79 => ?_)
        refine r_icmp_ne (tgt := 138) F dL_isSound_82 (by decide) (fun c8 => ?_) (fun c8 => ?_)
        · refine r_iload F 0 dL_isSound_85 rfl ?_
          refine r_aload_n F 2 dL_isSound_87 rfl rfl ?_
          refine r_iload F 7 dL_isSound_88 rfl ?_
          refine r_iconst F dL_isSound_90 (v := 1) (by decide) ?_
          refine r_tV (val := vI) (As := [.int y5, .int (1 : Int32)]) (rest := [.int r35]) (fun q9 => .int q9 :: [.int r35]) F (c_X6_ifPlayed F.st F.gg y5 (1 : Int32) M79) dL_isSound_91 ml_L_92 yv_X6_ifPlayed (rfl : kd 0 = 0) (by decide) rfl rfl (by decide) rfl (Nat.le_of_ble_eq_true rfl) (fun _ => rfl) (fun r91 M91 => ?_)
          refine r_iadd F dL_isSound_94 ?_
          refine r_aload_n F 2 dL_isSound_95 rfl rfl ?_
          refine r_iload F 7 dL_isSound_96 rfl ?_
          refine r_iconst F dL_isSound_98 (v := 2) (by decide) ?_
          refine r_tV (val := vI) (As := [.int y5, .int (2 : Int32)]) (rest := [.int (r35 + r91)]) (fun q9 => .int q9 :: [.int (r35 + r91)]) F (c_X6_ifPlayed F.st F.gg y5 (2 : Int32) M91) dL_isSound_99 ml_L_92 yv_X6_ifPlayed (rfl : kd 0 = 0) (by decide) rfl rfl (by decide) rfl (Nat.le_of_ble_eq_true rfl) (fun _ => rfl) (fun r99 M99 => ?_)
          refine r_iadd F dL_isSound_102 ?_
          refine r_iload F 1 dL_isSound_103 rfl ?_
          refine r_icmp_ne (tgt := 138) F dL_isSound_105 (by decide) (fun c9 => ?_) (fun c9 => ?_)
          · refine r_aload_n F 2 dL_isSound_108 rfl rfl ?_
            refine r_iload F 7 dL_isSound_109 rfl ?_
            refine r_iconst F dL_isSound_111 (v := 3) (by decide) ?_
            refine r_tV (val := vI) (As := [.int y5, .int (3 : Int32)]) (rest := []) (fun q9 => .int q9 :: []) F (c_X6_ifPlayed F.st F.gg y5 (3 : Int32) M99) dL_isSound_112 ml_L_92 yv_X6_ifPlayed (rfl : kd 0 = 0) (by decide) rfl rfl (by decide) rfl (Nat.le_of_ble_eq_true rfl) (fun _ => rfl) (fun r112 M112 => ?_)
            refine r_iload F 0 dL_isSound_115 rfl ?_
            refine r_icmp_gt (tgt := 138) F dL_isSound_117 (by decide) (fun c10 => ?_) (fun c10 => ?_)
            · refine r_sub [] rfl ?_
              exact l_L_isSound_138 F    M112
            · refine r_aload_n F 2 dL_isSound_120 rfl rfl ?_
              refine r_iload F 7 dL_isSound_121 rfl ?_
              refine r_iconst F dL_isSound_123 (v := 4) (by decide) ?_
              refine r_tV (val := vI) (As := [.int y5, .int (4 : Int32)]) (rest := []) (fun q9 => .int q9 :: []) F (c_X6_ifPlayed F.st F.gg y5 (4 : Int32) M112) dL_isSound_124 ml_L_92 yv_X6_ifPlayed (rfl : kd 0 = 0) (by decide) rfl rfl (by decide) rfl (Nat.le_of_ble_eq_true rfl) (fun _ => rfl) (fun r124 M124 => ?_)
              refine r_aload_n F 2 dL_isSound_127 rfl rfl ?_
              refine r_iload F 7 dL_isSound_128 rfl ?_
              refine r_bipush F dL_isSound_130 (v := 11) (by decide) ?_
              refine r_tV (val := vI) (As := [.int y5, .int (11 : Int32)]) (rest := [.int r124]) (fun q9 => .int q9 :: [.int r124]) F (c_X6_town F.st F.gg y5 (11 : Int32) M124) dL_isSound_132 ml_L_89 yv_X6_town (rfl : kd 0 = 0) (by decide) rfl rfl (by decide) rfl (Nat.le_of_ble_eq_true rfl) (fun _ => rfl) (fun r132 M132 => ?_)
              refine r_icmp_ge (tgt := 140) F dL_isSound_135 (by decide) (fun c11 => ?_) (fun c11 => ?_)
              · refine r_iconst F dL_isSound_140 (v := 0) (by decide) ?_
                refine r_istore (ls' := [(8, .int (0 : Int32)), (7, .int r35), (6, .int r26), (0, .ref (gA G 0)), (1, .int y1), (2, .int y2), (3, .int y3), (4, .int y4), (5, .int y5)]) F dL_isSound_141 (by decide) rfl ?_
                refine r_iconst F dL_isSound_143 (v := 0) (by decide) ?_
                refine r_istore (ls' := [(9, .int (0 : Int32)), (8, .int (0 : Int32)), (7, .int r35), (6, .int r26), (0, .ref (gA G 0)), (1, .int y1), (2, .int y2), (3, .int y3), (4, .int y4), (5, .int y5)]) F dL_isSound_144 (by decide) rfl ?_
                refine r_sub [4, 5, 6, 7, 8, 9, 3, 2, 1, 0] rfl ?_
                exact l_L_isSound_146 F (f_L_isSound_12  n) (fun q0 q1 q2 q3 q4 M9 => ih q0 q1 q2 q3 q4 M9) FU y1 y2 y3 y4 y5 r26 r35 (0 : Int32) (0 : Int32) M132
              · refine r_sub [] rfl ?_
                exact l_L_isSound_138 F    M132
          · refine r_sub [] rfl ?_
            exact l_L_isSound_138 F    M99
        · refine r_sub [] rfl ?_
          exact l_L_isSound_138 F    M79
      · refine r_sub [] rfl ?_
        exact l_L_isSound_138 F    M51

def f_L_isSound  (M : Mem) : Option ((Int32 ⊕ String) × Mem) := f_L_isSound_12  FU (0 : Int32) (0 : Int32) (0 : Int32) (0 : Int32) (0 : Int32) M

set_option maxRecDepth 100000 in
set_option maxHeartbeats 4000000 in
theorem b_L_isSound {G : GM} {p : Program} {l : Launch} {e : Env} {s : State} {m : MethodId} {args : Array Value} {below : List Frame} {meth : Method} {c : Code} (F : Fx G p l s m args meth c cL_isSound RL 12 (some .boolean))  (M : Mem) : Rf G p l e s m args below meth c 11 12 (emT vI) (f_L_isSound  M) 0 [(0, .ref (gA G 0))] [] M := by
  unfold f_L_isSound
  refine r_iconst F dL_isSound_0 (v := 0) (by decide) ?_
  refine r_istore_n (ls' := [(1, .int (0 : Int32)), (0, .ref (gA G 0))]) F dL_isSound_1 rfl (by decide) rfl ?_
  refine r_iconst F dL_isSound_2 (v := 0) (by decide) ?_
  refine r_istore_n (ls' := [(2, .int (0 : Int32)), (1, .int (0 : Int32)), (0, .ref (gA G 0))]) F dL_isSound_3 rfl (by decide) rfl ?_
  refine r_iconst F dL_isSound_4 (v := 0) (by decide) ?_
  refine r_istore_n (ls' := [(3, .int (0 : Int32)), (2, .int (0 : Int32)), (1, .int (0 : Int32)), (0, .ref (gA G 0))]) F dL_isSound_5 rfl (by decide) rfl ?_
  refine r_iconst F dL_isSound_6 (v := 0) (by decide) ?_
  refine r_istore (ls' := [(4, .int (0 : Int32)), (3, .int (0 : Int32)), (2, .int (0 : Int32)), (1, .int (0 : Int32)), (0, .ref (gA G 0))]) F dL_isSound_7 (by decide) rfl ?_
  refine r_iconst F dL_isSound_9 (v := 0) (by decide) ?_
  refine r_istore (ls' := [(5, .int (0 : Int32)), (4, .int (0 : Int32)), (3, .int (0 : Int32)), (2, .int (0 : Int32)), (1, .int (0 : Int32)), (0, .ref (gA G 0))]) F dL_isSound_10 (by decide) rfl ?_
  refine r_sub [5, 4, 3, 2, 1, 0] rfl ?_
  exact l_L_isSound_12 F   FU (0 : Int32) (0 : Int32) (0 : Int32) (0 : Int32) (0 : Int32) M

set_option maxRecDepth 100000 in
set_option maxHeartbeats 4000000 in
theorem c_L_isSound {l : Launch} {G : GM} (hl : l.stackTraces = false) (hG : GG G)  (M : Mem) : ∀ r, f_L_isSound  M = some r → Ctr l G yL_isSound (.code yL_isSound cL_isSound 12 (some .boolean) :: wsA) 11 [.ref (gA G 0)] M ((emT vI) r) :=
  ctr_of (by decide) hl hG (Nat.le_of_ble_eq_true rfl) (fun p e s m args below meth c F => b_L_isSound F  M)

