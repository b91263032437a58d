-- ===== X3_takeFrom DrumTowns$Town.takeFrom(LDrumTowns$Town;)V =====
theorem yv_X3_takeFrom : yV yX3_takeFrom cX3_takeFrom 2 none 1 := ⟨im_X3_takeFrom, sl_X3_takeFrom, ini_X3, cd_X3_takeFrom, ⟨by decide, by decide, by decide +kernel⟩, by decide⟩

def f_X3_takeFrom (a0 : Nat) (a1 : Nat) (M : Mem) : Option (Unit × Mem) := chk (kb a1 2) <| chk (kb a0 2) <| bnd (mw M a0 0 (M.1 a1 0)) fun M5 => bn (f_X6_copyRow (a1 + 1) (a0 + 1) M5) fun _ M16 => bn (f_X6_copyRow (a1 + 2) (a0 + 2) M16) fun _ M27 => bn (f_X6_copyRow (a1 + 3) (a0 + 3) M27) fun _ M38 => bnd (mw M38 a0 4 (M38.1 a1 4)) fun M46 => bnd (mw M46 a0 5 (M46.1 a1 5)) fun M54 => bnd (mw M54 a0 6 (M54.1 a1 6)) fun M62 => some ((), M62)

set_option maxRecDepth 100000 in
set_option maxHeartbeats 4000000 in
theorem b_X3_takeFrom {G : GM} {p : Program} {l : Launch} {e : Env} {s : State} {m : MethodId} {args : Array Value} {below : List Frame} {meth : Method} {c : Code} (F : Fx G p l s m args meth c cX3_takeFrom RX3 2 none) (a0 : Nat) (a1 : Nat) (M : Mem) : Rf G p l e s m args below meth c 7 2 emV (f_X3_takeFrom a0 a1 M) 0 [(0, .ref (gA G a0)), (1, .ref (gA G a1))] [] M := by
  unfold f_X3_takeFrom
  refine r_aload_n F 0 dX3_takeFrom_0 rfl rfl ?_
  refine r_aload_n F 1 dX3_takeFrom_1 rfl rfl ?_
  refine r_chk (fun h1 => ?_)
  refine gf_X3_39 F dX3_takeFrom_2 (kb_k h1) ?_
  refine r_chk (fun h2 => ?_)
  refine pf_X3_39 F dX3_takeFrom_5 (kb_k h2) (fun M5 => ?_)
  refine r_aload_n F 1 dX3_takeFrom_8 rfl rfl ?_
  refine gf_X3_9 F dX3_takeFrom_9 (kb_k h1) ?_
  refine r_aload_n F 0 dX3_takeFrom_12 rfl rfl ?_
  refine gf_X3_9 F dX3_takeFrom_13 (kb_k h2) ?_
  refine r_cSN (val := vU) (As := [.ref (gA G (a1 + 1)), .ref (gA G (a0 + 1))]) (rest := []) (fun _ => []) F (c_X6_copyRow F.st F.gg (a1 + 1) (a0 + 1) M5) (fun _ _ => rfl) dX3_takeFrom_16 mn_X3_34 ys_X6_copyRow rfl (by decide) rfl (Nat.le_of_ble_eq_true rfl) (fun _ => rfl) (fun _ M16 => ?_)
  refine r_aload_n F 1 dX3_takeFrom_19 rfl rfl ?_
  refine gf_X3_15 F dX3_takeFrom_20 (kb_k h1) ?_
  refine r_aload_n F 0 dX3_takeFrom_23 rfl rfl ?_
  refine gf_X3_15 F dX3_takeFrom_24 (kb_k h2) ?_
  refine r_cSN (val := vU) (As := [.ref (gA G (a1 + 2)), .ref (gA G (a0 + 2))]) (rest := []) (fun _ => []) F (c_X6_copyRow F.st F.gg (a1 + 2) (a0 + 2) M16) (fun _ _ => rfl) dX3_takeFrom_27 mn_X3_34 ys_X6_copyRow rfl (by decide) rfl (Nat.le_of_ble_eq_true rfl) (fun _ => rfl) (fun _ M27 => ?_)
  refine r_aload_n F 1 dX3_takeFrom_30 rfl rfl ?_
  refine gf_X3_18 F dX3_takeFrom_31 (kb_k h1) ?_
  refine r_aload_n F 0 dX3_takeFrom_34 rfl rfl ?_
  refine gf_X3_18 F dX3_takeFrom_35 (kb_k h2) ?_
  refine r_cSN (val := vU) (As := [.ref (gA G (a1 + 3)), .ref (gA G (a0 + 3))]) (rest := []) (fun _ => []) F (c_X6_copyRow F.st F.gg (a1 + 3) (a0 + 3) M27) (fun _ _ => rfl) dX3_takeFrom_38 mn_X3_34 ys_X6_copyRow rfl (by decide) rfl (Nat.le_of_ble_eq_true rfl) (fun _ => rfl) (fun _ M38 => ?_)
  refine r_aload_n F 0 dX3_takeFrom_41 rfl rfl ?_
  refine r_aload_n F 1 dX3_takeFrom_42 rfl rfl ?_
  refine gf_X3_46 F dX3_takeFrom_43 (kb_k h1) ?_
  refine pf_X3_46 F dX3_takeFrom_46 (kb_k h2) (fun M46 => ?_)
  refine r_aload_n F 0 dX3_takeFrom_49 rfl rfl ?_
  refine r_aload_n F 1 dX3_takeFrom_50 rfl rfl ?_
  refine gf_X3_49 F dX3_takeFrom_51 (kb_k h1) ?_
  refine pf_X3_49 F dX3_takeFrom_54 (kb_k h2) (fun M54 => ?_)
  refine r_aload_n F 0 dX3_takeFrom_57 rfl rfl ?_
  refine r_aload_n F 1 dX3_takeFrom_58 rfl rfl ?_
  refine gf_X3_53 F dX3_takeFrom_59 (kb_k h1) ?_
  refine pf_X3_53 F dX3_takeFrom_62 (kb_k h2) (fun M62 => ?_)
  exact r_vret F rfl dX3_takeFrom_65 rfl

set_option maxRecDepth 100000 in
set_option maxHeartbeats 4000000 in
theorem c_X3_takeFrom {l : Launch} {G : GM} (hl : l.stackTraces = false) (hG : GG G) (a0 : Nat) (a1 : Nat) (M : Mem) : ∀ r, f_X3_takeFrom a0 a1 M = some r → Ctr l G yX3_takeFrom (.code yX3_takeFrom cX3_takeFrom 2 none :: wsA) 7 [.ref (gA G a0), .ref (gA G a1)] M (emV r) :=
  ctr_of (by decide) hl hG (Nat.le_of_ble_eq_true rfl) (fun p e s m args below meth c F => b_X3_takeFrom F a0 a1 M)

-- ===== X0_takeFrom DrumTowns$Land.takeFrom(LDrumTowns$Land;)V =====
theorem yv_X0_takeFrom : yV yX0_takeFrom cX0_takeFrom 3 none 1 := ⟨im_X0_takeFrom, sl_X0_takeFrom, ini_X0, cd_X0_takeFrom, ⟨by decide, by decide, by decide +kernel⟩, by decide⟩

def f_X0_takeFrom_2 : Nat → Nat → Nat → Int32 → Mem → Option (Unit × Mem)
  | 0, _, _, _, _ => none
  | n + 1, y0, y1, y2, M => if (6 : Int32) ≤ y2 then (chk (kb y1 1) <| chk (kb y0 1) <| bnd (mw M y0 1 (M.1 y1 1)) fun M49 => bn (f_X6_copyRow (y1 + 2) (y0 + 2) M49) fun _ M60 => bnd (mw M60 y0 4 (M60.1 y1 4)) fun M68 => bnd (mw M68 y0 5 (M68.1 y1 5)) fun M76 => bnd (mw M76 y0 6 (M76.1 y1 6)) fun M84 => bnd (mw M84 y0 7 (M84.1 y1 7)) fun M92 => some ((), M92)) else (chk (kb y0 1) <| chk (inb y2 6) <| bnd (tw (y0 + 1) y2) fun b13 => chk (kb y1 1) <| chk (inb y2 6) <| bnd (tw (y1 + 1) y2) fun b19 => bn (f_X3_takeFrom b13 b19 M) fun _ M20 => chk (inb y2 6) <| bnd (rw' (y1 + 3) y2) fun b28 => chk (inb y2 6) <| bnd (rw' (y0 + 3) y2) fun b34 => bn (f_X6_copyRow b28 b34 M20) fun _ M35 => bnd (y2 + (1 : Int32)) fun x38 => f_X0_takeFrom_2  n y0 y1 x38 M35)

set_option maxRecDepth 100000 in
set_option maxHeartbeats 4000000 in
theorem l_X0_takeFrom_2 {G : GM} {p : Program} {l : Launch} {e : Env} {s : State} {m : MethodId} {args : Array Value} {below : List Frame} {meth : Method} {c : Code} (F : Fx G p l s m args meth c cX0_takeFrom RX0 3 none) : ∀ (n : Nat) (y0 : Nat) (y1 : Nat) (y2 : Int32) (M : Mem), Rf G p l e s m args below meth c 8 3 emV (f_X0_takeFrom_2  n y0 y1 y2 M) 2 [(0, .ref (gA G y0)), (1, .ref (gA G y1)), (2, .int y2)] [] M := by
  intro n
  induction n with
  | zero => intros; exact r_none
  | succ n ih =>
    intro y0 y1 y2 M
    rw [f_X0_takeFrom_2]
    refine r_iload_n F 2 dX0_takeFrom_2 rfl rfl ?_
    refine r_bipush F dX0_takeFrom_3 (v := 6) (by decide) ?_
    refine r_icmp_ge (tgt := 44) F dX0_takeFrom_5 (by decide) (fun c1 => ?_) (fun c1 => ?_)
    · refine r_aload_n F 0 dX0_takeFrom_44 rfl rfl ?_
      refine r_aload_n F 1 dX0_takeFrom_45 rfl rfl ?_
      refine r_chk (fun h2 => ?_)
      refine gf_X0_38 F dX0_takeFrom_46 (kb_k h2) ?_
      refine r_chk (fun h3 => ?_)
      refine pf_X0_38 F dX0_takeFrom_49 (kb_k h3) (fun M49 => ?_)
      refine r_aload_n F 1 dX0_takeFrom_52 rfl rfl ?_
      refine gf_X0_17 F dX0_takeFrom_53 (kb_k h2) ?_
      refine r_aload_n F 0 dX0_takeFrom_56 rfl rfl ?_
      refine gf_X0_17 F dX0_takeFrom_57 (kb_k h3) ?_
      refine r_cSN (val := vU) (As := [.ref (gA G (y1 + 2)), .ref (gA G (y0 + 2))]) (rest := []) (fun _ => []) F (c_X6_copyRow F.st F.gg (y1 + 2) (y0 + 2) M49) (fun _ _ => rfl) dX0_takeFrom_60 mn_X0_34 ys_X6_copyRow rfl (by decide) rfl (Nat.le_of_ble_eq_true rfl) (fun _ => rfl) (fun _ M60 => ?_)
      refine r_aload_n F 0 dX0_takeFrom_63 rfl rfl ?_
      refine r_aload_n F 1 dX0_takeFrom_64 rfl rfl ?_
      refine gf_X0_42 F dX0_takeFrom_65 (kb_k h2) ?_
      refine pf_X0_42 F dX0_takeFrom_68 (kb_k h3) (fun M68 => ?_)
      refine r_aload_n F 0 dX0_takeFrom_71 rfl rfl ?_
      refine r_aload_n F 1 dX0_takeFrom_72 rfl rfl ?_
      refine gf_X0_45 F dX0_takeFrom_73 (kb_k h2) ?_
      refine pf_X0_45 F dX0_takeFrom_76 (kb_k h3) (fun M76 => ?_)
      refine r_aload_n F 0 dX0_takeFrom_79 rfl rfl ?_
      refine r_aload_n F 1 dX0_takeFrom_80 rfl rfl ?_
      refine gf_X0_48 F dX0_takeFrom_81 (kb_k h2) ?_
      refine pf_X0_48 F dX0_takeFrom_84 (kb_k h3) (fun M84 => ?_)
      refine r_aload_n F 0 dX0_takeFrom_87 rfl rfl ?_
      refine r_aload_n F 1 dX0_takeFrom_88 rfl rfl ?_
      refine gf_X0_51 F dX0_takeFrom_89 (kb_k h2) ?_
      refine pf_X0_51 F dX0_takeFrom_92 (kb_k h3) (fun M92 => ?_)
      exact r_vret F rfl dX0_takeFrom_95 rfl
    · refine r_aload_n F 0 dX0_takeFrom_8 rfl rfl ?_
      refine r_chk (fun h4 => ?_)
      refine gf_X0_11 F dX0_takeFrom_9 (kb_k h4) ?_
      refine r_iload_n F 2 dX0_takeFrom_12 rfl rfl ?_
      refine r_chk (fun h5 => ?_)
      refine r_aaldT F dX0_takeFrom_13 (kLs (kb_k h4)) h5 ?_
      refine r_br (kTw' (kLs (kb_k h4)) h5) (fun b13 k13 => ?_)
      refine r_aload_n F 1 dX0_takeFrom_14 rfl rfl ?_
      refine r_chk (fun h6 => ?_)
      refine gf_X0_11 F dX0_takeFrom_15 (kb_k h6) ?_
      refine r_iload_n F 2 dX0_takeFrom_18 rfl rfl ?_
      refine r_chk (fun h7 => ?_)
      refine r_aaldT F dX0_takeFrom_19 (kLs (kb_k h6)) h7 ?_
      refine r_br (kTw' (kLs (kb_k h6)) h7) (fun b19 k19 => ?_)
      refine r_cVN (val := vU) (As := [.ref (gA G b19)]) (rest := []) (fun _ => []) F (c_X3_takeFrom F.st F.gg b13 b19 M) (fun _ _ => rfl) dX0_takeFrom_20 mn_X0_30 yv_X3_takeFrom k13 (by decide) rfl rfl (by decide) rfl (Nat.le_of_ble_eq_true rfl) (fun _ => rfl) (fun _ M20 => ?_)
      refine r_aload_n F 1 dX0_takeFrom_23 rfl rfl ?_
      refine gf_X0_23 F dX0_takeFrom_24 (kb_k h6) ?_
      refine r_iload_n F 2 dX0_takeFrom_27 rfl rfl ?_
      refine r_chk (fun h8 => ?_)
      refine r_aaldR F dX0_takeFrom_28 (kLd (kb_k h6)) h8 ?_
      refine r_bra (kRw (kLd (kb_k h6)) h8) (aRw (kLd (kb_k h6)) h8) (fun b28 k28 k28a => ?_)
      refine r_aload_n F 0 dX0_takeFrom_29 rfl rfl ?_
      refine gf_X0_23 F dX0_takeFrom_30 (kb_k h4) ?_
      refine r_iload_n F 2 dX0_takeFrom_33 rfl rfl ?_
      refine r_chk (fun h9 => ?_)
      refine r_aaldR F dX0_takeFrom_34 (kLd (kb_k h4)) h9 ?_
      refine r_bra (kRw (kLd (kb_k h4)) h9) (aRw (kLd (kb_k h4)) h9) (fun b34 k34 k34a => ?_)
      refine r_cSN (val := vU) (As := [.ref (gA G b28), .ref (gA G b34)]) (rest := []) (fun _ => []) F (c_X6_copyRow F.st F.gg b28 b34 M20) (fun _ _ => rfl) dX0_takeFrom_35 mn_X0_34 ys_X6_copyRow rfl (by decide) rfl (Nat.le_of_ble_eq_true rfl) (fun _ => rfl) (fun _ M35 => ?_)
      refine r_iinc (ls' := fun q9 => [(2, .int q9), (0, .ref (gA G y0)), (1, .ref (gA G y1))]) (k := 2) (v := y2 + (1 : Int32)) F dX0_takeFrom_38 rfl rfl (by decide) (fun _ => rfl) (fun x38 => ?_)
      refine r_goto (tgt := 2) F dX0_takeFrom_41 (by decide) ?_
      refine r_sub [1, 2, 0] rfl ?_
      exact ih y0 y1 x38 M35

def f_X0_takeFrom (a0 : Nat) (a1 : Nat) (M : Mem) : Option (Unit × Mem) := f_X0_takeFrom_2  FU a0 a1 (0 : Int32) M

set_option maxRecDepth 100000 in
set_option maxHeartbeats 4000000 in
theorem b_X0_takeFrom {G : GM} {p : Program} {l : Launch} {e : Env} {s : State} {m : MethodId} {args : Array Value} {below : List Frame} {meth : Method} {c : Code} (F : Fx G p l s m args meth c cX0_takeFrom RX0 3 none) (a0 : Nat) (a1 : Nat) (M : Mem) : Rf G p l e s m args below meth c 8 3 emV (f_X0_takeFrom a0 a1 M) 0 [(0, .ref (gA G a0)), (1, .ref (gA G a1))] [] M := by
  unfold f_X0_takeFrom
  refine r_iconst F dX0_takeFrom_0 (v := 0) (by decide) ?_
  refine r_istore_n (ls' := [(2, .int (0 : Int32)), (0, .ref (gA G a0)), (1, .ref (gA G a1))]) F dX0_takeFrom_1 rfl (by decide) rfl ?_
  refine r_sub [1, 2, 0] rfl ?_
  exact l_X0_takeFrom_2 F   FU a0 a1 (0 : Int32) M

set_option maxRecDepth 100000 in
set_option maxHeartbeats 4000000 in
theorem c_X0_takeFrom {l : Launch} {G : GM} (hl : l.stackTraces = false) (hG : GG G) (a0 : Nat) (a1 : Nat) (M : Mem) : ∀ r, f_X0_takeFrom a0 a1 M = some r → Ctr l G yX0_takeFrom (.code yX0_takeFrom cX0_takeFrom 3 none :: wsA) 8 [.ref (gA G a0), .ref (gA G a1)] M (emV r) :=
  ctr_of (by decide) hl hG (Nat.le_of_ble_eq_true rfl) (fun p e s m args below meth c F => b_X0_takeFrom F a0 a1 M)

-- ===== X2_following DrumTowns$Ring.following(I)I =====
theorem yv_X2_following : yV yX2_following cX2_following 2 (some .int) 1 := ⟨im_X2_following, sl_X2_following, ini_X2, cd_X2_following, ⟨by decide, by decide, by decide +kernel⟩, by decide⟩

def f_X2_following_27 (z0 : Int32) (M : Mem) : Option (Int32 × Mem) := some (z0, M)

set_option maxRecDepth 100000 in
set_option maxHeartbeats 4000000 in
theorem l_X2_following_27 {G : GM} {p : Program} {l : Launch} {e : Env} {s : State} {m : MethodId} {args : Array Value} {below : List Frame} {meth : Method} {c : Code} (F : Fx G p l s m args meth c cX2_following RX2 2 (some .int)) (z0 : Int32) (M : Mem) : Rf G p l e s m args below meth c 6 2 emI (f_X2_following_27  z0 M) 27 [] [.int z0] M := by
  unfold f_X2_following_27
  exact r_iret F rfl dX2_following_27 rfl

def f_X2_following (a1 : Int32) (M : Mem) : Option (Int32 × Mem) := if (M.1 10 1) ≤ (a1 + (1 : Int32)) then (chk (inb (0 : Int32) 6) <| f_X2_following_27  (M.1 11 (0 : Int32).toNatClampNeg) M) else (chk (inb (a1 + (1 : Int32)) 6) <| f_X2_following_27  (M.1 11 (a1 + (1 : Int32)).toNatClampNeg) M)

set_option maxRecDepth 100000 in
set_option maxHeartbeats 4000000 in
theorem b_X2_following {G : GM} {p : Program} {l : Launch} {e : Env} {s : State} {m : MethodId} {args : Array Value} {below : List Frame} {meth : Method} {c : Code} (F : Fx G p l s m args meth c cX2_following RX2 2 (some .int)) (a1 : Int32) (M : Mem) : Rf G p l e s m args below meth c 6 2 emI (f_X2_following a1 M) 0 [(0, .ref (gA G 10)), (1, .int a1)] [] M := by
  unfold f_X2_following
  refine r_iload_n F 1 dX2_following_0 rfl rfl ?_
  refine r_iconst F dX2_following_1 (v := 1) (by decide) ?_
  refine r_iadd F dX2_following_2 ?_
  refine r_aload_n F 0 dX2_following_3 rfl rfl ?_
  refine gf_X2_15 F dX2_following_4 (rfl : kd 10 = 4) ?_
  refine r_icmp_ge (tgt := 21) F dX2_following_7 (by decide) (fun c1 => ?_) (fun c1 => ?_)
  · refine r_aload_n F 0 dX2_following_21 rfl rfl ?_
    refine gf_X2_9 F dX2_following_22 (rfl : kd 10 = 4) ?_
    refine r_iconst F dX2_following_25 (v := 0) (by decide) ?_
    refine r_chk (fun h2 => ?_)
    refine r_iald F dX2_following_26 (rfl : kd 11 = 8) (rfl : al 11 = 6) h2 ?_
    refine r_sub [] rfl ?_
    exact l_X2_following_27 F   (M.1 11 (0 : Int32).toNatClampNeg) M
  · refine r_aload_n F 0 dX2_following_10 rfl rfl ?_
    refine gf_X2_9 F dX2_following_11 (rfl : kd 10 = 4) ?_
    refine r_iload_n F 1 dX2_following_14 rfl rfl ?_
    refine r_iconst F dX2_following_15 (v := 1) (by decide) ?_
    refine r_iadd F dX2_following_16 ?_
    refine r_chk (fun h3 => ?_)
    refine r_iald F dX2_following_17 (rfl : kd 11 = 8) (rfl : al 11 = 6) h3 ?_
    refine r_goto (tgt := 27) F dX2_following_18 (by decide) ?_
    refine r_sub [] rfl ?_
    exact l_X2_following_27 F   (M.1 11 (a1 + (1 : Int32)).toNatClampNeg) M

set_option maxRecDepth 100000 in
set_option maxHeartbeats 4000000 in
theorem c_X2_following {l : Launch} {G : GM} (hl : l.stackTraces = false) (hG : GG G) (a1 : Int32) (M : Mem) : ∀ r, f_X2_following a1 M = some r → Ctr l G yX2_following (.code yX2_following cX2_following 2 (some .int) :: wsA) 6 [.ref (gA G 10), .int a1] M (emI r) :=
  ctr_of (by decide) hl hG (Nat.le_of_ble_eq_true rfl) (fun p e s m args below meth c F => b_X2_following F a1 M)

-- ===== X0_takeRing DrumTowns$Land.takeRing(LDrumTowns$Ring;)V =====
theorem yv_X0_takeRing : yV yX0_takeRing cX0_takeRing 3 none 1 := ⟨im_X0_takeRing, sl_X0_takeRing, ini_X0, cd_X0_takeRing, ⟨by decide, by decide, by decide +kernel⟩, by decide⟩

def f_X0_takeRing_2 : Nat → Nat → Int32 → Mem → Option (Unit × Mem)
  | 0, _, _, _ => none
  | n + 1, y0, y2, M => if (M.1 10 1) ≤ y2 then (chk (kb y0 1) <| bnd (mw M y0 6 ((M.1 y0 6) + (1 : Int32))) fun M47 => bnd (mw M47 y0 7 ((M47.1 y0 7) + ((M47.1 10 2) * (M47.1 10 1)))) fun M65 => some ((), M65)) else (chk (kb y0 1) <| chk (inb y2 6) <| chk (inb (M.1 11 y2.toNatClampNeg) 6) <| bnd (rw' (y0 + 3) (M.1 11 y2.toNatClampNeg)) fun b20 => bn (f_X2_following y2 M) fun r23 M23 => chk (inb r23 6) <| chk (inb r23 6) <| bnd (mw M23 b20 r23.toNatClampNeg ((M23.1 b20 r23.toNatClampNeg) - (M23.1 10 2))) fun M33 => bnd (y2 + (1 : Int32)) fun x34 => f_X0_takeRing_2  n y0 x34 M33)

set_option maxRecDepth 100000 in
set_option maxHeartbeats 4000000 in
theorem l_X0_takeRing_2 {G : GM} {p : Program} {l : Launch} {e : Env} {s : State} {m : MethodId} {args : Array Value} {below : List Frame} {meth : Method} {c : Code} (F : Fx G p l s m args meth c cX0_takeRing RX0 3 none) : ∀ (n : Nat) (y0 : Nat) (y2 : Int32) (M : Mem), Rf G p l e s m args below meth c 7 3 emV (f_X0_takeRing_2  n y0 y2 M) 2 [(0, .ref (gA G y0)), (1, .ref (gA G 10)), (2, .int y2)] [] M := by
  intro n
  induction n with
  | zero => intros; exact r_none
  | succ n ih =>
    intro y0 y2 M
    rw [f_X0_takeRing_2]
    refine r_iload_n F 2 dX0_takeRing_2 rfl rfl ?_
    refine r_aload_n F 1 dX0_takeRing_3 rfl rfl ?_
    refine gf_X0_57 F dX0_takeRing_4 (rfl : kd 10 = 4) ?_
    refine r_icmp_ge (tgt := 40) F dX0_takeRing_7 (by decide) (fun c1 => ?_) (fun c1 => ?_)
    · refine r_aload_n F 0 dX0_takeRing_40 rfl rfl ?_
      refine r_dup F dX0_takeRing_41 rfl ?_
      refine r_chk (fun h2 => ?_)
      refine gf_X0_48 F dX0_takeRing_42 (kb_k h2) ?_
      refine r_iconst F dX0_takeRing_45 (v := 1) (by decide) ?_
      refine r_iadd F dX0_takeRing_46 ?_
      refine pf_X0_48 F dX0_takeRing_47 (kb_k h2) (fun M47 => ?_)
      refine r_aload_n F 0 dX0_takeRing_50 rfl rfl ?_
      refine r_dup F dX0_takeRing_51 rfl ?_
      refine gf_X0_51 F dX0_takeRing_52 (kb_k h2) ?_
      refine r_aload_n F 1 dX0_takeRing_55 rfl rfl ?_
      refine gf_X0_69 F dX0_takeRing_56 (rfl : kd 10 = 4) ?_
      refine r_aload_n F 1 dX0_takeRing_59 rfl rfl ?_
      refine gf_X0_57 F dX0_takeRing_60 (rfl : kd 10 = 4) ?_
      refine r_imul F dX0_takeRing_63 ?_
      refine r_iadd F dX0_takeRing_64 ?_
      refine pf_X0_51 F dX0_takeRing_65 (kb_k h2) (fun M65 => ?_)
      exact r_vret F rfl dX0_takeRing_68 rfl
    · refine r_aload_n F 0 dX0_takeRing_10 rfl rfl ?_
      refine r_chk (fun h3 => ?_)
      refine gf_X0_23 F dX0_takeRing_11 (kb_k h3) ?_
      refine r_aload_n F 1 dX0_takeRing_14 rfl rfl ?_
      refine gf_X0_62 F dX0_takeRing_15 (rfl : kd 10 = 4) ?_
      refine r_iload_n F 2 dX0_takeRing_18 rfl rfl ?_
      refine r_chk (fun h4 => ?_)
      refine r_iald F dX0_takeRing_19 (rfl : kd 11 = 8) (rfl : al 11 = 6) h4 ?_
      refine r_chk (fun h5 => ?_)
      refine r_aaldR F dX0_takeRing_20 (kLd (kb_k h3)) h5 ?_
      refine r_bra (kRw (kLd (kb_k h3)) h5) (aRw (kLd (kb_k h3)) h5) (fun b20 k20 k20a => ?_)
      refine r_aload_n F 1 dX0_takeRing_21 rfl rfl ?_
      refine r_iload_n F 2 dX0_takeRing_22 rfl rfl ?_
      refine r_cVN (val := vI) (As := [.int y2]) (rest := [.ref (gA G b20)]) (fun q9 => .int q9 :: [.ref (gA G b20)]) F (c_X2_following F.st F.gg y2 M) (fun _ _ => rfl) dX0_takeRing_23 mn_X0_65 yv_X2_following (rfl : kd 10 = 4) (by decide) rfl rfl (by decide) rfl (Nat.le_of_ble_eq_true rfl) (fun _ => rfl) (fun r23 M23 => ?_)
      refine r_dup2 F dX0_takeRing_26 rfl rfl ?_
      refine r_chk (fun h6 => ?_)
      refine r_iald F dX0_takeRing_27 k20 k20a h6 ?_
      refine r_aload_n F 1 dX0_takeRing_28 rfl rfl ?_
      refine gf_X0_69 F dX0_takeRing_29 (rfl : kd 10 = 4) ?_
      refine r_isub F dX0_takeRing_32 ?_
      refine r_chk (fun h7 => ?_)
      refine r_iast F dX0_takeRing_33 k20 k20a h7 (fun M33 => ?_)
      refine r_iinc (ls' := fun q9 => [(2, .int q9), (0, .ref (gA G y0)), (1, .ref (gA G 10))]) (k := 2) (v := y2 + (1 : Int32)) F dX0_takeRing_34 rfl rfl (by decide) (fun _ => rfl) (fun x34 => ?_)
      refine r_goto (tgt := 2) F dX0_takeRing_37 (by decide) ?_
      refine r_sub [1, 2, 0] rfl ?_
      exact ih y0 x34 M33

def f_X0_takeRing (a0 : Nat) (M : Mem) : Option (Unit × Mem) := f_X0_takeRing_2  FU a0 (0 : Int32) M

set_option maxRecDepth 100000 in
set_option maxHeartbeats 4000000 in
theorem b_X0_takeRing {G : GM} {p : Program} {l : Launch} {e : Env} {s : State} {m : MethodId} {args : Array Value} {below : List Frame} {meth : Method} {c : Code} (F : Fx G p l s m args meth c cX0_takeRing RX0 3 none) (a0 : Nat) (M : Mem) : Rf G p l e s m args below meth c 7 3 emV (f_X0_takeRing a0 M) 0 [(0, .ref (gA G a0)), (1, .ref (gA G 10))] [] M := by
  unfold f_X0_takeRing
  refine r_iconst F dX0_takeRing_0 (v := 0) (by decide) ?_
  refine r_istore_n (ls' := [(2, .int (0 : Int32)), (0, .ref (gA G a0)), (1, .ref (gA G 10))]) F dX0_takeRing_1 rfl (by decide) rfl ?_
  refine r_sub [1, 2, 0] rfl ?_
  exact l_X0_takeRing_2 F   FU a0 (0 : Int32) M

set_option maxRecDepth 100000 in
set_option maxHeartbeats 4000000 in
theorem c_X0_takeRing {l : Launch} {G : GM} (hl : l.stackTraces = false) (hG : GG G) (a0 : Nat) (M : Mem) : ∀ r, f_X0_takeRing a0 M = some r → Ctr l G yX0_takeRing (.code yX0_takeRing cX0_takeRing 3 none :: wsA) 7 [.ref (gA G a0), .ref (gA G 10)] M (emV r) :=
  ctr_of (by decide) hl hG (Nat.le_of_ble_eq_true rfl) (fun p e s m args below meth c F => b_X0_takeRing F a0 M)

-- ===== X1_begin DrumTowns$Playing.begin(LDrumTowns$Town;[I)V =====
theorem yv_X1_begin : yV yX1_begin cX1_begin 3 none 2 := ⟨im_X1_begin, sl_X1_begin, ini_X1, cd_X1_begin, ⟨by decide, by decide, by decide +kernel⟩, by decide⟩

def f_X1_begin (a1 : Nat) (a2 : Nat) (M : Mem) : Option (Unit × Mem) := chk (kb a1 2) <| bn (f_X6_copyRow (a1 + 1) 6 M) fun _ M8 => bn (f_X6_copyRow (a1 + 3) 7 M8) fun _ M19 => chk (kb a2 8) <| chk (inb (0 : Int32) (al a2)) <| bnd (mw M19 5 4 (M19.1 a2 (0 : Int32).toNatClampNeg)) fun M26 => chk (inb (1 : Int32) (al a2)) <| bnd (mw M26 5 5 (M26.1 a2 (1 : Int32).toNatClampNeg)) fun M33 => some ((), M33)

set_option maxRecDepth 100000 in
set_option maxHeartbeats 4000000 in
theorem b_X1_begin {G : GM} {p : Program} {l : Launch} {e : Env} {s : State} {m : MethodId} {args : Array Value} {below : List Frame} {meth : Method} {c : Code} (F : Fx G p l s m args meth c cX1_begin RX1 3 none) (a1 : Nat) (a2 : Nat) (M : Mem) : Rf G p l e s m args below meth c 7 3 emV (f_X1_begin a1 a2 M) 0 [(0, .ref (gA G 5)), (1, .ref (gA G a1)), (2, .ref (gA G a2))] [] M := by
  unfold f_X1_begin
  refine r_aload_n F 1 dX1_begin_0 rfl rfl ?_
  refine r_chk (fun h1 => ?_)
  refine gf_X1_24 F dX1_begin_1 (kb_k h1) ?_
  refine r_aload_n F 0 dX1_begin_4 rfl rfl ?_
  refine gf_X1_9 F dX1_begin_5 (rfl : kd 5 = 3) ?_
  refine r_cSN (val := vU) (As := [.ref (gA G (a1 + 1)), .ref (gA G 6)]) (rest := []) (fun _ => []) F (c_X6_copyRow F.st F.gg (a1 + 1) 6 M) (fun _ _ => rfl) dX1_begin_8 mn_X1_27 ys_X6_copyRow rfl (by decide) rfl (Nat.le_of_ble_eq_true rfl) (fun _ => rfl) (fun _ M8 => ?_)
  refine r_aload_n F 1 dX1_begin_11 rfl rfl ?_
  refine gf_X1_31 F dX1_begin_12 (kb_k h1) ?_
  refine r_aload_n F 0 dX1_begin_15 rfl rfl ?_
  refine gf_X1_15 F dX1_begin_16 (rfl : kd 5 = 3) ?_
  refine r_cSN (val := vU) (As := [.ref (gA G (a1 + 3)), .ref (gA G 7)]) (rest := []) (fun _ => []) F (c_X6_copyRow F.st F.gg (a1 + 3) 7 M8) (fun _ _ => rfl) dX1_begin_19 mn_X1_27 ys_X6_copyRow rfl (by decide) rfl (Nat.le_of_ble_eq_true rfl) (fun _ => rfl) (fun _ M19 => ?_)
  refine r_aload_n F 0 dX1_begin_22 rfl rfl ?_
  refine r_aload_n F 2 dX1_begin_23 rfl rfl ?_
  refine r_iconst F dX1_begin_24 (v := 0) (by decide) ?_
  refine r_chk (fun h2 => ?_)
  refine r_chk (fun h3 => ?_)
  refine r_iald F dX1_begin_25 (kb_k h2) rfl h3 ?_
  refine pf_X1_32 F dX1_begin_26 (rfl : kd 5 = 3) (fun M26 => ?_)
  refine r_aload_n F 0 dX1_begin_29 rfl rfl ?_
  refine r_aload_n F 2 dX1_begin_30 rfl rfl ?_
  refine r_iconst F dX1_begin_31 (v := 1) (by decide) ?_
  refine r_chk (fun h4 => ?_)
  refine r_iald F dX1_begin_32 (kb_k h2) rfl h4 ?_
  refine pf_X1_36 F dX1_begin_33 (rfl : kd 5 = 3) (fun M33 => ?_)
  exact r_vret F rfl dX1_begin_36 rfl

set_option maxRecDepth 100000 in
set_option maxHeartbeats 4000000 in
theorem c_X1_begin {l : Launch} {G : GM} (hl : l.stackTraces = false) (hG : GG G) (a1 : Nat) (a2 : Nat) (M : Mem) : ∀ r, f_X1_begin a1 a2 M = some r → Ctr l G yX1_begin (.code yX1_begin cX1_begin 3 none :: wsA) 7 [.ref (gA G 5), .ref (gA G a1), .ref (gA G a2)] M (emV r) :=
  ctr_of (by decide) hl hG (Nat.le_of_ble_eq_true rfl) (fun p e s m args below meth c F => b_X1_begin F a1 a2 M)

-- ===== X1_forgetSounds DrumTowns$Playing.forgetSounds()V =====
theorem yv_X1_forgetSounds : yV yX1_forgetSounds cX1_forgetSounds 2 none 0 := ⟨im_X1_forgetSounds, sl_X1_forgetSounds, ini_X1, cd_X1_forgetSounds, ⟨by decide, by decide, by decide +kernel⟩, by decide⟩

def f_X1_forgetSounds_48 : Nat → Int32 → Mem → Option (Unit × Mem)
  | 0, _, _ => none
  | n + 1, y1, M => if (12 : Int32) ≤ y1 then (some ((), M)) else (chk (inb y1 12) <| bnd (mw M 8 y1.toNatClampNeg (-24 : Int32)) fun M61 => bnd (y1 + (1 : Int32)) fun x62 => f_X1_forgetSounds_48  n x62 M61)

set_option maxRecDepth 100000 in
set_option maxHeartbeats 4000000 in
theorem l_X1_forgetSounds_48 {G : GM} {p : Program} {l : Launch} {e : Env} {s : State} {m : MethodId} {args : Array Value} {below : List Frame} {meth : Method} {c : Code} (F : Fx G p l s m args meth c cX1_forgetSounds RX1 2 none) : ∀ (n : Nat) (y1 : Int32) (M : Mem), Rf G p l e s m args below meth c 6 2 emV (f_X1_forgetSounds_48  n y1 M) 48 [(0, .ref (gA G 5)), (1, .int y1)] [] M := by
  intro n
  induction n with
  | zero => intros; exact r_none
  | succ n ih =>
    intro y1 M
    rw [f_X1_forgetSounds_48]
    refine r_iload_n F 1 dX1_forgetSounds_48 rfl rfl ?_
    refine r_bipush F dX1_forgetSounds_49 (v := 12) (by decide) ?_
    refine r_icmp_ge (tgt := 68) F dX1_forgetSounds_51 (by decide) (fun c1 => ?_) (fun c1 => ?_)
    · exact r_vret F rfl dX1_forgetSounds_68 rfl
    · refine r_aload_n F 0 dX1_forgetSounds_54 rfl rfl ?_
      refine gf_X1_18 F dX1_forgetSounds_55 (rfl : kd 5 = 3) ?_
      refine r_iload_n F 1 dX1_forgetSounds_58 rfl rfl ?_
      refine r_bipush F dX1_forgetSounds_59 (v := -24) (by decide) ?_
      refine r_chk (fun h2 => ?_)
      refine r_iast F dX1_forgetSounds_61 (rfl : kd 8 = 8) (rfl : al 8 = 12) h2 (fun M61 => ?_)
      refine r_iinc (ls' := fun q9 => [(1, .int q9), (0, .ref (gA G 5))]) (k := 1) (v := y1 + (1 : Int32)) F dX1_forgetSounds_62 rfl rfl (by decide) (fun _ => rfl) (fun x62 => ?_)
      refine r_goto (tgt := 48) F dX1_forgetSounds_65 (by decide) ?_
      refine r_sub [1, 0] rfl ?_
      exact ih x62 M61

def f_X1_forgetSounds_27 : Nat → Int32 → Mem → Option (Unit × Mem)
  | 0, _, _ => none
  | n + 1, y1, M => if (24 : Int32) ≤ y1 then (f_X1_forgetSounds_48  FU (0 : Int32) M) else (chk (inb y1 24) <| bnd (mw M 9 y1.toNatClampNeg (0 : Int32)) fun M39 => bnd (y1 + (1 : Int32)) fun x40 => f_X1_forgetSounds_27  n x40 M39)

set_option maxRecDepth 100000 in
set_option maxHeartbeats 4000000 in
theorem l_X1_forgetSounds_27 {G : GM} {p : Program} {l : Launch} {e : Env} {s : State} {m : MethodId} {args : Array Value} {below : List Frame} {meth : Method} {c : Code} (F : Fx G p l s m args meth c cX1_forgetSounds RX1 2 none) : ∀ (n : Nat) (y1 : Int32) (M : Mem), Rf G p l e s m args below meth c 6 2 emV (f_X1_forgetSounds_27  n y1 M) 27 [(0, .ref (gA G 5)), (1, .int y1)] [] M := by
  intro n
  induction n with
  | zero => intros; exact r_none
  | succ n ih =>
    intro y1 M
    rw [f_X1_forgetSounds_27]
    refine r_iload_n F 1 dX1_forgetSounds_27 rfl rfl ?_
    refine r_bipush F dX1_forgetSounds_28 (v := 24) (by decide) ?_
    refine r_icmp_ge (tgt := 46) F dX1_forgetSounds_30 (by decide) (fun c1 => ?_) (fun c1 => ?_)
    · refine r_iconst F dX1_forgetSounds_46 (v := 0) (by decide) ?_
      refine r_istore_n (ls' := [(1, .int (0 : Int32)), (0, .ref (gA G 5))]) F dX1_forgetSounds_47 rfl (by decide) rfl ?_
      refine r_sub [1, 0] rfl ?_
      exact l_X1_forgetSounds_48 F   FU (0 : Int32) M
    · refine r_aload_n F 0 dX1_forgetSounds_33 rfl rfl ?_
      refine gf_X1_21 F dX1_forgetSounds_34 (rfl : kd 5 = 3) ?_
      refine r_iload_n F 1 dX1_forgetSounds_37 rfl rfl ?_
      refine r_iconst F dX1_forgetSounds_38 (v := 0) (by decide) ?_
      refine r_chk (fun h2 => ?_)
      refine r_iast F dX1_forgetSounds_39 (rfl : kd 9 = 8) (rfl : al 9 = 24) h2 (fun M39 => ?_)
      refine r_iinc (ls' := fun q9 => [(1, .int q9), (0, .ref (gA G 5))]) (k := 1) (v := y1 + (1 : Int32)) F dX1_forgetSounds_40 rfl rfl (by decide) (fun _ => rfl) (fun x40 => ?_)
      refine r_goto (tgt := 27) F dX1_forgetSounds_43 (by decide) ?_
      refine r_sub [1, 0] rfl ?_
      exact ih x40 M39

def f_X1_forgetSounds  (M : Mem) : Option (Unit × Mem) := bnd (mw M 5 6 (0 : Int32)) fun M2 => bnd (mw M2 5 7 (0 : Int32)) fun M7 => bnd (mw M7 5 8 (0 : Int32)) fun M12 => bnd (mw M12 5 9 (0 : Int32)) fun M17 => bnd (mw M17 5 10 (0 : Int32)) fun M22 => f_X1_forgetSounds_27  FU (0 : Int32) M22

set_option maxRecDepth 100000 in
set_option maxHeartbeats 4000000 in
theorem b_X1_forgetSounds {G : GM} {p : Program} {l : Launch} {e : Env} {s : State} {m : MethodId} {args : Array Value} {below : List Frame} {meth : Method} {c : Code} (F : Fx G p l s m args meth c cX1_forgetSounds RX1 2 none)  (M : Mem) : Rf G p l e s m args below meth c 6 2 emV (f_X1_forgetSounds  M) 0 [(0, .ref (gA G 5))] [] M := by
  unfold f_X1_forgetSounds
  refine r_aload_n F 0 dX1_forgetSounds_0 rfl rfl ?_
  refine r_iconst F dX1_forgetSounds_1 (v := 0) (by decide) ?_
  refine pf_X1_50 F dX1_forgetSounds_2 (rfl : kd 5 = 3) (fun M2 => ?_)
  refine r_aload_n F 0 dX1_forgetSounds_5 rfl rfl ?_
  refine r_iconst F dX1_forgetSounds_6 (v := 0) (by decide) ?_
  refine pf_X1_53 F dX1_forgetSounds_7 (rfl : kd 5 = 3) (fun M7 => ?_)
  refine r_aload_n F 0 dX1_forgetSounds_10 rfl rfl ?_
  refine r_iconst F dX1_forgetSounds_11 (v := 0) (by decide) ?_
  refine pf_X1_56 F dX1_forgetSounds_12 (rfl : kd 5 = 3) (fun M12 => ?_)
  refine r_aload_n F 0 dX1_forgetSounds_15 rfl rfl ?_
  refine r_iconst F dX1_forgetSounds_16 (v := 0) (by decide) ?_
  refine pf_X1_59 F dX1_forgetSounds_17 (rfl : kd 5 = 3) (fun M17 => ?_)
  refine r_aload_n F 0 dX1_forgetSounds_20 rfl rfl ?_
  refine r_iconst F dX1_forgetSounds_21 (v := 0) (by decide) ?_
  refine pf_X1_62 F dX1_forgetSounds_22 (rfl : kd 5 = 3) (fun M22 => ?_)
  refine r_iconst F dX1_forgetSounds_25 (v := 0) (by decide) ?_
  refine r_istore_n (ls' := [(1, .int (0 : Int32)), (0, .ref (gA G 5))]) F dX1_forgetSounds_26 rfl (by decide) rfl ?_
  refine r_sub [1, 0] rfl ?_
  exact l_X1_forgetSounds_27 F   FU (0 : Int32) M22

set_option maxRecDepth 100000 in
set_option maxHeartbeats 4000000 in
theorem c_X1_forgetSounds {l : Launch} {G : GM} (hl : l.stackTraces = false) (hG : GG G)  (M : Mem) : ∀ r, f_X1_forgetSounds  M = some r → Ctr l G yX1_forgetSounds (.code yX1_forgetSounds cX1_forgetSounds 2 none :: wsA) 6 [.ref (gA G 5)] M (emV r) :=
  ctr_of (by decide) hl hG (Nat.le_of_ble_eq_true rfl) (fun p e s m args below meth c F => b_X1_forgetSounds F  M)

-- ===== X1_meetPin DrumTowns$Playing.meetPin(IIZ)V =====
theorem yv_X1_meetPin : yV yX1_meetPin cX1_meetPin 4 none 3 := ⟨im_X1_meetPin, sl_X1_meetPin, ini_X1, cd_X1_meetPin, ⟨by decide, by decide, by decide +kernel⟩, by decide⟩

def f_X1_meetPin_143  (M : Mem) : Option (Unit × Mem) := some ((), M)

set_option maxRecDepth 100000 in
set_option maxHeartbeats 4000000 in
theorem l_X1_meetPin_143 {G : GM} {p : Program} {l : Launch} {e : Env} {s : State} {m : MethodId} {args : Array Value} {below : List Frame} {meth : Method} {c : Code} (F : Fx G p l s m args meth c cX1_meetPin RX1 4 none)  (M : Mem) : Rf G p l e s m args below meth c 6 4 emV (f_X1_meetPin_143   M) 143 [] [] M := by
  unfold f_X1_meetPin_143
  exact r_vret F rfl dX1_meetPin_143 rfl

def f_X1_meetPin_51 (z1 : Int32) (z2 : Int32) (M : Mem) : Option (Unit × Mem) := bnd (mw M 5 10 (z1 + z2)) fun M52 => f_X1_meetPin_143   M52

set_option maxRecDepth 100000 in
set_option maxHeartbeats 4000000 in
theorem l_X1_meetPin_51 {G : GM} {p : Program} {l : Launch} {e : Env} {s : State} {m : MethodId} {args : Array Value} {below : List Frame} {meth : Method} {c : Code} (F : Fx G p l s m args meth c cX1_meetPin RX1 4 none) (z1 : Int32) (z2 : Int32) (M : Mem) : Rf G p l e s m args below meth c 6 4 emV (f_X1_meetPin_51  z1 z2 M) 51 [] [.int z2, .int z1, .ref (gA G 5)] M := by
  unfold f_X1_meetPin_51
  refine r_iadd F dX1_meetPin_51 ?_
  refine pf_X1_62 F dX1_meetPin_52 (rfl : kd 5 = 3) (fun M52 => ?_)
  refine r_goto (tgt := 143) F dX1_meetPin_55 (by decide) ?_
  refine r_sub [] rfl ?_
  exact l_X1_meetPin_143 F    M52

def f_X1_meetPin_139 (z1 : Int32) (z2 : Int32) (M : Mem) : Option (Unit × Mem) := bnd (mw M 5 9 (z1 + z2)) fun M140 => f_X1_meetPin_143   M140

set_option maxRecDepth 100000 in
set_option maxHeartbeats 4000000 in
theorem l_X1_meetPin_139 {G : GM} {p : Program} {l : Launch} {e : Env} {s : State} {m : MethodId} {args : Array Value} {below : List Frame} {meth : Method} {c : Code} (F : Fx G p l s m args meth c cX1_meetPin RX1 4 none) (z1 : Int32) (z2 : Int32) (M : Mem) : Rf G p l e s m args below meth c 6 4 emV (f_X1_meetPin_139  z1 z2 M) 139 [] [.int z2, .int z1, .ref (gA G 5)] M := by
  unfold f_X1_meetPin_139
  refine r_iadd F dX1_meetPin_139 ?_
  refine pf_X1_59 F dX1_meetPin_140 (rfl : kd 5 = 3) (fun M140 => ?_)
  refine r_sub [] rfl ?_
  exact l_X1_meetPin_143 F    M140

def f_X1_meetPin (a1 : Int32) (a2 : Int32) (a3 : Int32) (M : Mem) : Option (Unit × Mem) := chk (inb a2 12) <| if (M.1 7 a2.toNatClampNeg) < (M.1 5 5) then (chk (inb a2 12) <| if (M.1 5 4) ≤ (a1 - (M.1 8 a2.toNatClampNeg)) then (chk (inb a1 24) <| chk (inb a1 24) <| bnd (mw M 9 a1.toNatClampNeg ((M.1 9 a1.toNatClampNeg) ||| ((1 : Int32) <<< (a2 &&& 31)))) fun M97 => chk (inb a2 12) <| bnd (mw M97 8 a2.toNatClampNeg a1) fun M104 => chk (inb a2 12) <| chk (inb a2 12) <| bnd (mw M104 7 a2.toNatClampNeg ((M104.1 7 a2.toNatClampNeg) + (1 : Int32))) fun M114 => bnd (mw M114 5 6 ((M114.1 5 6) + (1 : Int32))) fun M122 => if a3 = 0 then (f_X1_meetPin_139  (M122.1 5 9) (0 : Int32) M122) else (f_X1_meetPin_139  (M122.1 5 9) (1 : Int32) M122)) else (bnd (mw M 5 7 ((M.1 5 7) + (1 : Int32))) fun M80 => f_X1_meetPin_143   M80)) else (chk (inb a1 24) <| chk (inb a1 24) <| bnd (mw M 6 a1.toNatClampNeg ((M.1 6 a1.toNatClampNeg) &&& (((1 : Int32) <<< (a2 &&& 31)) ^^^ (-1 : Int32)))) fun M26 => bnd (mw M26 5 8 ((M26.1 5 8) + (1 : Int32))) fun M34 => if a3 = 0 then (f_X1_meetPin_51  (M34.1 5 10) (0 : Int32) M34) else (f_X1_meetPin_51  (M34.1 5 10) (1 : Int32) M34))

set_option maxRecDepth 100000 in
set_option maxHeartbeats 4000000 in
theorem b_X1_meetPin {G : GM} {p : Program} {l : Launch} {e : Env} {s : State} {m : MethodId} {args : Array Value} {below : List Frame} {meth : Method} {c : Code} (F : Fx G p l s m args meth c cX1_meetPin RX1 4 none) (a1 : Int32) (a2 : Int32) (a3 : Int32) (M : Mem) : Rf G p l e s m args below meth c 6 4 emV (f_X1_meetPin a1 a2 a3 M) 0 [(0, .ref (gA G 5)), (1, .int a1), (2, .int a2), (3, .int a3)] [] M := by
  unfold f_X1_meetPin
  refine r_aload_n F 0 dX1_meetPin_0 rfl rfl ?_
  refine gf_X1_15 F dX1_meetPin_1 (rfl : kd 5 = 3) ?_
  refine r_iload_n F 2 dX1_meetPin_4 rfl rfl ?_
  refine r_chk (fun h1 => ?_)
  refine r_iald F dX1_meetPin_5 (rfl : kd 7 = 8) (rfl : al 7 = 12) h1 ?_
  refine r_aload_n F 0 dX1_meetPin_6 rfl rfl ?_
  refine gf_X1_36 F dX1_meetPin_7 (rfl : kd 5 = 3) ?_
  refine r_icmp_lt (tgt := 58) F dX1_meetPin_10 (by decide) (fun c2 => ?_) (fun c2 => ?_)
  · refine r_iload_n F 1 dX1_meetPin_58 rfl rfl ?_
    refine r_aload_n F 0 dX1_meetPin_59 rfl rfl ?_
    refine gf_X1_18 F dX1_meetPin_60 (rfl : kd 5 = 3) ?_
    refine r_iload_n F 2 dX1_meetPin_63 rfl rfl ?_
    refine r_chk (fun h3 => ?_)
    refine r_iald F dX1_meetPin_64 (rfl : kd 8 = 8) (rfl : al 8 = 12) h3 ?_
    refine r_isub F dX1_meetPin_65 ?_
    refine r_aload_n F 0 dX1_meetPin_66 rfl rfl ?_
    refine gf_X1_32 F dX1_meetPin_67 (rfl : kd 5 = 3) ?_
    refine r_icmp_ge (tgt := 86) F dX1_meetPin_70 (by decide) (fun c4 => ?_) (fun c4 => ?_)
    · refine r_aload_n F 0 dX1_meetPin_86 rfl rfl ?_
      refine gf_X1_21 F dX1_meetPin_87 (rfl : kd 5 = 3) ?_
      refine r_iload_n F 1 dX1_meetPin_90 rfl rfl ?_
      refine r_dup2 F dX1_meetPin_91 rfl rfl ?_
      refine r_chk (fun h5 => ?_)
      refine r_iald F dX1_meetPin_92 (rfl : kd 9 = 8) (rfl : al 9 = 24) h5 ?_
      refine r_iconst F dX1_meetPin_93 (v := 1) (by decide) ?_
      refine r_iload_n F 2 dX1_meetPin_94 rfl rfl ?_
      refine r_ishl F dX1_meetPin_95 ?_
      refine r_ior F dX1_meetPin_96 ?_
      refine r_chk (fun h6 => ?_)
      refine r_iast F dX1_meetPin_97 (rfl : kd 9 = 8) (rfl : al 9 = 24) h6 (fun M97 => ?_)
      refine r_aload_n F 0 dX1_meetPin_98 rfl rfl ?_
      refine gf_X1_18 F dX1_meetPin_99 (rfl : kd 5 = 3) ?_
      refine r_iload_n F 2 dX1_meetPin_102 rfl rfl ?_
      refine r_iload_n F 1 dX1_meetPin_103 rfl rfl ?_
      refine r_chk (fun h7 => ?_)
      refine r_iast F dX1_meetPin_104 (rfl : kd 8 = 8) (rfl : al 8 = 12) h7 (fun M104 => ?_)
      refine r_aload_n F 0 dX1_meetPin_105 rfl rfl ?_
      refine gf_X1_15 F dX1_meetPin_106 (rfl : kd 5 = 3) ?_
      refine r_iload_n F 2 dX1_meetPin_109 rfl rfl ?_
      refine r_dup2 F dX1_meetPin_110 rfl rfl ?_
      refine r_chk (fun h8 => ?_)
      refine r_iald F dX1_meetPin_111 (rfl : kd 7 = 8) (rfl : al 7 = 12) h8 ?_
      refine r_iconst F dX1_meetPin_112 (v := 1) (by decide) ?_
      refine r_iadd F dX1_meetPin_113 ?_
      refine r_chk (fun h9 => ?_)
      refine r_iast F dX1_meetPin_114 (rfl : kd 7 = 8) (rfl : al 7 = 12) h9 (fun M114 => ?_)
      refine r_aload_n F 0 dX1_meetPin_115 rfl rfl ?_
      refine r_dup F dX1_meetPin_116 rfl ?_
      refine gf_X1_50 F dX1_meetPin_117 (rfl : kd 5 = 3) ?_
      refine r_iconst F dX1_meetPin_120 (v := 1) (by decide) ?_
      refine r_iadd F dX1_meetPin_121 ?_
      refine pf_X1_50 F dX1_meetPin_122 (rfl : kd 5 = 3) (fun M122 => ?_)
      refine r_aload_n F 0 dX1_meetPin_125 rfl rfl ?_
      refine r_dup F dX1_meetPin_126 rfl ?_
      refine gf_X1_59 F dX1_meetPin_127 (rfl : kd 5 = 3) ?_
      refine r_iload_n F 3 dX1_meetPin_130 rfl rfl ?_
      refine r_if_eq (tgt := 138) F dX1_meetPin_131 (by decide) (fun c10 => ?_) (fun c10 => ?_)
      · refine r_iconst F dX1_meetPin_138 (v := 0) (by decide) ?_
        refine r_sub [] rfl ?_
        exact l_X1_meetPin_139 F   (M122.1 5 9) (0 : Int32) M122
      · refine r_iconst F dX1_meetPin_134 (v := 1) (by decide) ?_
        refine r_goto (tgt := 139) F dX1_meetPin_135 (by decide) ?_
        refine r_sub [] rfl ?_
        exact l_X1_meetPin_139 F   (M122.1 5 9) (1 : Int32) M122
    · refine r_aload_n F 0 dX1_meetPin_73 rfl rfl ?_
      refine r_dup F dX1_meetPin_74 rfl ?_
      refine gf_X1_53 F dX1_meetPin_75 (rfl : kd 5 = 3) ?_
      refine r_iconst F dX1_meetPin_78 (v := 1) (by decide) ?_
      refine r_iadd F dX1_meetPin_79 ?_
      refine pf_X1_53 F dX1_meetPin_80 (rfl : kd 5 = 3) (fun M80 => ?_)
      refine r_goto (tgt := 143) F dX1_meetPin_83 (by decide) ?_
      refine r_sub [] rfl ?_
      exact l_X1_meetPin_143 F    M80
  · refine r_aload_n F 0 dX1_meetPin_13 rfl rfl ?_
    refine gf_X1_9 F dX1_meetPin_14 (rfl : kd 5 = 3) ?_
    refine r_iload_n F 1 dX1_meetPin_17 rfl rfl ?_
    refine r_dup2 F dX1_meetPin_18 rfl rfl ?_
    refine r_chk (fun h11 => ?_)
    refine r_iald F dX1_meetPin_19 (rfl : kd 6 = 8) (rfl : al 6 = 24) h11 ?_
    refine r_iconst F dX1_meetPin_20 (v := 1) (by decide) ?_
    refine r_iload_n F 2 dX1_meetPin_21 rfl rfl ?_
    refine r_ishl F dX1_meetPin_22 ?_
    refine r_iconst F dX1_meetPin_23 (v := -1) (by decide) ?_
    refine r_ixor F dX1_meetPin_24 ?_
    refine r_iand F dX1_meetPin_25 ?_
    refine r_chk (fun h12 => ?_)
    refine r_iast F dX1_meetPin_26 (rfl : kd 6 = 8) (rfl : al 6 = 24) h12 (fun M26 => ?_)
    refine r_aload_n F 0 dX1_meetPin_27 rfl rfl ?_
    refine r_dup F dX1_meetPin_28 rfl ?_
    refine gf_X1_56 F dX1_meetPin_29 (rfl : kd 5 = 3) ?_
    refine r_iconst F dX1_meetPin_32 (v := 1) (by decide) ?_
    refine r_iadd F dX1_meetPin_33 ?_
    refine pf_X1_56 F dX1_meetPin_34 (rfl : kd 5 = 3) (fun M34 => ?_)
    refine r_aload_n F 0 dX1_meetPin_37 rfl rfl ?_
    refine r_dup F dX1_meetPin_38 rfl ?_
    refine gf_X1_62 F dX1_meetPin_39 (rfl : kd 5 = 3) ?_
    refine r_iload_n F 3 dX1_meetPin_42 rfl rfl ?_
    refine r_if_eq (tgt := 50) F dX1_meetPin_43 (by decide) (fun c13 => ?_) (fun c13 => ?_)
    · refine r_iconst F dX1_meetPin_50 (v := 0) (by decide) ?_
      refine r_sub [] rfl ?_
      exact l_X1_meetPin_51 F   (M34.1 5 10) (0 : Int32) M34
    · refine r_iconst F dX1_meetPin_46 (v := 1) (by decide) ?_
      refine r_goto (tgt := 51) F dX1_meetPin_47 (by decide) ?_
      refine r_sub [] rfl ?_
      exact l_X1_meetPin_51 F   (M34.1 5 10) (1 : Int32) M34

set_option maxRecDepth 100000 in
set_option maxHeartbeats 4000000 in
theorem c_X1_meetPin {l : Launch} {G : GM} (hl : l.stackTraces = false) (hG : GG G) (a1 : Int32) (a2 : Int32) (a3 : Int32) (M : Mem) : ∀ r, f_X1_meetPin a1 a2 a3 M = some r → Ctr l G yX1_meetPin (.code yX1_meetPin cX1_meetPin 4 none :: wsA) 6 [.ref (gA G 5), .int a1, .int a2, .int a3] M (emV r) :=
  ctr_of (by decide) hl hG (Nat.le_of_ble_eq_true rfl) (fun p e s m args below meth c F => b_X1_meetPin F a1 a2 a3 M)

-- ===== X1_passStep DrumTowns$Playing.passStep(II)V =====
theorem yv_X1_passStep : yV yX1_passStep cX1_passStep 4 none 2 := ⟨im_X1_passStep, sl_X1_passStep, ini_X1, cd_X1_passStep, ⟨by decide, by decide, by decide +kernel⟩, by decide⟩

def f_X1_passStep_40 (k2 : Int32 → Int32 → Int32 → Mem → Option (Unit × Mem)) (y1 : Int32) (y2 : Int32) (y3 : Int32) (M : Mem) : Option (Unit × Mem) := bnd (y3 + (1 : Int32)) fun x40 => k2 y1 y2 x40 M

set_option maxRecDepth 100000 in
set_option maxHeartbeats 4000000 in
theorem l_X1_passStep_40 {G : GM} {p : Program} {l : Launch} {e : Env} {s : State} {m : MethodId} {args : Array Value} {below : List Frame} {meth : Method} {c : Code} (F : Fx G p l s m args meth c cX1_passStep RX1 4 none) (k2 : Int32 → Int32 → Int32 → Mem → Option (Unit × Mem)) (H2 : ∀ (y1 : Int32) (y2 : Int32) (y3 : Int32) (M : Mem), Rf G p l e s m args below meth c 7 4 emV (k2 y1 y2 y3 M) 2 [(0, .ref (gA G 5)), (1, .int y1), (2, .int y2), (3, .int y3)] [] M) (y1 : Int32) (y2 : Int32) (y3 : Int32) (M : Mem) : Rf G p l e s m args below meth c 7 4 emV (f_X1_passStep_40 k2 y1 y2 y3 M) 40 [(0, .ref (gA G 5)), (1, .int y1), (2, .int y2), (3, .int y3)] [] M := by
  unfold f_X1_passStep_40
  refine r_iinc (ls' := fun q9 => [(3, .int q9), (0, .ref (gA G 5)), (1, .int y1), (2, .int y2)]) (k := 3) (v := y3 + (1 : Int32)) F dX1_passStep_40 rfl rfl (by decide) (fun _ => rfl) (fun x40 => ?_)
  refine r_goto (tgt := 2) F dX1_passStep_43 (by decide) ?_
  refine r_sub [1, 2, 3, 0] rfl ?_
  exact H2 y1 y2 x40 M

def f_X1_passStep_37 (k2 : Int32 → Int32 → Int32 → Mem → Option (Unit × Mem)) (y1 : Int32) (y2 : Int32) (y3 : Int32) (z1 : Int32) (z2 : Int32) (z3 : Int32) (M : Mem) : Option (Unit × Mem) := bn (f_X1_meetPin z1 z2 z3 M) fun _ M37 => f_X1_passStep_40 k2 y1 y2 y3 M37

set_option maxRecDepth 100000 in
set_option maxHeartbeats 4000000 in
theorem l_X1_passStep_37 {G : GM} {p : Program} {l : Launch} {e : Env} {s : State} {m : MethodId} {args : Array Value} {below : List Frame} {meth : Method} {c : Code} (F : Fx G p l s m args meth c cX1_passStep RX1 4 none) (k2 : Int32 → Int32 → Int32 → Mem → Option (Unit × Mem)) (H2 : ∀ (y1 : Int32) (y2 : Int32) (y3 : Int32) (M : Mem), Rf G p l e s m args below meth c 7 4 emV (k2 y1 y2 y3 M) 2 [(0, .ref (gA G 5)), (1, .int y1), (2, .int y2), (3, .int y3)] [] M) (y1 : Int32) (y2 : Int32) (y3 : Int32) (z1 : Int32) (z2 : Int32) (z3 : Int32) (M : Mem) : Rf G p l e s m args below meth c 7 4 emV (f_X1_passStep_37 k2 y1 y2 y3 z1 z2 z3 M) 37 [(0, .ref (gA G 5)), (1, .int y1), (2, .int y2), (3, .int y3)] [.int z3, .int z2, .int z1, .ref (gA G 5)] M := by
  unfold f_X1_passStep_37
  refine r_cV (val := vU) (As := [.int z1, .int z2, .int z3]) (rest := []) (fun _ => []) F (c_X1_meetPin F.st F.gg z1 z2 z3 M) (fun _ _ => rfl) dX1_passStep_37 ml_X1_46 yv_X1_meetPin (rfl : kd 5 = 3) (by decide) rfl rfl (by decide) rfl (Nat.le_of_ble_eq_true rfl) (fun _ => rfl) (fun _ M37 => ?_)
  refine r_sub [0, 1, 2, 3] rfl ?_
  exact l_X1_passStep_40 F k2 H2 y1 y2 y3 M37

def f_X1_passStep_2 : Nat → Int32 → Int32 → Int32 → Mem → Option (Unit × Mem)
  | 0, _, _, _, _ => none
  | n + 1, y1, y2, y3, M => if (12 : Int32) ≤ y3 then (some ((), M)) else (chk (inb y1 24) <| if ((M.1 6 y1.toNatClampNeg) &&& ((1 : Int32) <<< (y3 &&& 31))) = 0 then (f_X1_passStep_40 (f_X1_passStep_2  n) y1 y2 y3 M) else (if (y2 &&& ((1 : Int32) <<< (y3 &&& 31))) = 0 then (f_X1_passStep_37 (f_X1_passStep_2  n) y1 y2 y3 y1 y3 (0 : Int32) M) else (f_X1_passStep_37 (f_X1_passStep_2  n) y1 y2 y3 y1 y3 (1 : Int32) M)))

set_option maxRecDepth 100000 in
set_option maxHeartbeats 4000000 in
theorem l_X1_passStep_2 {G : GM} {p : Program} {l : Launch} {e : Env} {s : State} {m : MethodId} {args : Array Value} {below : List Frame} {meth : Method} {c : Code} (F : Fx G p l s m args meth c cX1_passStep RX1 4 none) : ∀ (n : Nat) (y1 : Int32) (y2 : Int32) (y3 : Int32) (M : Mem), Rf G p l e s m args below meth c 7 4 emV (f_X1_passStep_2  n y1 y2 y3 M) 2 [(0, .ref (gA G 5)), (1, .int y1), (2, .int y2), (3, .int y3)] [] M := by
  intro n
  induction n with
  | zero => intros; exact r_none
  | succ n ih =>
    intro y1 y2 y3 M
    rw [f_X1_passStep_2]
    refine r_iload_n F 3 dX1_passStep_2 rfl rfl ?_
    refine r_bipush F dX1_passStep_3 (v := 12) (by decide) ?_
    refine r_icmp_ge (tgt := 46) F dX1_passStep_5 (by decide) (fun c1 => ?_) (fun c1 => ?_)
    · exact r_vret F rfl dX1_passStep_46 rfl
    · refine r_aload_n F 0 dX1_passStep_8 rfl rfl ?_
      refine gf_X1_9 F dX1_passStep_9 (rfl : kd 5 = 3) ?_
      refine r_iload_n F 1 dX1_passStep_12 rfl rfl ?_
      refine r_chk (fun h2 => ?_)
      refine r_iald F dX1_passStep_13 (rfl : kd 6 = 8) (rfl : al 6 = 24) h2 ?_
      refine r_iconst F dX1_passStep_14 (v := 1) (by decide) ?_
      refine r_iload_n F 3 dX1_passStep_15 rfl rfl ?_
      refine r_ishl F dX1_passStep_16 ?_
      refine r_iand F dX1_passStep_17 ?_
      refine r_if_eq (tgt := 40) F dX1_passStep_18 (by decide) (fun c3 => ?_) (fun c3 => ?_)
      · refine r_sub [0, 1, 2, 3] rfl ?_
        exact l_X1_passStep_40 F (f_X1_passStep_2  n) (fun q0 q1 q2 M9 => ih q0 q1 q2 M9) y1 y2 y3 M
      · refine r_aload_n F 0 dX1_passStep_21 rfl rfl ?_
        refine r_iload_n F 1 dX1_passStep_22 rfl rfl ?_
        refine r_iload_n F 3 dX1_passStep_23 rfl rfl ?_
        refine r_iload_n F 2 dX1_passStep_24 rfl rfl ?_
        refine r_iconst F dX1_passStep_25 (v := 1) (by decide) ?_
        refine r_iload_n F 3 dX1_passStep_26 rfl rfl ?_
        refine r_ishl F dX1_passStep_27 ?_
        refine r_iand F dX1_passStep_28 ?_
        refine r_if_eq (tgt := 36) F dX1_passStep_29 (by decide) (fun c4 => ?_) (fun c4 => ?_)
        · refine r_iconst F dX1_passStep_36 (v := 0) (by decide) ?_
          refine r_sub [0, 1, 2, 3] rfl ?_
          exact l_X1_passStep_37 F (f_X1_passStep_2  n) (fun q0 q1 q2 M9 => ih q0 q1 q2 M9) y1 y2 y3 y1 y3 (0 : Int32) M
        · refine r_iconst F dX1_passStep_32 (v := 1) (by decide) ?_
          refine r_goto (tgt := 37) F dX1_passStep_33 (by decide) ?_
          refine r_sub [0, 1, 2, 3] rfl ?_
          exact l_X1_passStep_37 F (f_X1_passStep_2  n) (fun q0 q1 q2 M9 => ih q0 q1 q2 M9) y1 y2 y3 y1 y3 (1 : Int32) M

def f_X1_passStep (a1 : Int32) (a2 : Int32) (M : Mem) : Option (Unit × Mem) := f_X1_passStep_2  FU a1 a2 (0 : Int32) M

set_option maxRecDepth 100000 in
set_option maxHeartbeats 4000000 in
theorem b_X1_passStep {G : GM} {p : Program} {l : Launch} {e : Env} {s : State} {m : MethodId} {args : Array Value} {below : List Frame} {meth : Method} {c : Code} (F : Fx G p l s m args meth c cX1_passStep RX1 4 none) (a1 : Int32) (a2 : Int32) (M : Mem) : Rf G p l e s m args below meth c 7 4 emV (f_X1_passStep a1 a2 M) 0 [(0, .ref (gA G 5)), (1, .int a1), (2, .int a2)] [] M := by
  unfold f_X1_passStep
  refine r_iconst F dX1_passStep_0 (v := 0) (by decide) ?_
  refine r_istore_n (ls' := [(3, .int (0 : Int32)), (0, .ref (gA G 5)), (1, .int a1), (2, .int a2)]) F dX1_passStep_1 rfl (by decide) rfl ?_
  refine r_sub [1, 2, 3, 0] rfl ?_
  exact l_X1_passStep_2 F   FU a1 a2 (0 : Int32) M

set_option maxRecDepth 100000 in
set_option maxHeartbeats 4000000 in
theorem c_X1_passStep {l : Launch} {G : GM} (hl : l.stackTraces = false) (hG : GG G) (a1 : Int32) (a2 : Int32) (M : Mem) : ∀ r, f_X1_passStep a1 a2 M = some r → Ctr l G yX1_passStep (.code yX1_passStep cX1_passStep 4 none :: wsA) 7 [.ref (gA G 5), .int a1, .int a2] M (emV r) :=
  ctr_of (by decide) hl hG (Nat.le_of_ble_eq_true rfl) (fun p e s m args below meth c F => b_X1_passStep F a1 a2 M)

-- ===== X1_goThrough DrumTowns$Playing.goThrough([I)V =====
theorem yv_X1_goThrough : yV yX1_goThrough cX1_goThrough 3 none 1 := ⟨im_X1_goThrough, sl_X1_goThrough, ini_X1, cd_X1_goThrough, ⟨by decide, by decide, by decide +kernel⟩, by decide⟩

def f_X1_goThrough_29 (k6 : Nat → Int32 → Mem → Option (Unit × Mem)) (y1 : Nat) (y2 : Int32) (M : Mem) : Option (Unit × Mem) := bnd (y2 + (1 : Int32)) fun x29 => k6 y1 x29 M

set_option maxRecDepth 100000 in
set_option maxHeartbeats 4000000 in
theorem l_X1_goThrough_29 {G : GM} {p : Program} {l : Launch} {e : Env} {s : State} {m : MethodId} {args : Array Value} {below : List Frame} {meth : Method} {c : Code} (F : Fx G p l s m args meth c cX1_goThrough RX1 3 none) (k6 : Nat → Int32 → Mem → Option (Unit × Mem)) (H6 : ∀ (y1 : Nat) (y2 : Int32) (M : Mem), Rf G p l e s m args below meth c 8 3 emV (k6 y1 y2 M) 6 [(0, .ref (gA G 5)), (1, .ref (gA G y1)), (2, .int y2)] [] M) (y1 : Nat) (y2 : Int32) (M : Mem) : Rf G p l e s m args below meth c 8 3 emV (f_X1_goThrough_29 k6 y1 y2 M) 29 [(0, .ref (gA G 5)), (1, .ref (gA G y1)), (2, .int y2)] [] M := by
  unfold f_X1_goThrough_29
  refine r_iinc (ls' := fun q9 => [(2, .int q9), (0, .ref (gA G 5)), (1, .ref (gA G y1))]) (k := 2) (v := y2 + (1 : Int32)) F dX1_goThrough_29 rfl rfl (by decide) (fun _ => rfl) (fun x29 => ?_)
  refine r_goto (tgt := 6) F dX1_goThrough_32 (by decide) ?_
  refine r_sub [1, 2, 0] rfl ?_
  exact H6 y1 x29 M

def f_X1_goThrough_6 : Nat → Nat → Int32 → Mem → Option (Unit × Mem)
  | 0, _, _, _ => none
  | n + 1, y1, y2, M => if (24 : Int32) ≤ y2 then (some ((), M)) else (chk (inb y2 24) <| if (M.1 6 y2.toNatClampNeg) = 0 then (f_X1_goThrough_29 (f_X1_goThrough_6  n) y1 y2 M) else (chk (kb y1 8) <| chk (inb y2 (al y1)) <| bn (f_X1_passStep y2 (M.1 y1 y2.toNatClampNeg) M) fun _ M26 => f_X1_goThrough_29 (f_X1_goThrough_6  n) y1 y2 M26))

set_option maxRecDepth 100000 in
set_option maxHeartbeats 4000000 in
theorem l_X1_goThrough_6 {G : GM} {p : Program} {l : Launch} {e : Env} {s : State} {m : MethodId} {args : Array Value} {below : List Frame} {meth : Method} {c : Code} (F : Fx G p l s m args meth c cX1_goThrough RX1 3 none) : ∀ (n : Nat) (y1 : Nat) (y2 : Int32) (M : Mem), Rf G p l e s m args below meth c 8 3 emV (f_X1_goThrough_6  n y1 y2 M) 6 [(0, .ref (gA G 5)), (1, .ref (gA G y1)), (2, .int y2)] [] M := by
  intro n
  induction n with
  | zero => intros; exact r_none
  | succ n ih =>
    intro y1 y2 M
    rw [f_X1_goThrough_6]
    refine r_iload_n F 2 dX1_goThrough_6 rfl rfl ?_
    refine r_bipush F dX1_goThrough_7 (v := 24) (by decide) ?_
    refine r_icmp_ge (tgt := 35) F dX1_goThrough_9 (by decide) (fun c1 => ?_) (fun c1 => ?_)
    · exact r_vret F rfl dX1_goThrough_35 rfl
    · refine r_aload_n F 0 dX1_goThrough_12 rfl rfl ?_
      refine gf_X1_9 F dX1_goThrough_13 (rfl : kd 5 = 3) ?_
      refine r_iload_n F 2 dX1_goThrough_16 rfl rfl ?_
      refine r_chk (fun h2 => ?_)
      refine r_iald F dX1_goThrough_17 (rfl : kd 6 = 8) (rfl : al 6 = 24) h2 ?_
      refine r_if_eq (tgt := 29) F dX1_goThrough_18 (by decide) (fun c3 => ?_) (fun c3 => ?_)
      · refine r_sub [0, 1, 2] rfl ?_
        exact l_X1_goThrough_29 F (f_X1_goThrough_6  n) (fun q0 q1 M9 => ih q0 q1 M9) y1 y2 M
      · refine r_aload_n F 0 dX1_goThrough_21 rfl rfl ?_
        refine r_iload_n F 2 dX1_goThrough_22 rfl rfl ?_
        refine r_aload_n F 1 dX1_goThrough_23 rfl rfl ?_
        refine r_iload_n F 2 dX1_goThrough_24 rfl rfl ?_
        refine r_chk (fun h4 => ?_)
        refine r_chk (fun h5 => ?_)
        refine r_iald F dX1_goThrough_25 (kb_k h4) rfl h5 ?_
        refine r_cV (val := vU) (As := [.int y2, .int (M.1 y1 y2.toNatClampNeg)]) (rest := []) (fun _ => []) F (c_X1_passStep F.st F.gg y2 (M.1 y1 y2.toNatClampNeg) M) (fun _ _ => rfl) dX1_goThrough_26 ml_X1_42 yv_X1_passStep (rfl : kd 5 = 3) (by decide) rfl rfl (by decide) rfl (Nat.le_of_ble_eq_true rfl) (fun _ => rfl) (fun _ M26 => ?_)
        refine r_sub [0, 1, 2] rfl ?_
        exact l_X1_goThrough_29 F (f_X1_goThrough_6  n) (fun q0 q1 M9 => ih q0 q1 M9) y1 y2 M26

def f_X1_goThrough (a1 : Nat) (M : Mem) : Option (Unit × Mem) := bn (f_X1_forgetSounds M) fun _ M1 => f_X1_goThrough_6  FU a1 (0 : Int32) M1

set_option maxRecDepth 100000 in
set_option maxHeartbeats 4000000 in
theorem b_X1_goThrough {G : GM} {p : Program} {l : Launch} {e : Env} {s : State} {m : MethodId} {args : Array Value} {below : List Frame} {meth : Method} {c : Code} (F : Fx G p l s m args meth c cX1_goThrough RX1 3 none) (a1 : Nat) (M : Mem) : Rf G p l e s m args below meth c 8 3 emV (f_X1_goThrough a1 M) 0 [(0, .ref (gA G 5)), (1, .ref (gA G a1))] [] M := by
  unfold f_X1_goThrough
  refine r_aload_n F 0 dX1_goThrough_0 rfl rfl ?_
  refine r_cV (val := vU) (As := []) (rest := []) (fun _ => []) F (c_X1_forgetSounds F.st F.gg  M) (fun _ _ => rfl) dX1_goThrough_1 ml_X1_39 yv_X1_forgetSounds (rfl : kd 5 = 3) (by decide) rfl rfl (by decide) rfl (Nat.le_of_ble_eq_true rfl) (fun _ => rfl) (fun _ M1 => ?_)
  refine r_iconst F dX1_goThrough_4 (v := 0) (by decide) ?_
  refine r_istore_n (ls' := [(2, .int (0 : Int32)), (0, .ref (gA G 5)), (1, .ref (gA G a1))]) F dX1_goThrough_5 rfl (by decide) rfl ?_
  refine r_sub [1, 2, 0] rfl ?_
  exact l_X1_goThrough_6 F   FU a1 (0 : Int32) M1

set_option maxRecDepth 100000 in
set_option maxHeartbeats 4000000 in
theorem c_X1_goThrough {l : Launch} {G : GM} (hl : l.stackTraces = false) (hG : GG G) (a1 : Nat) (M : Mem) : ∀ r, f_X1_goThrough a1 M = some r → Ctr l G yX1_goThrough (.code yX1_goThrough cX1_goThrough 3 none :: wsA) 8 [.ref (gA G 5), .ref (gA G a1)] M (emV r) :=
  ctr_of (by decide) hl hG (Nat.le_of_ble_eq_true rfl) (fun p e s m args below meth c F => b_X1_goThrough F a1 M)

-- ===== X6_dullTeeth DrumTowns.dullTeeth([II)I =====
theorem ys_X6_dullTeeth : yS yX6_dullTeeth cX6_dullTeeth 7 (some .int) 2 := ⟨sc_X6_dullTeeth, ini_X6, cd_X6_dullTeeth, ⟨by decide, by decide, by decide +kernel⟩, by decide⟩

def f_X6_dullTeeth_33 (k11 : Int32 → Int32 → Nat → Int32 → Int32 → Mem → Option (Int32 × Mem)) (y1 : Int32) (y2 : Int32) (y3 : Nat) (y4 : Int32) (y5 : Int32) (M : Mem) : Option (Int32 × Mem) := bnd (y5 + (1 : Int32)) fun x33 => k11 y1 y2 y3 y4 x33 M

set_option maxRecDepth 100000 in
set_option maxHeartbeats 4000000 in
theorem l_X6_dullTeeth_33 {G : GM} {p : Program} {l : Launch} {e : Env} {s : State} {m : MethodId} {args : Array Value} {below : List Frame} {meth : Method} {c : Code} (F : Fx G p l s m args meth c cX6_dullTeeth RX6 7 (some .int)) (k11 : Int32 → Int32 → Nat → Int32 → Int32 → Mem → Option (Int32 × Mem)) (H11 : ∀ (y1 : Int32) (y2 : Int32) (y3 : Nat) (y4 : Int32) (y5 : Int32) (M : Mem), Rf G p l e s m args below meth c 6 7 emI (k11 y1 y2 y3 y4 y5 M) 11 [(1, .int y1), (2, .int y2), (3, .ref (gA G y3)), (4, .int y4), (5, .int y5)] [] M) (y1 : Int32) (y2 : Int32) (y3 : Nat) (y4 : Int32) (y5 : Int32) (M : Mem) : Rf G p l e s m args below meth c 6 7 emI (f_X6_dullTeeth_33 k11 y1 y2 y3 y4 y5 M) 33 [(1, .int y1), (2, .int y2), (3, .ref (gA G y3)), (4, .int y4), (5, .int y5)] [] M := by
  unfold f_X6_dullTeeth_33
  refine r_iinc (ls' := fun q9 => [(5, .int q9), (1, .int y1), (2, .int y2), (3, .ref (gA G y3)), (4, .int y4)]) (k := 4) (v := y5 + (1 : Int32)) F dX6_dullTeeth_33 rfl rfl (by decide) (fun _ => rfl) (fun x33 => ?_)
  refine r_goto (tgt := 11) F dX6_dullTeeth_36 (by decide) ?_
  refine r_sub [1, 2, 3, 4, 0] rfl ?_
  exact H11 y1 y2 y3 y4 x33 M

def f_X6_dullTeeth_11 : Nat → Int32 → Int32 → Nat → Int32 → Int32 → Mem → Option (Int32 × Mem)
  | 0, _, _, _, _, _, _ => none
  | n + 1, y1, y2, y3, y4, y5, M => if y4 ≤ y5 then (some (y2, M)) else (chk (kb y3 8) <| chk (inb y5 (al y3)) <| bnd (M.1 y3 y5.toNatClampNeg) fun x22 => if x22 < y1 then (f_X6_dullTeeth_33 (f_X6_dullTeeth_11  n) y1 y2 y3 y4 y5 M) else (bnd (y2 + (1 : Int32)) fun x30 => f_X6_dullTeeth_33 (f_X6_dullTeeth_11  n) y1 x30 y3 y4 y5 M))

set_option maxRecDepth 100000 in
set_option maxHeartbeats 4000000 in
theorem l_X6_dullTeeth_11 {G : GM} {p : Program} {l : Launch} {e : Env} {s : State} {m : MethodId} {args : Array Value} {below : List Frame} {meth : Method} {c : Code} (F : Fx G p l s m args meth c cX6_dullTeeth RX6 7 (some .int)) : ∀ (n : Nat) (y1 : Int32) (y2 : Int32) (y3 : Nat) (y4 : Int32) (y5 : Int32) (M : Mem), Rf G p l e s m args below meth c 6 7 emI (f_X6_dullTeeth_11  n y1 y2 y3 y4 y5 M) 11 [(1, .int y1), (2, .int y2), (3, .ref (gA G y3)), (4, .int y4), (5, .int y5)] [] M := by
  intro n
  induction n with
  | zero => intros; exact r_none
  | succ n ih =>
    intro y1 y2 y3 y4 y5 M
    rw [f_X6_dullTeeth_11]
    refine r_iload F 4 dX6_dullTeeth_11 rfl ?_
    refine r_iload F 3 dX6_dullTeeth_13 rfl ?_
    refine r_icmp_ge (tgt := 39) F dX6_dullTeeth_15 (by decide) (fun c1 => ?_) (fun c1 => ?_)
    · refine r_iload_n F 1 dX6_dullTeeth_39 rfl rfl ?_
      exact r_iret F rfl dX6_dullTeeth_40 rfl
    · refine r_aload_n F 2 dX6_dullTeeth_18 rfl rfl ?_
      refine r_iload F 4 dX6_dullTeeth_19 rfl ?_
      refine r_chk (fun h2 => ?_)
      refine r_chk (fun h3 => ?_)
      refine r_iald F dX6_dullTeeth_21 (kb_k h2) rfl h3 ?_
      refine r_bi (fun x22 => ?_)
      refine r_istore (ls' := [(6, .int x22), (1, .int y1), (2, .int y2), (3, .ref (gA G y3)), (4, .int y4), (5, .int y5)]) F dX6_dullTeeth_22 (by decide) rfl ?_
      refine r_iload F 0 dX6_dullTeeth_24 rfl ?_
      refine r_iload_n F 1 dX6_dullTeeth_26 rfl rfl ?_
      refine r_icmp_lt (tgt := 33) F dX6_dullTeeth_27 (by decide) (fun c4 => ?_) (fun c4 => ?_)
      · refine r_sub [1, 2, 3, 4, 5] rfl ?_
        exact l_X6_dullTeeth_33 F (f_X6_dullTeeth_11  n) (fun q0 q1 q2 q3 q4 M9 => ih q0 q1 q2 q3 q4 M9) y1 y2 y3 y4 y5 M
      · refine r_iinc (ls' := fun q9 => [(2, .int q9), (6, .int x22), (1, .int y1), (3, .ref (gA G y3)), (4, .int y4), (5, .int y5)]) (k := 2) (v := y2 + (1 : Int32)) F dX6_dullTeeth_30 rfl rfl (by decide) (fun _ => rfl) (fun x30 => ?_)
        refine r_sub [2, 0, 3, 4, 5] rfl ?_
        exact l_X6_dullTeeth_33 F (f_X6_dullTeeth_11  n) (fun q0 q1 q2 q3 q4 M9 => ih q0 q1 q2 q3 q4 M9) y1 x30 y3 y4 y5 M

def f_X6_dullTeeth (a0 : Nat) (a1 : Int32) (M : Mem) : Option (Int32 × Mem) := chk (kb a0 8) <| bnd (Int32.ofNat (al a0)) fun x6 => f_X6_dullTeeth_11  FU a1 (0 : Int32) a0 x6 (0 : Int32) M

set_option maxRecDepth 100000 in
set_option maxHeartbeats 4000000 in
theorem b_X6_dullTeeth {G : GM} {p : Program} {l : Launch} {e : Env} {s : State} {m : MethodId} {args : Array Value} {below : List Frame} {meth : Method} {c : Code} (F : Fx G p l s m args meth c cX6_dullTeeth RX6 7 (some .int)) (a0 : Nat) (a1 : Int32) (M : Mem) : Rf G p l e s m args below meth c 6 7 emI (f_X6_dullTeeth a0 a1 M) 0 [(0, .ref (gA G a0)), (1, .int a1)] [] M := by
  unfold f_X6_dullTeeth
  refine r_iconst F dX6_dullTeeth_0 (v := 0) (by decide) ?_
  refine r_istore_n (ls' := [(2, .int (0 : Int32)), (0, .ref (gA G a0)), (1, .int a1)]) F dX6_dullTeeth_1 rfl (by decide) rfl ?_
  refine r_aload_n F 1 dX6_dullTeeth_2 rfl rfl ?_
  refine r_astore_n (ls' := [(3, .ref (gA G a0)), (2, .int (0 : Int32)), (0, .ref (gA G a0)), (1, .int a1)]) F dX6_dullTeeth_3 rfl (by decide) rfl ?_
  refine r_aload_n F 0 dX6_dullTeeth_4 rfl rfl ?_
  refine r_chk (fun h1 => ?_)
  refine r_alen F dX6_dullTeeth_5 (kb_k h1) rfl rfl ?_
  refine r_bi (fun x6 => ?_)
  refine r_istore (ls' := [(4, .int x6), (3, .ref (gA G a0)), (2, .int (0 : Int32)), (0, .ref (gA G a0)), (1, .int a1)]) F dX6_dullTeeth_6 (by decide) rfl ?_
  refine r_iconst F dX6_dullTeeth_8 (v := 0) (by decide) ?_
  refine r_istore (ls' := [(5, .int (0 : Int32)), (4, .int x6), (3, .ref (gA G a0)), (2, .int (0 : Int32)), (0, .ref (gA G a0)), (1, .int a1)]) F dX6_dullTeeth_9 (by decide) rfl ?_
  refine r_sub [5, 3, 2, 1, 0] rfl ?_
  exact l_X6_dullTeeth_11 F   FU a1 (0 : Int32) a0 x6 (0 : Int32) M

set_option maxRecDepth 100000 in
set_option maxHeartbeats 4000000 in
theorem c_X6_dullTeeth {l : Launch} {G : GM} (hl : l.stackTraces = false) (hG : GG G) (a0 : Nat) (a1 : Int32) (M : Mem) : ∀ r, f_X6_dullTeeth a0 a1 M = some r → Ctr l G yX6_dullTeeth (.code yX6_dullTeeth cX6_dullTeeth 7 (some .int) :: wsA) 6 [.ref (gA G a0), .int a1] M (emI r) :=
  ctr_of (by decide) hl hG (Nat.le_of_ble_eq_true rfl) (fun p e s m args below meth c F => b_X6_dullTeeth F a0 a1 M)

