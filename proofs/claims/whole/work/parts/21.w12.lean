-- ===== X7_debt DrumTownsModel.debt(II)I =====
theorem yv_X7_debt : yV yX7_debt cX7_debt 3 (some .int) 2 := ⟨im_X7_debt, sl_X7_debt, ini_X7, cd_X7_debt, ⟨by decide, by decide, by decide +kernel⟩, by decide⟩

def f_X7_debt_46 (z0 : Int32) (M : Mem) : Option (Int32 × Mem) := some (z0, M)

set_option maxRecDepth 100000 in
set_option maxHeartbeats 4000000 in
theorem l_X7_debt_46 {G : GM} {p : Program} {l : Launch} {e : Env} {s : State} {m : MethodId} {args : Array Value} {below : List Frame} {meth : Method} {c : Code} (F : Fx G p l s m args meth c cX7_debt RX7 3 (some .int)) (z0 : Int32) (M : Mem) : Rf G p l e s m args below meth c 8 3 emI (f_X7_debt_46  z0 M) 46 [] [.int z0] M := by
  unfold f_X7_debt_46
  exact r_iret F rfl dX7_debt_46 rfl

def f_X7_debt_22 (y1 : Int32) (y2 : Int32) (z1 : Int32) (M : Mem) : Option (Int32 × Mem) := bnd (mw M 24 2 z1) fun M22 => if (M22.1 24 2) = 0 then (bn (f_X7_owes y1 y2 M22) fun r38 M38 => chk (inb r38 3424) <| f_X7_debt_46  (M38.1 25 r38.toNatClampNeg) M38) else (f_X7_debt_46  (0 : Int32) M22)

set_option maxRecDepth 100000 in
set_option maxHeartbeats 4000000 in
theorem l_X7_debt_22 {G : GM} {p : Program} {l : Launch} {e : Env} {s : State} {m : MethodId} {args : Array Value} {below : List Frame} {meth : Method} {c : Code} (F : Fx G p l s m args meth c cX7_debt RX7 3 (some .int)) (y1 : Int32) (y2 : Int32) (z1 : Int32) (M : Mem) : Rf G p l e s m args below meth c 8 3 emI (f_X7_debt_22  y1 y2 z1 M) 22 [(0, .ref (gA G 24)), (1, .int y1), (2, .int y2)] [.int z1, .ref (gA G 24)] M := by
  unfold f_X7_debt_22
  refine pf_X7_37 F dX7_debt_22 (rfl : kd 24 = 7) (fun M22 => ?_)
  refine r_aload_n F 0 dX7_debt_25 rfl rfl ?_
  refine gf_X7_37 F dX7_debt_26 (rfl : kd 24 = 7) ?_
  refine r_if_ne (tgt := 45) F dX7_debt_29 (by decide) (fun c1 => ?_) (fun c1 => ?_)
  · refine r_aload_n F 0 dX7_debt_32 rfl rfl ?_
    refine gf_X7_7 F dX7_debt_33 (rfl : kd 24 = 7) ?_
    refine r_iload_n F 1 dX7_debt_36 rfl rfl ?_
    refine r_iload_n F 2 dX7_debt_37 rfl rfl ?_
    refine r_cS (val := vI) (As := [.int y1, .int y2]) (rest := [.ref (gA G 25)]) (fun q9 => .int q9 :: [.ref (gA G 25)]) F (c_X7_owes F.st F.gg y1 y2 M22) (fun _ _ => rfl) dX7_debt_38 ml_X7_123 ys_X7_owes rfl (by decide) rfl (Nat.le_of_ble_eq_true rfl) (fun _ => rfl) (fun r38 M38 => ?_)
    refine r_chk (fun h2 => ?_)
    refine r_iald F dX7_debt_41 (rfl : kd 25 = 8) (rfl : al 25 = 3424) h2 ?_
    refine r_goto (tgt := 46) F dX7_debt_42 (by decide) ?_
    refine r_sub [] rfl ?_
    exact l_X7_debt_46 F   (M38.1 25 r38.toNatClampNeg) M38
  · refine r_iconst F dX7_debt_45 (v := 0) (by decide) ?_
    refine r_sub [] rfl ?_
    exact l_X7_debt_46 F   (0 : Int32) M22

def f_X7_debt_21 (y1 : Int32) (y2 : Int32) (M : Mem) : Option (Int32 × Mem) := f_X7_debt_22  y1 y2 (1 : Int32) M

set_option maxRecDepth 100000 in
set_option maxHeartbeats 4000000 in
theorem l_X7_debt_21 {G : GM} {p : Program} {l : Launch} {e : Env} {s : State} {m : MethodId} {args : Array Value} {below : List Frame} {meth : Method} {c : Code} (F : Fx G p l s m args meth c cX7_debt RX7 3 (some .int)) (y1 : Int32) (y2 : Int32) (M : Mem) : Rf G p l e s m args below meth c 8 3 emI (f_X7_debt_21  y1 y2 M) 21 [(0, .ref (gA G 24)), (1, .int y1), (2, .int y2)] [.ref (gA G 24)] M := by
  unfold f_X7_debt_21
  refine r_iconst F dX7_debt_21 (v := 1) (by decide) ?_
  refine r_sub [0, 1, 2] rfl ?_
  exact l_X7_debt_22 F   y1 y2 (1 : Int32) M

def f_X7_debt (a1 : Int32) (a2 : Int32) (M : Mem) : Option (Int32 × Mem) := bn (f_X7_isTown a1 M) fun r3 M3 => if r3 = 0 then (f_X7_debt_21  a1 a2 M3) else (bn (f_X7_isTown a2 M3) fun r11 M11 => if r11 = 0 then (f_X7_debt_21  a1 a2 M11) else (f_X7_debt_22  a1 a2 (0 : Int32) M11))

set_option maxRecDepth 100000 in
set_option maxHeartbeats 4000000 in
theorem b_X7_debt {G : GM} {p : Program} {l : Launch} {e : Env} {s : State} {m : MethodId} {args : Array Value} {below : List Frame} {meth : Method} {c : Code} (F : Fx G p l s m args meth c cX7_debt RX7 3 (some .int)) (a1 : Int32) (a2 : Int32) (M : Mem) : Rf G p l e s m args below meth c 8 3 emI (f_X7_debt a1 a2 M) 0 [(0, .ref (gA G 24)), (1, .int a1), (2, .int a2)] [] M := by
  unfold f_X7_debt
  refine r_aload_n F 0 dX7_debt_0 rfl rfl ?_
  refine r_aload_n F 0 dX7_debt_1 rfl rfl ?_
  refine r_iload_n F 1 dX7_debt_2 rfl rfl ?_
  refine r_cV (val := vI) (As := [.int a1]) (rest := [.ref (gA G 24)]) (fun q9 => .int q9 :: [.ref (gA G 24)]) F (c_X7_isTown F.st F.gg a1 M) (fun _ _ => rfl) dX7_debt_3 ml_X7_45 yv_X7_isTown (rfl : kd 24 = 7) (by decide) rfl rfl (by decide) rfl (Nat.le_of_ble_eq_true rfl) (fun _ => rfl) (fun r3 M3 => ?_)
  refine r_if_eq (tgt := 21) F dX7_debt_6 (by decide) (fun c1 => ?_) (fun c1 => ?_)
  · refine r_sub [0, 1, 2] rfl ?_
    exact l_X7_debt_21 F   a1 a2 M3
  · refine r_aload_n F 0 dX7_debt_9 rfl rfl ?_
    refine r_iload_n F 2 dX7_debt_10 rfl rfl ?_
    refine r_cV (val := vI) (As := [.int a2]) (rest := [.ref (gA G 24)]) (fun q9 => .int q9 :: [.ref (gA G 24)]) F (c_X7_isTown F.st F.gg a2 M3) (fun _ _ => rfl) dX7_debt_11 ml_X7_45 yv_X7_isTown (rfl : kd 24 = 7) (by decide) rfl rfl (by decide) rfl (Nat.le_of_ble_eq_true rfl) (fun _ => rfl) (fun r11 M11 => ?_)
    refine r_if_eq (tgt := 21) F dX7_debt_14 (by decide) (fun c2 => ?_) (fun c2 => ?_)
    · refine r_sub [0, 1, 2] rfl ?_
      exact l_X7_debt_21 F   a1 a2 M11
    · refine r_iconst F dX7_debt_17 (v := 0) (by decide) ?_
      refine r_goto (tgt := 22) F dX7_debt_18 (by decide) ?_
      refine r_sub [0, 1, 2] rfl ?_
      exact l_X7_debt_22 F   a1 a2 (0 : Int32) M11

set_option maxRecDepth 100000 in
set_option maxHeartbeats 4000000 in
theorem c_X7_debt {l : Launch} {G : GM} (hl : l.stackTraces = false) (hG : GG G) (a1 : Int32) (a2 : Int32) (M : Mem) : ∀ r, f_X7_debt a1 a2 M = some r → Ctr l G yX7_debt (.code yX7_debt cX7_debt 3 (some .int) :: wsA) 8 [.ref (gA G 24), .int a1, .int a2] M (emI r) :=
  ctr_of (by decide) hl hG (Nat.le_of_ble_eq_true rfl) (fun p e s m args below meth c F => b_X7_debt F a1 a2 M)

-- ===== X7_findsRing DrumTownsModel.findsRing()Z =====
theorem yv_X7_findsRing : yV yX7_findsRing cX7_findsRing 3 (some .boolean) 0 := ⟨im_X7_findsRing, sl_X7_findsRing, ini_X7, cd_X7_findsRing, ⟨by decide, by decide, by decide +kernel⟩, by decide⟩

def f_X7_findsRing_16 (k2 : Int32 → Mem → Option (Int32 × Mem)) : Nat → Int32 → Int32 → Mem → Option (Int32 × Mem)
  | 0, _, _, _ => none
  | n + 1, y1, y2, M => chk (inb (423 : Int32) 3424) <| if (M.1 25 (423 : Int32).toNatClampNeg) ≤ y2 then (bnd (y1 + (1 : Int32)) fun x56 => k2 x56 M) else (chk (inb (0 : Int32) 7) <| bnd (mw M 29 (0 : Int32).toNatClampNeg y2) fun M34 => bn (f_X7_closes y1 M34) fun r37 M37 => if r37 = 0 then (bnd (y2 + (1 : Int32)) fun x50 => f_X7_findsRing_16 k2 n y1 x50 M37) else (bnd (mw M37 24 13 y1) fun M45 => some ((1 : Int32), M45)))

set_option maxRecDepth 100000 in
set_option maxHeartbeats 4000000 in
theorem l_X7_findsRing_16 {G : GM} {p : Program} {l : Launch} {e : Env} {s : State} {m : MethodId} {args : Array Value} {below : List Frame} {meth : Method} {c : Code} (F : Fx G p l s m args meth c cX7_findsRing RX7 3 (some .boolean)) (k2 : Int32 → Mem → Option (Int32 × Mem)) (H2 : ∀ (y1 : Int32) (M : Mem), Rf G p l e s m args below meth c 9 3 emI (k2 y1 M) 2 [(0, .ref (gA G 24)), (1, .int y1)] [] M) : ∀ (n : Nat) (y1 : Int32) (y2 : Int32) (M : Mem), Rf G p l e s m args below meth c 9 3 emI (f_X7_findsRing_16 k2 n y1 y2 M) 16 [(0, .ref (gA G 24)), (1, .int y1), (2, .int y2)] [] M := by
  intro n
  induction n with
  | zero => intros; exact r_none
  | succ n ih =>
    intro y1 y2 M
    rw [f_X7_findsRing_16]
    refine r_iload_n F 2 dX7_findsRing_16 rfl rfl ?_
    refine r_aload_n F 0 dX7_findsRing_17 rfl rfl ?_
    refine gf_X7_7 F dX7_findsRing_18 (rfl : kd 24 = 7) ?_
    refine r_sipush F dX7_findsRing_21 (v := 423) (by decide) ?_
    refine r_chk (fun h1 => ?_)
    refine r_iald F dX7_findsRing_24 (rfl : kd 25 = 8) (rfl : al 25 = 3424) h1 ?_
    refine r_icmp_ge (tgt := 56) F dX7_findsRing_25 (by decide) (fun c2 => ?_) (fun c2 => ?_)
    · refine r_iinc (ls' := fun q9 => [(1, .int q9), (0, .ref (gA G 24)), (2, .int y2)]) (k := 1) (v := y1 + (1 : Int32)) F dX7_findsRing_56 rfl rfl (by decide) (fun _ => rfl) (fun x56 => ?_)
      refine r_goto (tgt := 2) F dX7_findsRing_59 (by decide) ?_
      refine r_sub [1, 0] rfl ?_
      exact H2 x56 M
    · refine r_aload_n F 0 dX7_findsRing_28 rfl rfl ?_
      refine gf_X7_22 F dX7_findsRing_29 (rfl : kd 24 = 7) ?_
      refine r_iconst F dX7_findsRing_32 (v := 0) (by decide) ?_
      refine r_iload_n F 2 dX7_findsRing_33 rfl rfl ?_
      refine r_chk (fun h3 => ?_)
      refine r_iast F dX7_findsRing_34 (rfl : kd 29 = 8) (rfl : al 29 = 7) h3 (fun M34 => ?_)
      refine r_aload_n F 0 dX7_findsRing_35 rfl rfl ?_
      refine r_iload_n F 1 dX7_findsRing_36 rfl rfl ?_
      refine r_cV (val := vI) (As := [.int y1]) (rest := []) (fun q9 => .int q9 :: []) F (c_X7_closes F.st F.gg y1 M34) (fun _ _ => rfl) dX7_findsRing_37 ml_X7_132 yv_X7_closes (rfl : kd 24 = 7) (by decide) rfl rfl (by decide) rfl (Nat.le_of_ble_eq_true rfl) (fun _ => rfl) (fun r37 M37 => ?_)
      refine r_if_eq (tgt := 50) F dX7_findsRing_40 (by decide) (fun c4 => ?_) (fun c4 => ?_)
      · refine r_iinc (ls' := fun q9 => [(2, .int q9), (0, .ref (gA G 24)), (1, .int y1)]) (k := 2) (v := y2 + (1 : Int32)) F dX7_findsRing_50 rfl rfl (by decide) (fun _ => rfl) (fun x50 => ?_)
        refine r_goto (tgt := 16) F dX7_findsRing_53 (by decide) ?_
        refine r_sub [1, 2, 0] rfl ?_
        exact ih y1 x50 M37
      · refine r_aload_n F 0 dX7_findsRing_43 rfl rfl ?_
        refine r_iload_n F 1 dX7_findsRing_44 rfl rfl ?_
        refine pf_X7_135 F dX7_findsRing_45 (rfl : kd 24 = 7) (fun M45 => ?_)
        refine r_iconst F dX7_findsRing_48 (v := 1) (by decide) ?_
        exact r_zret F rfl dX7_findsRing_49 rfl (by decide)

def f_X7_findsRing_2 : Nat → Int32 → Mem → Option (Int32 × Mem)
  | 0, _, _ => none
  | n + 1, y1, M => chk (inb (423 : Int32) 3424) <| if (M.1 25 (423 : Int32).toNatClampNeg) < y1 then (bnd (mw M 24 13 (0 : Int32)) fun M64 => some ((0 : Int32), M64)) else (f_X7_findsRing_16 (f_X7_findsRing_2  n) FU y1 (0 : Int32) M)

set_option maxRecDepth 100000 in
set_option maxHeartbeats 4000000 in
theorem l_X7_findsRing_2 {G : GM} {p : Program} {l : Launch} {e : Env} {s : State} {m : MethodId} {args : Array Value} {below : List Frame} {meth : Method} {c : Code} (F : Fx G p l s m args meth c cX7_findsRing RX7 3 (some .boolean)) : ∀ (n : Nat) (y1 : Int32) (M : Mem), Rf G p l e s m args below meth c 9 3 emI (f_X7_findsRing_2  n y1 M) 2 [(0, .ref (gA G 24)), (1, .int y1)] [] M := by
  intro n
  induction n with
  | zero => intros; exact r_none
  | succ n ih =>
    intro y1 M
    rw [f_X7_findsRing_2]
    refine r_iload_n F 1 dX7_findsRing_2 rfl rfl ?_
    refine r_aload_n F 0 dX7_findsRing_3 rfl rfl ?_
    refine gf_X7_7 F dX7_findsRing_4 (rfl : kd 24 = 7) ?_
    refine r_sipush F dX7_findsRing_7 (v := 423) (by decide) ?_
    refine r_chk (fun h1 => ?_)
    refine r_iald F dX7_findsRing_10 (rfl : kd 25 = 8) (rfl : al 25 = 3424) h1 ?_
    refine r_icmp_gt (tgt := 62) F dX7_findsRing_11 (by decide) (fun c2 => ?_) (fun c2 => ?_)
    · refine r_aload_n F 0 dX7_findsRing_62 rfl rfl ?_
      refine r_iconst F dX7_findsRing_63 (v := 0) (by decide) ?_
      refine pf_X7_135 F dX7_findsRing_64 (rfl : kd 24 = 7) (fun M64 => ?_)
      refine r_iconst F dX7_findsRing_67 (v := 0) (by decide) ?_
      exact r_zret F rfl dX7_findsRing_68 rfl (by decide)
    · refine r_iconst F dX7_findsRing_14 (v := 0) (by decide) ?_
      refine r_istore_n (ls' := [(2, .int (0 : Int32)), (0, .ref (gA G 24)), (1, .int y1)]) F dX7_findsRing_15 rfl (by decide) rfl ?_
      refine r_sub [1, 2, 0] rfl ?_
      exact l_X7_findsRing_16 F (f_X7_findsRing_2  n) (fun q0 M9 => ih q0 M9) FU y1 (0 : Int32) M

def f_X7_findsRing  (M : Mem) : Option (Int32 × Mem) := f_X7_findsRing_2  FU (2 : Int32) M

set_option maxRecDepth 100000 in
set_option maxHeartbeats 4000000 in
theorem b_X7_findsRing {G : GM} {p : Program} {l : Launch} {e : Env} {s : State} {m : MethodId} {args : Array Value} {below : List Frame} {meth : Method} {c : Code} (F : Fx G p l s m args meth c cX7_findsRing RX7 3 (some .boolean))  (M : Mem) : Rf G p l e s m args below meth c 9 3 emI (f_X7_findsRing  M) 0 [(0, .ref (gA G 24))] [] M := by
  unfold f_X7_findsRing
  refine r_iconst F dX7_findsRing_0 (v := 2) (by decide) ?_
  refine r_istore_n (ls' := [(1, .int (2 : Int32)), (0, .ref (gA G 24))]) F dX7_findsRing_1 rfl (by decide) rfl ?_
  refine r_sub [1, 0] rfl ?_
  exact l_X7_findsRing_2 F   FU (2 : Int32) M

set_option maxRecDepth 100000 in
set_option maxHeartbeats 4000000 in
theorem c_X7_findsRing {l : Launch} {G : GM} (hl : l.stackTraces = false) (hG : GG G)  (M : Mem) : ∀ r, f_X7_findsRing  M = some r → Ctr l G yX7_findsRing (.code yX7_findsRing cX7_findsRing 3 (some .boolean) :: wsA) 9 [.ref (gA G 24)] M (emI r) :=
  ctr_of (by decide) hl hG (Nat.le_of_ble_eq_true rfl) (fun p e s m args below meth c F => b_X7_findsRing F  M)

-- ===== X7_leastOfRing DrumTownsModel.leastOfRing()I =====
theorem yv_X7_leastOfRing : yV yX7_leastOfRing cX7_leastOfRing 4 (some .int) 0 := ⟨im_X7_leastOfRing, sl_X7_leastOfRing, ini_X7, cd_X7_leastOfRing, ⟨by decide, by decide, by decide +kernel⟩, by decide⟩

def f_X7_leastOfRing_69 (k23 : Int32 → Int32 → Mem → Option (Int32 × Mem)) (y2 : Int32) (z0 : Int32) (M : Mem) : Option (Int32 × Mem) := bnd (y2 + (1 : Int32)) fun x70 => k23 z0 x70 M

set_option maxRecDepth 100000 in
set_option maxHeartbeats 4000000 in
theorem l_X7_leastOfRing_69 {G : GM} {p : Program} {l : Launch} {e : Env} {s : State} {m : MethodId} {args : Array Value} {below : List Frame} {meth : Method} {c : Code} (F : Fx G p l s m args meth c cX7_leastOfRing RX7 4 (some .int)) (k23 : Int32 → Int32 → Mem → Option (Int32 × Mem)) (H23 : ∀ (y1 : Int32) (y2 : Int32) (M : Mem), Rf G p l e s m args below meth c 7 4 emI (k23 y1 y2 M) 23 [(0, .ref (gA G 24)), (1, .int y1), (2, .int y2)] [] M) (y2 : Int32) (z0 : Int32) (M : Mem) : Rf G p l e s m args below meth c 7 4 emI (f_X7_leastOfRing_69 k23 y2 z0 M) 69 [(0, .ref (gA G 24)), (2, .int y2)] [.int z0] M := by
  unfold f_X7_leastOfRing_69
  refine r_istore_n (ls' := [(1, .int z0), (0, .ref (gA G 24)), (2, .int y2)]) F dX7_leastOfRing_69 rfl (by decide) rfl ?_
  refine r_iinc (ls' := fun q9 => [(2, .int q9), (1, .int z0), (0, .ref (gA G 24))]) (k := 2) (v := y2 + (1 : Int32)) F dX7_leastOfRing_70 rfl rfl (by decide) (fun _ => rfl) (fun x70 => ?_)
  refine r_goto (tgt := 23) F dX7_leastOfRing_73 (by decide) ?_
  refine r_sub [2, 1, 0] rfl ?_
  exact H23 z0 x70 M

def f_X7_leastOfRing_23 : Nat → Int32 → Int32 → Mem → Option (Int32 × Mem)
  | 0, _, _, _ => none
  | n + 1, y1, y2, M => if (M.1 24 13) ≤ y2 then (some (y1, M)) else (chk (inb y2 7) <| chk (!decide ((M.1 24 13) = 0)) <| chk (inb ((y2 + (1 : Int32)) - (y2 + (1 : Int32)) / (M.1 24 13) * (M.1 24 13)) 7) <| bn (f_X7_owes (M.1 29 y2.toNatClampNeg) (M.1 29 ((y2 + (1 : Int32)) - (y2 + (1 : Int32)) / (M.1 24 13) * (M.1 24 13)).toNatClampNeg) M) fun r54 M54 => chk (inb r54 3424) <| bnd (M54.1 25 r54.toNatClampNeg) fun x58 => if y1 ≤ x58 then (f_X7_leastOfRing_69 (f_X7_leastOfRing_23  n) y2 y1 M54) else (f_X7_leastOfRing_69 (f_X7_leastOfRing_23  n) y2 x58 M54))

set_option maxRecDepth 100000 in
set_option maxHeartbeats 4000000 in
theorem l_X7_leastOfRing_23 {G : GM} {p : Program} {l : Launch} {e : Env} {s : State} {m : MethodId} {args : Array Value} {below : List Frame} {meth : Method} {c : Code} (F : Fx G p l s m args meth c cX7_leastOfRing RX7 4 (some .int)) : ∀ (n : Nat) (y1 : Int32) (y2 : Int32) (M : Mem), Rf G p l e s m args below meth c 7 4 emI (f_X7_leastOfRing_23  n y1 y2 M) 23 [(0, .ref (gA G 24)), (1, .int y1), (2, .int y2)] [] M := by
  intro n
  induction n with
  | zero => intros; exact r_none
  | succ n ih =>
    intro y1 y2 M
    rw [f_X7_leastOfRing_23]
    refine r_iload_n F 2 dX7_leastOfRing_23 rfl rfl ?_
    refine r_aload_n F 0 dX7_leastOfRing_24 rfl rfl ?_
    refine gf_X7_135 F dX7_leastOfRing_25 (rfl : kd 24 = 7) ?_
    refine r_icmp_ge (tgt := 76) F dX7_leastOfRing_28 (by decide) (fun c1 => ?_) (fun c1 => ?_)
    · refine r_iload_n F 1 dX7_leastOfRing_76 rfl rfl ?_
      exact r_iret F rfl dX7_leastOfRing_77 rfl
    · refine r_aload_n F 0 dX7_leastOfRing_31 rfl rfl ?_
      refine gf_X7_7 F dX7_leastOfRing_32 (rfl : kd 24 = 7) ?_
      refine r_aload_n F 0 dX7_leastOfRing_35 rfl rfl ?_
      refine gf_X7_22 F dX7_leastOfRing_36 (rfl : kd 24 = 7) ?_
      refine r_iload_n F 2 dX7_leastOfRing_39 rfl rfl ?_
      refine r_chk (fun h2 => ?_)
      refine r_iald F dX7_leastOfRing_40 (rfl : kd 29 = 8) (rfl : al 29 = 7) h2 ?_
      refine r_aload_n F 0 dX7_leastOfRing_41 rfl rfl ?_
      refine gf_X7_22 F dX7_leastOfRing_42 (rfl : kd 24 = 7) ?_
      refine r_iload_n F 2 dX7_leastOfRing_45 rfl rfl ?_
      refine r_iconst F dX7_leastOfRing_46 (v := 1) (by decide) ?_
      refine r_iadd F dX7_leastOfRing_47 ?_
      refine r_aload_n F 0 dX7_leastOfRing_48 rfl rfl ?_
      refine gf_X7_135 F dX7_leastOfRing_49 (rfl : kd 24 = 7) ?_
      refine r_chk (fun h3 => ?_)
      refine r_irem F dX7_leastOfRing_52 (by simpa using h3) ?_
      refine r_chk (fun h4 => ?_)
      refine r_iald F dX7_leastOfRing_53 (rfl : kd 29 = 8) (rfl : al 29 = 7) h4 ?_
      refine r_cS (val := vI) (As := [.int (M.1 29 y2.toNatClampNeg), .int (M.1 29 ((y2 + (1 : Int32)) - (y2 + (1 : Int32)) / (M.1 24 13) * (M.1 24 13)).toNatClampNeg)]) (rest := [.ref (gA G 25)]) (fun q9 => .int q9 :: [.ref (gA G 25)]) F (c_X7_owes F.st F.gg (M.1 29 y2.toNatClampNeg) (M.1 29 ((y2 + (1 : Int32)) - (y2 + (1 : Int32)) / (M.1 24 13) * (M.1 24 13)).toNatClampNeg) M) (fun _ _ => rfl) dX7_leastOfRing_54 ml_X7_123 ys_X7_owes rfl (by decide) rfl (Nat.le_of_ble_eq_true rfl) (fun _ => rfl) (fun r54 M54 => ?_)
      refine r_chk (fun h5 => ?_)
      refine r_iald F dX7_leastOfRing_57 (rfl : kd 25 = 8) (rfl : al 25 = 3424) h5 ?_
      refine r_bi (fun x58 => ?_)
      refine r_istore_n (ls' := [(3, .int x58), (0, .ref (gA G 24)), (1, .int y1), (2, .int y2)]) F dX7_leastOfRing_58 rfl (by decide) rfl ?_
      refine r_iload_n F 0 dX7_leastOfRing_59 rfl rfl ?_
      refine r_iload_n F 2 dX7_leastOfRing_60 rfl rfl ?_
      refine r_icmp_ge (tgt := 68) F dX7_leastOfRing_61 (by decide) (fun c6 => ?_) (fun c6 => ?_)
      · refine r_iload_n F 2 dX7_leastOfRing_68 rfl rfl ?_
        refine r_sub [1, 3] rfl ?_
        exact l_X7_leastOfRing_69 F (f_X7_leastOfRing_23  n) (fun q0 q1 M9 => ih q0 q1 M9) y2 y1 M54
      · refine r_iload_n F 0 dX7_leastOfRing_64 rfl rfl ?_
        refine r_goto (tgt := 69) F dX7_leastOfRing_65 (by decide) ?_
        refine r_sub [1, 3] rfl ?_
        exact l_X7_leastOfRing_69 F (f_X7_leastOfRing_23  n) (fun q0 q1 M9 => ih q0 q1 M9) y2 x58 M54

def f_X7_leastOfRing  (M : Mem) : Option (Int32 × Mem) := chk (inb (0 : Int32) 7) <| chk (inb (1 : Int32) 7) <| bn (f_X7_owes (M.1 29 (0 : Int32).toNatClampNeg) (M.1 29 (1 : Int32).toNatClampNeg) M) fun r16 M16 => chk (inb r16 3424) <| bnd (M16.1 25 r16.toNatClampNeg) fun x20 => f_X7_leastOfRing_23  FU x20 (1 : Int32) M16

set_option maxRecDepth 100000 in
set_option maxHeartbeats 4000000 in
theorem b_X7_leastOfRing {G : GM} {p : Program} {l : Launch} {e : Env} {s : State} {m : MethodId} {args : Array Value} {below : List Frame} {meth : Method} {c : Code} (F : Fx G p l s m args meth c cX7_leastOfRing RX7 4 (some .int))  (M : Mem) : Rf G p l e s m args below meth c 7 4 emI (f_X7_leastOfRing  M) 0 [(0, .ref (gA G 24))] [] M := by
  unfold f_X7_leastOfRing
  refine r_aload_n F 0 dX7_leastOfRing_0 rfl rfl ?_
  refine gf_X7_7 F dX7_leastOfRing_1 (rfl : kd 24 = 7) ?_
  refine r_aload_n F 0 dX7_leastOfRing_4 rfl rfl ?_
  refine gf_X7_22 F dX7_leastOfRing_5 (rfl : kd 24 = 7) ?_
  refine r_iconst F dX7_leastOfRing_8 (v := 0) (by decide) ?_
  refine r_chk (fun h1 => ?_)
  refine r_iald F dX7_leastOfRing_9 (rfl : kd 29 = 8) (rfl : al 29 = 7) h1 ?_
  refine r_aload_n F 0 dX7_leastOfRing_10 rfl rfl ?_
  refine gf_X7_22 F dX7_leastOfRing_11 (rfl : kd 24 = 7) ?_
  refine r_iconst F dX7_leastOfRing_14 (v := 1) (by decide) ?_
  refine r_chk (fun h2 => ?_)
  refine r_iald F dX7_leastOfRing_15 (rfl : kd 29 = 8) (rfl : al 29 = 7) h2 ?_
  refine r_cS (val := vI) (As := [.int (M.1 29 (0 : Int32).toNatClampNeg), .int (M.1 29 (1 : Int32).toNatClampNeg)]) (rest := [.ref (gA G 25)]) (fun q9 => .int q9 :: [.ref (gA G 25)]) F (c_X7_owes F.st F.gg (M.1 29 (0 : Int32).toNatClampNeg) (M.1 29 (1 : Int32).toNatClampNeg) M) (fun _ _ => rfl) dX7_leastOfRing_16 ml_X7_123 ys_X7_owes rfl (by decide) rfl (Nat.le_of_ble_eq_true rfl) (fun _ => rfl) (fun r16 M16 => ?_)
  refine r_chk (fun h3 => ?_)
  refine r_iald F dX7_leastOfRing_19 (rfl : kd 25 = 8) (rfl : al 25 = 3424) h3 ?_
  refine r_bi (fun x20 => ?_)
  refine r_istore_n (ls' := [(1, .int x20), (0, .ref (gA G 24))]) F dX7_leastOfRing_20 rfl (by decide) rfl ?_
  refine r_iconst F dX7_leastOfRing_21 (v := 1) (by decide) ?_
  refine r_istore_n (ls' := [(2, .int (1 : Int32)), (1, .int x20), (0, .ref (gA G 24))]) F dX7_leastOfRing_22 rfl (by decide) rfl ?_
  refine r_sub [2, 1, 0] rfl ?_
  exact l_X7_leastOfRing_23 F   FU x20 (1 : Int32) M16

set_option maxRecDepth 100000 in
set_option maxHeartbeats 4000000 in
theorem c_X7_leastOfRing {l : Launch} {G : GM} (hl : l.stackTraces = false) (hG : GG G)  (M : Mem) : ∀ r, f_X7_leastOfRing  M = some r → Ctr l G yX7_leastOfRing (.code yX7_leastOfRing cX7_leastOfRing 4 (some .int) :: wsA) 7 [.ref (gA G 24)] M (emI r) :=
  ctr_of (by decide) hl hG (Nat.le_of_ble_eq_true rfl) (fun p e s m args below meth c F => b_X7_leastOfRing F  M)

-- ===== X7_ringOf DrumTownsModel.ringOf(I)I =====
theorem yv_X7_ringOf : yV yX7_ringOf cX7_ringOf 2 (some .int) 1 := ⟨im_X7_ringOf, sl_X7_ringOf, ini_X7, cd_X7_ringOf, ⟨by decide, by decide, by decide +kernel⟩, by decide⟩

def f_X7_ringOf_29 (z0 : Int32) (M : Mem) : Option (Int32 × Mem) := some (z0, M)

set_option maxRecDepth 100000 in
set_option maxHeartbeats 4000000 in
theorem l_X7_ringOf_29 {G : GM} {p : Program} {l : Launch} {e : Env} {s : State} {m : MethodId} {args : Array Value} {below : List Frame} {meth : Method} {c : Code} (F : Fx G p l s m args meth c cX7_ringOf RX7 2 (some .int)) (z0 : Int32) (M : Mem) : Rf G p l e s m args below meth c 10 2 emI (f_X7_ringOf_29  z0 M) 29 [] [.int z0] M := by
  unfold f_X7_ringOf_29
  exact r_iret F rfl dX7_ringOf_29 rfl

def f_X7_ringOf_54 (z0 : Int32) (M : Mem) : Option (Int32 × Mem) := some (z0, M)

set_option maxRecDepth 100000 in
set_option maxHeartbeats 4000000 in
theorem l_X7_ringOf_54 {G : GM} {p : Program} {l : Launch} {e : Env} {s : State} {m : MethodId} {args : Array Value} {below : List Frame} {meth : Method} {c : Code} (F : Fx G p l s m args meth c cX7_ringOf RX7 2 (some .int)) (z0 : Int32) (M : Mem) : Rf G p l e s m args below meth c 10 2 emI (f_X7_ringOf_54  z0 M) 54 [] [.int z0] M := by
  unfold f_X7_ringOf_54
  exact r_iret F rfl dX7_ringOf_54 rfl

def f_X7_ringOf (a1 : Int32) (M : Mem) : Option (Int32 × Mem) := bn (f_X7_findsRing M) fun r1 M1 => if r1 = 0 then (some ((-1 : Int32), M1)) else (if (2 : Int32) ≤ a1 then (if (M1.1 24 13) ≤ (a1 - (10 : Int32)) then (f_X7_ringOf_54  (-1 : Int32) M1) else (chk (inb (a1 - (10 : Int32)) 7) <| f_X7_ringOf_54  (M1.1 29 (a1 - (10 : Int32)).toNatClampNeg) M1)) else (if a1 = 0 then (f_X7_ringOf_29  (M1.1 24 13) M1) else (bn (f_X7_leastOfRing M1) fun r26 M26 => f_X7_ringOf_29  r26 M26)))

set_option maxRecDepth 100000 in
set_option maxHeartbeats 4000000 in
theorem b_X7_ringOf {G : GM} {p : Program} {l : Launch} {e : Env} {s : State} {m : MethodId} {args : Array Value} {below : List Frame} {meth : Method} {c : Code} (F : Fx G p l s m args meth c cX7_ringOf RX7 2 (some .int)) (a1 : Int32) (M : Mem) : Rf G p l e s m args below meth c 10 2 emI (f_X7_ringOf a1 M) 0 [(0, .ref (gA G 24)), (1, .int a1)] [] M := by
  unfold f_X7_ringOf
  refine r_aload_n F 0 dX7_ringOf_0 rfl rfl ?_
  refine r_cV (val := vI) (As := []) (rest := []) (fun q9 => .int q9 :: []) F (c_X7_findsRing F.st F.gg  M) (fun _ _ => rfl) dX7_ringOf_1 ml_X7_138 yv_X7_findsRing (rfl : kd 24 = 7) (by decide) rfl rfl (by decide) rfl (Nat.le_of_ble_eq_true rfl) (fun _ => rfl) (fun r1 M1 => ?_)
  refine r_if_ne (tgt := 9) F dX7_ringOf_4 (by decide) (fun c1 => ?_) (fun c1 => ?_)
  · refine r_iconst F dX7_ringOf_7 (v := -1) (by decide) ?_
    exact r_iret F rfl dX7_ringOf_8 rfl
  · refine r_iload_n F 1 dX7_ringOf_9 rfl rfl ?_
    refine r_iconst F dX7_ringOf_10 (v := 2) (by decide) ?_
    refine r_icmp_ge (tgt := 30) F dX7_ringOf_11 (by decide) (fun c2 => ?_) (fun c2 => ?_)
    · refine r_iload_n F 1 dX7_ringOf_30 rfl rfl ?_
      refine r_bipush F dX7_ringOf_31 (v := 10) (by decide) ?_
      refine r_isub F dX7_ringOf_33 ?_
      refine r_aload_n F 0 dX7_ringOf_34 rfl rfl ?_
      refine gf_X7_135 F dX7_ringOf_35 (rfl : kd 24 = 7) ?_
      refine r_icmp_ge (tgt := 53) F dX7_ringOf_38 (by decide) (fun c3 => ?_) (fun c3 => ?_)
      · refine r_iconst F dX7_ringOf_53 (v := -1) (by decide) ?_
        refine r_sub [] rfl ?_
        exact l_X7_ringOf_54 F   (-1 : Int32) M1
      · refine r_aload_n F 0 dX7_ringOf_41 rfl rfl ?_
        refine gf_X7_22 F dX7_ringOf_42 (rfl : kd 24 = 7) ?_
        refine r_iload_n F 1 dX7_ringOf_45 rfl rfl ?_
        refine r_bipush F dX7_ringOf_46 (v := 10) (by decide) ?_
        refine r_isub F dX7_ringOf_48 ?_
        refine r_chk (fun h4 => ?_)
        refine r_iald F dX7_ringOf_49 (rfl : kd 29 = 8) (rfl : al 29 = 7) h4 ?_
        refine r_goto (tgt := 54) F dX7_ringOf_50 (by decide) ?_
        refine r_sub [] rfl ?_
        exact l_X7_ringOf_54 F   (M1.1 29 (a1 - (10 : Int32)).toNatClampNeg) M1
    · refine r_iload_n F 1 dX7_ringOf_14 rfl rfl ?_
      refine r_if_ne (tgt := 25) F dX7_ringOf_15 (by decide) (fun c5 => ?_) (fun c5 => ?_)
      · refine r_aload_n F 0 dX7_ringOf_18 rfl rfl ?_
        refine gf_X7_135 F dX7_ringOf_19 (rfl : kd 24 = 7) ?_
        refine r_goto (tgt := 29) F dX7_ringOf_22 (by decide) ?_
        refine r_sub [] rfl ?_
        exact l_X7_ringOf_29 F   (M1.1 24 13) M1
      · refine r_aload_n F 0 dX7_ringOf_25 rfl rfl ?_
        refine r_cV (val := vI) (As := []) (rest := []) (fun q9 => .int q9 :: []) F (c_X7_leastOfRing F.st F.gg  M1) (fun _ _ => rfl) dX7_ringOf_26 ml_X7_142 yv_X7_leastOfRing (rfl : kd 24 = 7) (by decide) rfl rfl (by decide) rfl (Nat.le_of_ble_eq_true rfl) (fun _ => rfl) (fun r26 M26 => ?_)
        refine r_sub [] rfl ?_
        exact l_X7_ringOf_29 F   r26 M26

set_option maxRecDepth 100000 in
set_option maxHeartbeats 4000000 in
theorem c_X7_ringOf {l : Launch} {G : GM} (hl : l.stackTraces = false) (hG : GG G) (a1 : Int32) (M : Mem) : ∀ r, f_X7_ringOf a1 M = some r → Ctr l G yX7_ringOf (.code yX7_ringOf cX7_ringOf 2 (some .int) :: wsA) 10 [.ref (gA G 24), .int a1] M (emI r) :=
  ctr_of (by decide) hl hG (Nat.le_of_ble_eq_true rfl) (fun p e s m args below meth c F => b_X7_ringOf F a1 M)

-- ===== X7_tuneShare DrumTownsModel.tuneShare()D =====
theorem yv_X7_tuneShare : yV yX7_tuneShare cX7_tuneShare 2 (some .double) 0 := ⟨im_X7_tuneShare, sl_X7_tuneShare, ini_X7, cd_X7_tuneShare, ⟨by decide, by decide, by decide +kernel⟩, by decide⟩

def f_X7_tuneShare_28 (z0 : UInt64) (M : Mem) : Option (UInt64 × Mem) := some (z0, M)

set_option maxRecDepth 100000 in
set_option maxHeartbeats 4000000 in
theorem l_X7_tuneShare_28 {G : GM} {p : Program} {l : Launch} {e : Env} {s : State} {m : MethodId} {args : Array Value} {below : List Frame} {meth : Method} {c : Code} (F : Fx G p l s m args meth c cX7_tuneShare RX7 2 (some .double)) (z0 : UInt64) (M : Mem) : Rf G p l e s m args below meth c 10 2 emD (f_X7_tuneShare_28  z0 M) 28 [] [.double z0] M := by
  unfold f_X7_tuneShare_28
  exact r_dret F rfl dX7_tuneShare_28 rfl

def f_X7_tuneShare  (M : Mem) : Option (UInt64 × Mem) := bnd (mw M 24 2 (0 : Int32)) fun M2 => bn (f_X7_sumOf (2 : Int32) M2) fun r7 M7 => if r7 = 0 then (f_X7_tuneShare_28  FP.dconst0 M7) else (bn (f_X7_sumOf (3 : Int32) M7) fun r21 M21 => chk (nn64 (FP.ddiv (FP.i2d r21) (FP.i2d r7))) <| f_X7_tuneShare_28  (FP.ddiv (FP.i2d r21) (FP.i2d r7)) M21)

set_option maxRecDepth 100000 in
set_option maxHeartbeats 4000000 in
theorem b_X7_tuneShare {G : GM} {p : Program} {l : Launch} {e : Env} {s : State} {m : MethodId} {args : Array Value} {below : List Frame} {meth : Method} {c : Code} (F : Fx G p l s m args meth c cX7_tuneShare RX7 2 (some .double))  (M : Mem) : Rf G p l e s m args below meth c 10 2 emD (f_X7_tuneShare  M) 0 [(0, .ref (gA G 24))] [] M := by
  unfold f_X7_tuneShare
  refine r_aload_n F 0 dX7_tuneShare_0 rfl rfl ?_
  refine r_iconst F dX7_tuneShare_1 (v := 0) (by decide) ?_
  refine pf_X7_37 F dX7_tuneShare_2 (rfl : kd 24 = 7) (fun M2 => ?_)
  refine r_aload_n F 0 dX7_tuneShare_5 rfl rfl ?_
  refine r_iconst F dX7_tuneShare_6 (v := 2) (by decide) ?_
  refine r_cV (val := vI) (As := [.int (2 : Int32)]) (rest := []) (fun q9 => .int q9 :: []) F (c_X7_sumOf F.st F.gg (2 : Int32) M2) (fun _ _ => rfl) dX7_tuneShare_7 ml_X7_187 yv_X7_sumOf (rfl : kd 24 = 7) (by decide) rfl rfl (by decide) rfl (Nat.le_of_ble_eq_true rfl) (fun _ => rfl) (fun r7 M7 => ?_)
  refine r_istore_n (ls' := [(1, .int r7), (0, .ref (gA G 24))]) F dX7_tuneShare_10 rfl (by decide) rfl ?_
  refine r_iload_n F 0 dX7_tuneShare_11 rfl rfl ?_
  refine r_if_ne (tgt := 19) F dX7_tuneShare_12 (by decide) (fun c1 => ?_) (fun c1 => ?_)
  · refine r_dconst0 F dX7_tuneShare_15 ?_
    refine r_goto (tgt := 28) F dX7_tuneShare_16 (by decide) ?_
    refine r_sub [] rfl ?_
    exact l_X7_tuneShare_28 F   FP.dconst0 M7
  · refine r_aload_n F 1 dX7_tuneShare_19 rfl rfl ?_
    refine r_iconst F dX7_tuneShare_20 (v := 3) (by decide) ?_
    refine r_cV (val := vI) (As := [.int (3 : Int32)]) (rest := []) (fun q9 => .int q9 :: []) F (c_X7_sumOf F.st F.gg (3 : Int32) M7) (fun _ _ => rfl) dX7_tuneShare_21 ml_X7_187 yv_X7_sumOf (rfl : kd 24 = 7) (by decide) rfl rfl (by decide) rfl (Nat.le_of_ble_eq_true rfl) (fun _ => rfl) (fun r21 M21 => ?_)
    refine r_i2d F dX7_tuneShare_24 ?_
    refine r_iload_n F 0 dX7_tuneShare_25 rfl rfl ?_
    refine r_i2d F dX7_tuneShare_26 ?_
    refine r_chk (fun h2 => ?_)
    refine r_ddiv F dX7_tuneShare_27 (nn_n h2) ?_
    refine r_sub [] rfl ?_
    exact l_X7_tuneShare_28 F   (FP.ddiv (FP.i2d r21) (FP.i2d r7)) M21

set_option maxRecDepth 100000 in
set_option maxHeartbeats 4000000 in
theorem c_X7_tuneShare {l : Launch} {G : GM} (hl : l.stackTraces = false) (hG : GG G)  (M : Mem) : ∀ r, f_X7_tuneShare  M = some r → Ctr l G yX7_tuneShare (.code yX7_tuneShare cX7_tuneShare 2 (some .double) :: wsA) 10 [.ref (gA G 24)] M (emD r) :=
  ctr_of (by decide) hl hG (Nat.le_of_ble_eq_true rfl) (fun p e s m args below meth c F => b_X7_tuneShare F  M)

-- ===== X7_digest DrumTownsModel.digest()J =====
theorem yv_X7_digest : yV yX7_digest cX7_digest 2 (some .long) 0 := ⟨im_X7_digest, sl_X7_digest, ini_X7, cd_X7_digest, ⟨by decide, by decide, by decide +kernel⟩, by decide⟩

def f_X7_digest_186 : Nat → Int32 → Mem → Option (Int64 × Mem)
  | 0, _, _ => none
  | n + 1, y1, M => if (M.1 24 4) ≤ y1 then (bnd (mw M 24 2 (0 : Int32)) fun M213 => some ((M213.2 0), M213)) else (chk (inb y1 60) <| bn (f_X7_add (((M.1 26 y1.toNatClampNeg)).toInt64) M) fun _ M202 => bnd (y1 + (1 : Int32)) fun x205 => f_X7_digest_186  n x205 M202)

set_option maxRecDepth 100000 in
set_option maxHeartbeats 4000000 in
theorem l_X7_digest_186 {G : GM} {p : Program} {l : Launch} {e : Env} {s : State} {m : MethodId} {args : Array Value} {below : List Frame} {meth : Method} {c : Code} (F : Fx G p l s m args meth c cX7_digest RX7 2 (some .long)) : ∀ (n : Nat) (y1 : Int32) (M : Mem), Rf G p l e s m args below meth c 12 2 emL (f_X7_digest_186  n y1 M) 186 [(0, .ref (gA G 24)), (1, .int y1)] [] M := by
  intro n
  induction n with
  | zero => intros; exact r_none
  | succ n ih =>
    intro y1 M
    rw [f_X7_digest_186]
    refine r_iload_n F 1 dX7_digest_186 rfl rfl ?_
    refine r_aload_n F 0 dX7_digest_187 rfl rfl ?_
    refine gf_X7_149 F dX7_digest_188 (rfl : kd 24 = 7) ?_
    refine r_icmp_ge (tgt := 211) F dX7_digest_191 (by decide) (fun c1 => ?_) (fun c1 => ?_)
    · refine r_aload_n F 0 dX7_digest_211 rfl rfl ?_
      refine r_iconst F dX7_digest_212 (v := 0) (by decide) ?_
      refine pf_X7_37 F dX7_digest_213 (rfl : kd 24 = 7) (fun M213 => ?_)
      refine r_aload_n F 0 dX7_digest_216 rfl rfl ?_
      refine gf_X7_210 F dX7_digest_217 (rfl : kd 24 = 7) ?_
      exact r_lret F rfl dX7_digest_220 rfl
    · refine r_aload_n F 0 dX7_digest_194 rfl rfl ?_
      refine r_aload_n F 0 dX7_digest_195 rfl rfl ?_
      refine gf_X7_13 F dX7_digest_196 (rfl : kd 24 = 7) ?_
      refine r_iload_n F 1 dX7_digest_199 rfl rfl ?_
      refine r_chk (fun h2 => ?_)
      refine r_iald F dX7_digest_200 (rfl : kd 26 = 8) (rfl : al 26 = 60) h2 ?_
      refine r_i2l F dX7_digest_201 ?_
      refine r_cV (val := vU) (As := [.long (((M.1 26 y1.toNatClampNeg)).toInt64)]) (rest := []) (fun _ => []) F (c_X7_add F.st F.gg (((M.1 26 y1.toNatClampNeg)).toInt64) M) (fun _ _ => rfl) dX7_digest_202 ml_X7_214 yv_X7_add (rfl : kd 24 = 7) (by decide) rfl rfl (by decide) rfl (Nat.le_of_ble_eq_true rfl) (fun _ => rfl) (fun _ M202 => ?_)
      refine r_iinc (ls' := fun q9 => [(1, .int q9), (0, .ref (gA G 24))]) (k := 1) (v := y1 + (1 : Int32)) F dX7_digest_205 rfl rfl (by decide) (fun _ => rfl) (fun x205 => ?_)
      refine r_goto (tgt := 186) F dX7_digest_208 (by decide) ?_
      refine r_sub [1, 0] rfl ?_
      exact ih x205 M202

def f_X7_digest_142 : Nat → Int32 → Mem → Option (Int64 × Mem)
  | 0, _, _ => none
  | n + 1, y1, M => if (16 : Int32) ≤ y1 then (bn (f_X7_tuneShare M) fun r166 M166 => bn (f_Jxe99ae_doubleToLongBits_ccdee r166 M166) fun r169 M169 => bn (f_X7_add r169 M169) fun _ M172 => bn (f_X7_add (((M172.1 24 4)).toInt64) M172) fun _ M181 => f_X7_digest_186  FU (0 : Int32) M181) else (bn (f_X7_ringOf y1 M) fun r151 M151 => bn (f_X7_add ((r151).toInt64) M151) fun _ M155 => bnd (y1 + (1 : Int32)) fun x158 => f_X7_digest_142  n x158 M155)

set_option maxRecDepth 100000 in
set_option maxHeartbeats 4000000 in
theorem l_X7_digest_142 {G : GM} {p : Program} {l : Launch} {e : Env} {s : State} {m : MethodId} {args : Array Value} {below : List Frame} {meth : Method} {c : Code} (F : Fx G p l s m args meth c cX7_digest RX7 2 (some .long)) : ∀ (n : Nat) (y1 : Int32) (M : Mem), Rf G p l e s m args below meth c 12 2 emL (f_X7_digest_142  n y1 M) 142 [(0, .ref (gA G 24)), (1, .int y1)] [] M := by
  intro n
  induction n with
  | zero => intros; exact r_none
  | succ n ih =>
    intro y1 M
    rw [f_X7_digest_142]
    refine r_iload_n F 1 dX7_digest_142 rfl rfl ?_
    refine r_bipush F dX7_digest_143 (v := 16) (by decide) ?_
    refine r_icmp_ge (tgt := 164) F dX7_digest_145 (by decide) (fun c1 => ?_) (fun c1 => ?_)
    · refine r_aload_n F 0 dX7_digest_164 rfl rfl ?_
      refine r_aload_n F 0 dX7_digest_165 rfl rfl ?_
      refine r_cV (val := vD) (As := []) (rest := [.ref (gA G 24)]) (fun q9 => .double q9 :: [.ref (gA G 24)]) F (c_X7_tuneShare F.st F.gg  M) (fun _ _ => rfl) dX7_digest_166 ml_X7_223 yv_X7_tuneShare (rfl : kd 24 = 7) (by decide) rfl rfl (by decide) rfl (Nat.le_of_ble_eq_true rfl) (fun _ => rfl) (fun r166 M166 => ?_)
      refine r_cS (val := vL) (As := [.double r166]) (rest := [.ref (gA G 24)]) (fun q9 => .long q9 :: [.ref (gA G 24)]) F (c_Jxe99ae_doubleToLongBits_ccdee F.st F.gg r166 M166) (fun _ _ => rfl) dX7_digest_169 ml_X7_227 ys_Jxe99ae_doubleToLongBits_ccdee rfl (by decide) rfl (Nat.le_of_ble_eq_true rfl) (fun _ => rfl) (fun r169 M169 => ?_)
      refine r_cV (val := vU) (As := [.long r169]) (rest := []) (fun _ => []) F (c_X7_add F.st F.gg r169 M169) (fun _ _ => rfl) dX7_digest_172 ml_X7_214 yv_X7_add (rfl : kd 24 = 7) (by decide) rfl rfl (by decide) rfl (Nat.le_of_ble_eq_true rfl) (fun _ => rfl) (fun _ M172 => ?_)
      refine r_aload_n F 0 dX7_digest_175 rfl rfl ?_
      refine r_aload_n F 0 dX7_digest_176 rfl rfl ?_
      refine gf_X7_149 F dX7_digest_177 (rfl : kd 24 = 7) ?_
      refine r_i2l F dX7_digest_180 ?_
      refine r_cV (val := vU) (As := [.long (((M172.1 24 4)).toInt64)]) (rest := []) (fun _ => []) F (c_X7_add F.st F.gg (((M172.1 24 4)).toInt64) M172) (fun _ _ => rfl) dX7_digest_181 ml_X7_214 yv_X7_add (rfl : kd 24 = 7) (by decide) rfl rfl (by decide) rfl (Nat.le_of_ble_eq_true rfl) (fun _ => rfl) (fun _ M181 => ?_)
      refine r_iconst F dX7_digest_184 (v := 0) (by decide) ?_
      refine r_istore_n (ls' := [(1, .int (0 : Int32)), (0, .ref (gA G 24))]) F dX7_digest_185 rfl (by decide) rfl ?_
      refine r_sub [1, 0] rfl ?_
      exact l_X7_digest_186 F   FU (0 : Int32) M181
    · refine r_aload_n F 0 dX7_digest_148 rfl rfl ?_
      refine r_aload_n F 0 dX7_digest_149 rfl rfl ?_
      refine r_iload_n F 1 dX7_digest_150 rfl rfl ?_
      refine r_cV (val := vI) (As := [.int y1]) (rest := [.ref (gA G 24)]) (fun q9 => .int q9 :: [.ref (gA G 24)]) F (c_X7_ringOf F.st F.gg y1 M) (fun _ _ => rfl) dX7_digest_151 ml_X7_146 yv_X7_ringOf (rfl : kd 24 = 7) (by decide) rfl rfl (by decide) rfl (Nat.le_of_ble_eq_true rfl) (fun _ => rfl) (fun r151 M151 => ?_)
      refine r_i2l F dX7_digest_154 ?_
      refine r_cV (val := vU) (As := [.long ((r151).toInt64)]) (rest := []) (fun _ => []) F (c_X7_add F.st F.gg ((r151).toInt64) M151) (fun _ _ => rfl) dX7_digest_155 ml_X7_214 yv_X7_add (rfl : kd 24 = 7) (by decide) rfl rfl (by decide) rfl (Nat.le_of_ble_eq_true rfl) (fun _ => rfl) (fun _ M155 => ?_)
      refine r_iinc (ls' := fun q9 => [(1, .int q9), (0, .ref (gA G 24))]) (k := 1) (v := y1 + (1 : Int32)) F dX7_digest_158 rfl rfl (by decide) (fun _ => rfl) (fun x158 => ?_)
      refine r_goto (tgt := 142) F dX7_digest_161 (by decide) ?_
      refine r_sub [1, 0] rfl ?_
      exact ih x158 M155

def f_X7_digest_97 : Nat → Int32 → Mem → Option (Int64 × Mem)
  | 0, _, _ => none
  | n + 1, y1, M => if (16 : Int32) ≤ y1 then (bn (f_X7_ringOf (0 : Int32) M) fun r122 M122 => bn (f_X7_add ((r122).toInt64) M122) fun _ M126 => bn (f_X7_ringOf (1 : Int32) M126) fun r132 M132 => bn (f_X7_add ((r132).toInt64) M132) fun _ M136 => f_X7_digest_142  FU (10 : Int32) M136) else (bn (f_X7_bestTradesOf y1 M) fun r106 M106 => bn (f_X7_add ((r106).toInt64) M106) fun _ M110 => bnd (y1 + (1 : Int32)) fun x113 => f_X7_digest_97  n x113 M110)

set_option maxRecDepth 100000 in
set_option maxHeartbeats 4000000 in
theorem l_X7_digest_97 {G : GM} {p : Program} {l : Launch} {e : Env} {s : State} {m : MethodId} {args : Array Value} {below : List Frame} {meth : Method} {c : Code} (F : Fx G p l s m args meth c cX7_digest RX7 2 (some .long)) : ∀ (n : Nat) (y1 : Int32) (M : Mem), Rf G p l e s m args below meth c 12 2 emL (f_X7_digest_97  n y1 M) 97 [(0, .ref (gA G 24)), (1, .int y1)] [] M := by
  intro n
  induction n with
  | zero => intros; exact r_none
  | succ n ih =>
    intro y1 M
    rw [f_X7_digest_97]
    refine r_iload_n F 1 dX7_digest_97 rfl rfl ?_
    refine r_bipush F dX7_digest_98 (v := 16) (by decide) ?_
    refine r_icmp_ge (tgt := 119) F dX7_digest_100 (by decide) (fun c1 => ?_) (fun c1 => ?_)
    · refine r_aload_n F 0 dX7_digest_119 rfl rfl ?_
      refine r_aload_n F 0 dX7_digest_120 rfl rfl ?_
      refine r_iconst F dX7_digest_121 (v := 0) (by decide) ?_
      refine r_cV (val := vI) (As := [.int (0 : Int32)]) (rest := [.ref (gA G 24)]) (fun q9 => .int q9 :: [.ref (gA G 24)]) F (c_X7_ringOf F.st F.gg (0 : Int32) M) (fun _ _ => rfl) dX7_digest_122 ml_X7_146 yv_X7_ringOf (rfl : kd 24 = 7) (by decide) rfl rfl (by decide) rfl (Nat.le_of_ble_eq_true rfl) (fun _ => rfl) (fun r122 M122 => ?_)
      refine r_i2l F dX7_digest_125 ?_
      refine r_cV (val := vU) (As := [.long ((r122).toInt64)]) (rest := []) (fun _ => []) F (c_X7_add F.st F.gg ((r122).toInt64) M122) (fun _ _ => rfl) dX7_digest_126 ml_X7_214 yv_X7_add (rfl : kd 24 = 7) (by decide) rfl rfl (by decide) rfl (Nat.le_of_ble_eq_true rfl) (fun _ => rfl) (fun _ M126 => ?_)
      refine r_aload_n F 0 dX7_digest_129 rfl rfl ?_
      refine r_aload_n F 0 dX7_digest_130 rfl rfl ?_
      refine r_iconst F dX7_digest_131 (v := 1) (by decide) ?_
      refine r_cV (val := vI) (As := [.int (1 : Int32)]) (rest := [.ref (gA G 24)]) (fun q9 => .int q9 :: [.ref (gA G 24)]) F (c_X7_ringOf F.st F.gg (1 : Int32) M126) (fun _ _ => rfl) dX7_digest_132 ml_X7_146 yv_X7_ringOf (rfl : kd 24 = 7) (by decide) rfl rfl (by decide) rfl (Nat.le_of_ble_eq_true rfl) (fun _ => rfl) (fun r132 M132 => ?_)
      refine r_i2l F dX7_digest_135 ?_
      refine r_cV (val := vU) (As := [.long ((r132).toInt64)]) (rest := []) (fun _ => []) F (c_X7_add F.st F.gg ((r132).toInt64) M132) (fun _ _ => rfl) dX7_digest_136 ml_X7_214 yv_X7_add (rfl : kd 24 = 7) (by decide) rfl rfl (by decide) rfl (Nat.le_of_ble_eq_true rfl) (fun _ => rfl) (fun _ M136 => ?_)
      refine r_bipush F dX7_digest_139 (v := 10) (by decide) ?_
      refine r_istore_n (ls' := [(1, .int (10 : Int32)), (0, .ref (gA G 24))]) F dX7_digest_141 rfl (by decide) rfl ?_
      refine r_sub [1, 0] rfl ?_
      exact l_X7_digest_142 F   FU (10 : Int32) M136
    · refine r_aload_n F 0 dX7_digest_103 rfl rfl ?_
      refine r_aload_n F 0 dX7_digest_104 rfl rfl ?_
      refine r_iload_n F 1 dX7_digest_105 rfl rfl ?_
      refine r_cV (val := vI) (As := [.int y1]) (rest := [.ref (gA G 24)]) (fun q9 => .int q9 :: [.ref (gA G 24)]) F (c_X7_bestTradesOf F.st F.gg y1 M) (fun _ _ => rfl) dX7_digest_106 ml_X7_205 yv_X7_bestTradesOf (rfl : kd 24 = 7) (by decide) rfl rfl (by decide) rfl (Nat.le_of_ble_eq_true rfl) (fun _ => rfl) (fun r106 M106 => ?_)
      refine r_i2l F dX7_digest_109 ?_
      refine r_cV (val := vU) (As := [.long ((r106).toInt64)]) (rest := []) (fun _ => []) F (c_X7_add F.st F.gg ((r106).toInt64) M106) (fun _ _ => rfl) dX7_digest_110 ml_X7_214 yv_X7_add (rfl : kd 24 = 7) (by decide) rfl rfl (by decide) rfl (Nat.le_of_ble_eq_true rfl) (fun _ => rfl) (fun _ M110 => ?_)
      refine r_iinc (ls' := fun q9 => [(1, .int q9), (0, .ref (gA G 24))]) (k := 1) (v := y1 + (1 : Int32)) F dX7_digest_113 rfl rfl (by decide) (fun _ => rfl) (fun x113 => ?_)
      refine r_goto (tgt := 97) F dX7_digest_116 (by decide) ?_
      refine r_sub [1, 0] rfl ?_
      exact ih x113 M110

def f_X7_digest_61 : Nat → Int32 → Mem → Option (Int64 × Mem)
  | 0, _, _ => none
  | n + 1, y1, M => chk (inb (423 : Int32) 3424) <| if (M.1 25 (423 : Int32).toNatClampNeg) ≤ y1 then (bn (f_X7_bestTradesOf (0 : Int32) M) fun r87 M87 => bn (f_X7_add ((r87).toInt64) M87) fun _ M91 => f_X7_digest_97  FU (10 : Int32) M91) else (bn (f_X7_addTownOf y1 M) fun _ M75 => bnd (y1 + (1 : Int32)) fun x78 => f_X7_digest_61  n x78 M75)

set_option maxRecDepth 100000 in
set_option maxHeartbeats 4000000 in
theorem l_X7_digest_61 {G : GM} {p : Program} {l : Launch} {e : Env} {s : State} {m : MethodId} {args : Array Value} {below : List Frame} {meth : Method} {c : Code} (F : Fx G p l s m args meth c cX7_digest RX7 2 (some .long)) : ∀ (n : Nat) (y1 : Int32) (M : Mem), Rf G p l e s m args below meth c 12 2 emL (f_X7_digest_61  n y1 M) 61 [(0, .ref (gA G 24)), (1, .int y1)] [] M := by
  intro n
  induction n with
  | zero => intros; exact r_none
  | succ n ih =>
    intro y1 M
    rw [f_X7_digest_61]
    refine r_iload_n F 1 dX7_digest_61 rfl rfl ?_
    refine r_aload_n F 0 dX7_digest_62 rfl rfl ?_
    refine gf_X7_7 F dX7_digest_63 (rfl : kd 24 = 7) ?_
    refine r_sipush F dX7_digest_66 (v := 423) (by decide) ?_
    refine r_chk (fun h1 => ?_)
    refine r_iald F dX7_digest_69 (rfl : kd 25 = 8) (rfl : al 25 = 3424) h1 ?_
    refine r_icmp_ge (tgt := 84) F dX7_digest_70 (by decide) (fun c2 => ?_) (fun c2 => ?_)
    · refine r_aload_n F 0 dX7_digest_84 rfl rfl ?_
      refine r_aload_n F 0 dX7_digest_85 rfl rfl ?_
      refine r_iconst F dX7_digest_86 (v := 0) (by decide) ?_
      refine r_cV (val := vI) (As := [.int (0 : Int32)]) (rest := [.ref (gA G 24)]) (fun q9 => .int q9 :: [.ref (gA G 24)]) F (c_X7_bestTradesOf F.st F.gg (0 : Int32) M) (fun _ _ => rfl) dX7_digest_87 ml_X7_205 yv_X7_bestTradesOf (rfl : kd 24 = 7) (by decide) rfl rfl (by decide) rfl (Nat.le_of_ble_eq_true rfl) (fun _ => rfl) (fun r87 M87 => ?_)
      refine r_i2l F dX7_digest_90 ?_
      refine r_cV (val := vU) (As := [.long ((r87).toInt64)]) (rest := []) (fun _ => []) F (c_X7_add F.st F.gg ((r87).toInt64) M87) (fun _ _ => rfl) dX7_digest_91 ml_X7_214 yv_X7_add (rfl : kd 24 = 7) (by decide) rfl rfl (by decide) rfl (Nat.le_of_ble_eq_true rfl) (fun _ => rfl) (fun _ M91 => ?_)
      refine r_bipush F dX7_digest_94 (v := 10) (by decide) ?_
      refine r_istore_n (ls' := [(1, .int (10 : Int32)), (0, .ref (gA G 24))]) F dX7_digest_96 rfl (by decide) rfl ?_
      refine r_sub [1, 0] rfl ?_
      exact l_X7_digest_97 F   FU (10 : Int32) M91
    · refine r_aload_n F 0 dX7_digest_73 rfl rfl ?_
      refine r_iload_n F 1 dX7_digest_74 rfl rfl ?_
      refine r_cV (val := vU) (As := [.int y1]) (rest := []) (fun _ => []) F (c_X7_addTownOf F.st F.gg y1 M) (fun _ _ => rfl) dX7_digest_75 ml_X7_220 yv_X7_addTownOf (rfl : kd 24 = 7) (by decide) rfl rfl (by decide) rfl (Nat.le_of_ble_eq_true rfl) (fun _ => rfl) (fun _ M75 => ?_)
      refine r_iinc (ls' := fun q9 => [(1, .int q9), (0, .ref (gA G 24))]) (k := 1) (v := y1 + (1 : Int32)) F dX7_digest_78 rfl rfl (by decide) (fun _ => rfl) (fun x78 => ?_)
      refine r_goto (tgt := 61) F dX7_digest_81 (by decide) ?_
      refine r_sub [1, 0] rfl ?_
      exact ih x78 M75

def f_X7_digest_33 : Nat → Int32 → Mem → Option (Int64 × Mem)
  | 0, _, _ => none
  | n + 1, y1, M => if (3 : Int32) ≤ y1 then (f_X7_digest_61  FU (0 : Int32) M) else (chk (inb ((420 : Int32) + y1) 3424) <| bn (f_X7_add (((M.1 25 ((420 : Int32) + y1).toNatClampNeg)).toInt64) M) fun _ M50 => bnd (y1 + (1 : Int32)) fun x53 => f_X7_digest_33  n x53 M50)

set_option maxRecDepth 100000 in
set_option maxHeartbeats 4000000 in
theorem l_X7_digest_33 {G : GM} {p : Program} {l : Launch} {e : Env} {s : State} {m : MethodId} {args : Array Value} {below : List Frame} {meth : Method} {c : Code} (F : Fx G p l s m args meth c cX7_digest RX7 2 (some .long)) : ∀ (n : Nat) (y1 : Int32) (M : Mem), Rf G p l e s m args below meth c 12 2 emL (f_X7_digest_33  n y1 M) 33 [(0, .ref (gA G 24)), (1, .int y1)] [] M := by
  intro n
  induction n with
  | zero => intros; exact r_none
  | succ n ih =>
    intro y1 M
    rw [f_X7_digest_33]
    refine r_iload_n F 1 dX7_digest_33 rfl rfl ?_
    refine r_iconst F dX7_digest_34 (v := 3) (by decide) ?_
    refine r_icmp_ge (tgt := 59) F dX7_digest_35 (by decide) (fun c1 => ?_) (fun c1 => ?_)
    · refine r_iconst F dX7_digest_59 (v := 0) (by decide) ?_
      refine r_istore_n (ls' := [(1, .int (0 : Int32)), (0, .ref (gA G 24))]) F dX7_digest_60 rfl (by decide) rfl ?_
      refine r_sub [1, 0] rfl ?_
      exact l_X7_digest_61 F   FU (0 : Int32) M
    · refine r_aload_n F 0 dX7_digest_38 rfl rfl ?_
      refine r_aload_n F 0 dX7_digest_39 rfl rfl ?_
      refine gf_X7_7 F dX7_digest_40 (rfl : kd 24 = 7) ?_
      refine r_sipush F dX7_digest_43 (v := 420) (by decide) ?_
      refine r_iload_n F 1 dX7_digest_46 rfl rfl ?_
      refine r_iadd F dX7_digest_47 ?_
      refine r_chk (fun h2 => ?_)
      refine r_iald F dX7_digest_48 (rfl : kd 25 = 8) (rfl : al 25 = 3424) h2 ?_
      refine r_i2l F dX7_digest_49 ?_
      refine r_cV (val := vU) (As := [.long (((M.1 25 ((420 : Int32) + y1).toNatClampNeg)).toInt64)]) (rest := []) (fun _ => []) F (c_X7_add F.st F.gg (((M.1 25 ((420 : Int32) + y1).toNatClampNeg)).toInt64) M) (fun _ _ => rfl) dX7_digest_50 ml_X7_214 yv_X7_add (rfl : kd 24 = 7) (by decide) rfl rfl (by decide) rfl (Nat.le_of_ble_eq_true rfl) (fun _ => rfl) (fun _ M50 => ?_)
      refine r_iinc (ls' := fun q9 => [(1, .int q9), (0, .ref (gA G 24))]) (k := 1) (v := y1 + (1 : Int32)) F dX7_digest_53 rfl rfl (by decide) (fun _ => rfl) (fun x53 => ?_)
      refine r_goto (tgt := 33) F dX7_digest_56 (by decide) ?_
      refine r_sub [1, 0] rfl ?_
      exact ih x53 M50

def f_X7_digest_9 : Nat → Int32 → Mem → Option (Int64 × Mem)
  | 0, _, _ => none
  | n + 1, y1, M => if (11 : Int32) ≤ y1 then (f_X7_digest_33  FU (0 : Int32) M) else (bn (f_X7_countOf y1 M) fun r18 M18 => bn (f_X7_add ((r18).toInt64) M18) fun _ M22 => bnd (y1 + (1 : Int32)) fun x25 => f_X7_digest_9  n x25 M22)

set_option maxRecDepth 100000 in
set_option maxHeartbeats 4000000 in
theorem l_X7_digest_9 {G : GM} {p : Program} {l : Launch} {e : Env} {s : State} {m : MethodId} {args : Array Value} {below : List Frame} {meth : Method} {c : Code} (F : Fx G p l s m args meth c cX7_digest RX7 2 (some .long)) : ∀ (n : Nat) (y1 : Int32) (M : Mem), Rf G p l e s m args below meth c 12 2 emL (f_X7_digest_9  n y1 M) 9 [(0, .ref (gA G 24)), (1, .int y1)] [] M := by
  intro n
  induction n with
  | zero => intros; exact r_none
  | succ n ih =>
    intro y1 M
    rw [f_X7_digest_9]
    refine r_iload_n F 1 dX7_digest_9 rfl rfl ?_
    refine r_bipush F dX7_digest_10 (v := 11) (by decide) ?_
    refine r_icmp_ge (tgt := 31) F dX7_digest_12 (by decide) (fun c1 => ?_) (fun c1 => ?_)
    · refine r_iconst F dX7_digest_31 (v := 0) (by decide) ?_
      refine r_istore_n (ls' := [(1, .int (0 : Int32)), (0, .ref (gA G 24))]) F dX7_digest_32 rfl (by decide) rfl ?_
      refine r_sub [1, 0] rfl ?_
      exact l_X7_digest_33 F   FU (0 : Int32) M
    · refine r_aload_n F 0 dX7_digest_15 rfl rfl ?_
      refine r_aload_n F 0 dX7_digest_16 rfl rfl ?_
      refine r_iload_n F 1 dX7_digest_17 rfl rfl ?_
      refine r_cV (val := vI) (As := [.int y1]) (rest := [.ref (gA G 24)]) (fun q9 => .int q9 :: [.ref (gA G 24)]) F (c_X7_countOf F.st F.gg y1 M) (fun _ _ => rfl) dX7_digest_18 ml_X7_193 yv_X7_countOf (rfl : kd 24 = 7) (by decide) rfl rfl (by decide) rfl (Nat.le_of_ble_eq_true rfl) (fun _ => rfl) (fun r18 M18 => ?_)
      refine r_i2l F dX7_digest_21 ?_
      refine r_cV (val := vU) (As := [.long ((r18).toInt64)]) (rest := []) (fun _ => []) F (c_X7_add F.st F.gg ((r18).toInt64) M18) (fun _ _ => rfl) dX7_digest_22 ml_X7_214 yv_X7_add (rfl : kd 24 = 7) (by decide) rfl rfl (by decide) rfl (Nat.le_of_ble_eq_true rfl) (fun _ => rfl) (fun _ M22 => ?_)
      refine r_iinc (ls' := fun q9 => [(1, .int q9), (0, .ref (gA G 24))]) (k := 1) (v := y1 + (1 : Int32)) F dX7_digest_25 rfl rfl (by decide) (fun _ => rfl) (fun x25 => ?_)
      refine r_goto (tgt := 9) F dX7_digest_28 (by decide) ?_
      refine r_sub [1, 0] rfl ?_
      exact ih x25 M22

def f_X7_digest  (M : Mem) : Option (Int64 × Mem) := bnd (ml M 0 (2357 : Int64)) fun M4 => f_X7_digest_9  FU (0 : Int32) M4

set_option maxRecDepth 100000 in
set_option maxHeartbeats 4000000 in
theorem b_X7_digest {G : GM} {p : Program} {l : Launch} {e : Env} {s : State} {m : MethodId} {args : Array Value} {below : List Frame} {meth : Method} {c : Code} (F : Fx G p l s m args meth c cX7_digest RX7 2 (some .long))  (M : Mem) : Rf G p l e s m args below meth c 12 2 emL (f_X7_digest  M) 0 [(0, .ref (gA G 24))] [] M := by
  unfold f_X7_digest
  refine r_aload_n F 0 dX7_digest_0 rfl rfl ?_
  refine r_ldc2 F dX7_digest_1 kc_X7_218 ?_
  refine pf_X7_210 F dX7_digest_4 (rfl : kd 24 = 7) (fun M4 => ?_)
  refine r_iconst F dX7_digest_7 (v := 0) (by decide) ?_
  refine r_istore_n (ls' := [(1, .int (0 : Int32)), (0, .ref (gA G 24))]) F dX7_digest_8 rfl (by decide) rfl ?_
  refine r_sub [1, 0] rfl ?_
  exact l_X7_digest_9 F   FU (0 : Int32) M4

set_option maxRecDepth 100000 in
set_option maxHeartbeats 4000000 in
theorem c_X7_digest {l : Launch} {G : GM} (hl : l.stackTraces = false) (hG : GG G)  (M : Mem) : ∀ r, f_X7_digest  M = some r → Ctr l G yX7_digest (.code yX7_digest cX7_digest 2 (some .long) :: wsA) 12 [.ref (gA G 24)] M (emL r) :=
  ctr_of (by decide) hl hG (Nat.le_of_ble_eq_true rfl) (fun p e s m args below meth c F => b_X7_digest F  M)

-- ===== X7_goesOn DrumTownsModel.goesOn(I)Z =====
theorem yv_X7_goesOn : yV yX7_goesOn cX7_goesOn 2 (some .boolean) 1 := ⟨im_X7_goesOn, sl_X7_goesOn, ini_X7, cd_X7_goesOn, ⟨by decide, by decide, by decide +kernel⟩, by decide⟩

def f_X7_goesOn_56 (z0 : Int32) (M : Mem) : Option (Int32 × Mem) := chk (isb z0) <| some (z0, M)

set_option maxRecDepth 100000 in
set_option maxHeartbeats 4000000 in
theorem l_X7_goesOn_56 {G : GM} {p : Program} {l : Launch} {e : Env} {s : State} {m : MethodId} {args : Array Value} {below : List Frame} {meth : Method} {c : Code} (F : Fx G p l s m args meth c cX7_goesOn RX7 2 (some .boolean)) (z0 : Int32) (M : Mem) : Rf G p l e s m args below meth c 7 2 emI (f_X7_goesOn_56  z0 M) 56 [] [.int z0] M := by
  unfold f_X7_goesOn_56
  refine r_chk (fun h1 => ?_)
  exact r_zret F rfl dX7_goesOn_56 rfl (isb_or h1)

def f_X7_goesOn_40 (z1 : Int32) (z2 : Int32) (M : Mem) : Option (Int32 × Mem) := bnd (mw M 24 15 (z1 + z2)) fun M41 => if (M41.1 24 16) = 0 then (f_X7_goesOn_56  (1 : Int32) M41) else (f_X7_goesOn_56  (0 : Int32) M41)

set_option maxRecDepth 100000 in
set_option maxHeartbeats 4000000 in
theorem l_X7_goesOn_40 {G : GM} {p : Program} {l : Launch} {e : Env} {s : State} {m : MethodId} {args : Array Value} {below : List Frame} {meth : Method} {c : Code} (F : Fx G p l s m args meth c cX7_goesOn RX7 2 (some .boolean)) (z1 : Int32) (z2 : Int32) (M : Mem) : Rf G p l e s m args below meth c 7 2 emI (f_X7_goesOn_40  z1 z2 M) 40 [(0, .ref (gA G 24))] [.int z2, .int z1, .ref (gA G 24)] M := by
  unfold f_X7_goesOn_40
  refine r_iadd F dX7_goesOn_40 ?_
  refine pf_X7_152 F dX7_goesOn_41 (rfl : kd 24 = 7) (fun M41 => ?_)
  refine r_aload_n F 0 dX7_goesOn_44 rfl rfl ?_
  refine gf_X7_155 F dX7_goesOn_45 (rfl : kd 24 = 7) ?_
  refine r_if_ne (tgt := 55) F dX7_goesOn_48 (by decide) (fun c1 => ?_) (fun c1 => ?_)
  · refine r_iconst F dX7_goesOn_51 (v := 1) (by decide) ?_
    refine r_goto (tgt := 56) F dX7_goesOn_52 (by decide) ?_
    refine r_sub [] rfl ?_
    exact l_X7_goesOn_56 F   (1 : Int32) M41
  · refine r_iconst F dX7_goesOn_55 (v := 0) (by decide) ?_
    refine r_sub [] rfl ?_
    exact l_X7_goesOn_56 F   (0 : Int32) M41

def f_X7_goesOn_20 (z1 : Int32) (M : Mem) : Option (Int32 × Mem) := chk (isb z1) <| bnd (mw M 24 16 z1) fun M20 => if (M20.1 24 16) = 0 then (f_X7_goesOn_40  (M20.1 24 15) (1 : Int32) M20) else (f_X7_goesOn_40  (M20.1 24 15) (0 : Int32) M20)

set_option maxRecDepth 100000 in
set_option maxHeartbeats 4000000 in
theorem l_X7_goesOn_20 {G : GM} {p : Program} {l : Launch} {e : Env} {s : State} {m : MethodId} {args : Array Value} {below : List Frame} {meth : Method} {c : Code} (F : Fx G p l s m args meth c cX7_goesOn RX7 2 (some .boolean)) (z1 : Int32) (M : Mem) : Rf G p l e s m args below meth c 7 2 emI (f_X7_goesOn_20  z1 M) 20 [(0, .ref (gA G 24))] [.int z1, .ref (gA G 24)] M := by
  unfold f_X7_goesOn_20
  refine r_chk (fun h1 => ?_)
  refine pf_X7_155 F dX7_goesOn_20 (rfl : kd 24 = 7) h1 (fun M20 => ?_)
  refine r_aload_n F 0 dX7_goesOn_23 rfl rfl ?_
  refine r_dup F dX7_goesOn_24 rfl ?_
  refine gf_X7_152 F dX7_goesOn_25 (rfl : kd 24 = 7) ?_
  refine r_aload_n F 0 dX7_goesOn_28 rfl rfl ?_
  refine gf_X7_155 F dX7_goesOn_29 (rfl : kd 24 = 7) ?_
  refine r_if_eq (tgt := 39) F dX7_goesOn_32 (by decide) (fun c2 => ?_) (fun c2 => ?_)
  · refine r_iconst F dX7_goesOn_39 (v := 1) (by decide) ?_
    refine r_sub [0] rfl ?_
    exact l_X7_goesOn_40 F   (M20.1 24 15) (1 : Int32) M20
  · refine r_iconst F dX7_goesOn_35 (v := 0) (by decide) ?_
    refine r_goto (tgt := 40) F dX7_goesOn_36 (by decide) ?_
    refine r_sub [0] rfl ?_
    exact l_X7_goesOn_40 F   (M20.1 24 15) (0 : Int32) M20

def f_X7_goesOn_91  (M : Mem) : Option (Int32 × Mem) := some ((0 : Int32), M)

set_option maxRecDepth 100000 in
set_option maxHeartbeats 4000000 in
theorem l_X7_goesOn_91 {G : GM} {p : Program} {l : Launch} {e : Env} {s : State} {m : MethodId} {args : Array Value} {below : List Frame} {meth : Method} {c : Code} (F : Fx G p l s m args meth c cX7_goesOn RX7 2 (some .boolean))  (M : Mem) : Rf G p l e s m args below meth c 7 2 emI (f_X7_goesOn_91   M) 91 [] [] M := by
  unfold f_X7_goesOn_91
  refine r_iconst F dX7_goesOn_91 (v := 0) (by decide) ?_
  exact r_zret F rfl dX7_goesOn_92 rfl (by decide)

def f_X7_goesOn_74 (y1 : Int32) (z0 : Int32) (z1 : Int32) (z2 : Int32) (M : Mem) : Option (Int32 × Mem) := bn (f_X7_in z0 z1 z2 M) fun r74 M74 => if r74 = 0 then (f_X7_goesOn_91   M74) else (if (M74.1 24 17) < (y1 - (97 : Int32)) then (bnd (mw M74 24 17 (y1 - (97 : Int32))) fun M98 => bnd (mw M98 24 18 ((M98.1 24 18) + (1 : Int32))) fun M108 => chk (inb (M108.1 24 15) 24) <| chk (inb (M108.1 24 15) 24) <| bnd (mw M108 30 (M108.1 24 15).toNatClampNeg ((M108.1 30 (M108.1 24 15).toNatClampNeg) ||| ((1 : Int32) <<< ((M108.1 24 17) &&& 31)))) fun M128 => some ((1 : Int32), M128)) else (f_X7_goesOn_91   M74))

set_option maxRecDepth 100000 in
set_option maxHeartbeats 4000000 in
theorem l_X7_goesOn_74 {G : GM} {p : Program} {l : Launch} {e : Env} {s : State} {m : MethodId} {args : Array Value} {below : List Frame} {meth : Method} {c : Code} (F : Fx G p l s m args meth c cX7_goesOn RX7 2 (some .boolean)) (y1 : Int32) (z0 : Int32) (z1 : Int32) (z2 : Int32) (M : Mem) : Rf G p l e s m args below meth c 7 2 emI (f_X7_goesOn_74  y1 z0 z1 z2 M) 74 [(0, .ref (gA G 24)), (1, .int y1)] [.int z2, .int z1, .int z0] M := by
  unfold f_X7_goesOn_74
  refine r_cS (val := vI) (As := [.int z0, .int z1, .int z2]) (rest := []) (fun q9 => .int q9 :: []) F (c_X7_in F.st F.gg z0 z1 z2 M) (fun _ _ => rfl) dX7_goesOn_74 ml_X7_41 ys_X7_in rfl (by decide) rfl (Nat.le_of_ble_eq_true rfl) (fun _ => rfl) (fun r74 M74 => ?_)
  refine r_if_eq (tgt := 91) F dX7_goesOn_77 (by decide) (fun c1 => ?_) (fun c1 => ?_)
  · refine r_sub [] rfl ?_
    exact l_X7_goesOn_91 F    M74
  · refine r_iload_n F 1 dX7_goesOn_80 rfl rfl ?_
    refine r_bipush F dX7_goesOn_81 (v := 97) (by decide) ?_
    refine r_isub F dX7_goesOn_83 ?_
    refine r_aload_n F 0 dX7_goesOn_84 rfl rfl ?_
    refine gf_X7_159 F dX7_goesOn_85 (rfl : kd 24 = 7) ?_
    refine r_icmp_gt (tgt := 93) F dX7_goesOn_88 (by decide) (fun c2 => ?_) (fun c2 => ?_)
    · refine r_aload_n F 0 dX7_goesOn_93 rfl rfl ?_
      refine r_iload_n F 1 dX7_goesOn_94 rfl rfl ?_
      refine r_bipush F dX7_goesOn_95 (v := 97) (by decide) ?_
      refine r_isub F dX7_goesOn_97 ?_
      refine pf_X7_159 F dX7_goesOn_98 (rfl : kd 24 = 7) (fun M98 => ?_)
      refine r_aload_n F 0 dX7_goesOn_101 rfl rfl ?_
      refine r_dup F dX7_goesOn_102 rfl ?_
      refine gf_X7_162 F dX7_goesOn_103 (rfl : kd 24 = 7) ?_
      refine r_iconst F dX7_goesOn_106 (v := 1) (by decide) ?_
      refine r_iadd F dX7_goesOn_107 ?_
      refine pf_X7_162 F dX7_goesOn_108 (rfl : kd 24 = 7) (fun M108 => ?_)
      refine r_aload_n F 0 dX7_goesOn_111 rfl rfl ?_
      refine gf_X7_25 F dX7_goesOn_112 (rfl : kd 24 = 7) ?_
      refine r_aload_n F 0 dX7_goesOn_115 rfl rfl ?_
      refine gf_X7_152 F dX7_goesOn_116 (rfl : kd 24 = 7) ?_
      refine r_dup2 F dX7_goesOn_119 rfl rfl ?_
      refine r_chk (fun h3 => ?_)
      refine r_iald F dX7_goesOn_120 (rfl : kd 30 = 8) (rfl : al 30 = 24) h3 ?_
      refine r_iconst F dX7_goesOn_121 (v := 1) (by decide) ?_
      refine r_aload_n F 0 dX7_goesOn_122 rfl rfl ?_
      refine gf_X7_159 F dX7_goesOn_123 (rfl : kd 24 = 7) ?_
      refine r_ishl F dX7_goesOn_126 ?_
      refine r_ior F dX7_goesOn_127 ?_
      refine r_chk (fun h4 => ?_)
      refine r_iast F dX7_goesOn_128 (rfl : kd 30 = 8) (rfl : al 30 = 24) h4 (fun M128 => ?_)
      refine r_iconst F dX7_goesOn_129 (v := 1) (by decide) ?_
      exact r_zret F rfl dX7_goesOn_130 rfl (by decide)
    · refine r_sub [] rfl ?_
      exact l_X7_goesOn_91 F    M74

def f_X7_goesOn (a1 : Int32) (M : Mem) : Option (Int32 × Mem) := if a1 = (41 : Int32) then (if (2 : Int32) ≤ (M.1 24 18) then (f_X7_goesOn_20  (0 : Int32) M) else (f_X7_goesOn_20  (1 : Int32) M)) else (if (M.1 24 18) = 0 then (f_X7_goesOn_74  a1 a1 (97 : Int32) (107 : Int32) M) else (f_X7_goesOn_74  a1 a1 (97 : Int32) (108 : Int32) M))

set_option maxRecDepth 100000 in
set_option maxHeartbeats 4000000 in
theorem b_X7_goesOn {G : GM} {p : Program} {l : Launch} {e : Env} {s : State} {m : MethodId} {args : Array Value} {below : List Frame} {meth : Method} {c : Code} (F : Fx G p l s m args meth c cX7_goesOn RX7 2 (some .boolean)) (a1 : Int32) (M : Mem) : Rf G p l e s m args below meth c 7 2 emI (f_X7_goesOn a1 M) 0 [(0, .ref (gA G 24)), (1, .int a1)] [] M := by
  unfold f_X7_goesOn
  refine r_iload_n F 1 dX7_goesOn_0 rfl rfl ?_
  refine r_bipush F dX7_goesOn_1 (v := 41) (by decide) ?_
  refine r_icmp_ne (tgt := 57) F dX7_goesOn_3 (by decide) (fun c1 => ?_) (fun c1 => ?_)
  · refine r_aload_n F 0 dX7_goesOn_6 rfl rfl ?_
    refine r_aload_n F 0 dX7_goesOn_7 rfl rfl ?_
    refine gf_X7_162 F dX7_goesOn_8 (rfl : kd 24 = 7) ?_
    refine r_iconst F dX7_goesOn_11 (v := 2) (by decide) ?_
    refine r_icmp_ge (tgt := 19) F dX7_goesOn_12 (by decide) (fun c2 => ?_) (fun c2 => ?_)
    · refine r_iconst F dX7_goesOn_19 (v := 0) (by decide) ?_
      refine r_sub [0] rfl ?_
      exact l_X7_goesOn_20 F   (0 : Int32) M
    · refine r_iconst F dX7_goesOn_15 (v := 1) (by decide) ?_
      refine r_goto (tgt := 20) F dX7_goesOn_16 (by decide) ?_
      refine r_sub [0] rfl ?_
      exact l_X7_goesOn_20 F   (1 : Int32) M
  · refine r_iload_n F 1 dX7_goesOn_57 rfl rfl ?_
    refine r_bipush F dX7_goesOn_58 (v := 97) (by decide) ?_
    refine r_aload_n F 0 dX7_goesOn_60 rfl rfl ?_
    refine gf_X7_162 F dX7_goesOn_61 (rfl : kd 24 = 7) ?_
    refine r_if_ne (tgt := 72) F dX7_goesOn_64 (by decide) (fun c3 => ?_) (fun c3 => ?_)
    · refine r_bipush F dX7_goesOn_67 (v := 107) (by decide) ?_
      refine r_goto (tgt := 74) F dX7_goesOn_69 (by decide) ?_
      refine r_sub [0, 1] rfl ?_
      exact l_X7_goesOn_74 F   a1 a1 (97 : Int32) (107 : Int32) M
    · refine r_bipush F dX7_goesOn_72 (v := 108) (by decide) ?_
      refine r_sub [0, 1] rfl ?_
      exact l_X7_goesOn_74 F   a1 a1 (97 : Int32) (108 : Int32) M

set_option maxRecDepth 100000 in
set_option maxHeartbeats 4000000 in
theorem c_X7_goesOn {l : Launch} {G : GM} (hl : l.stackTraces = false) (hG : GG G) (a1 : Int32) (M : Mem) : ∀ r, f_X7_goesOn a1 M = some r → Ctr l G yX7_goesOn (.code yX7_goesOn cX7_goesOn 2 (some .boolean) :: wsA) 7 [.ref (gA G 24), .int a1] M (emI r) :=
  ctr_of (by decide) hl hG (Nat.le_of_ble_eq_true rfl) (fun p e s m args below meth c F => b_X7_goesOn F a1 M)

