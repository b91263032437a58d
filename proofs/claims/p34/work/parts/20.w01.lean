-- ===== X0_pinsInBoxes DrumTowns$Land.pinsInBoxes()I =====
theorem yv_X0_pinsInBoxes : yV yX0_pinsInBoxes cX0_pinsInBoxes 3 (some .int) 0 := ⟨im_X0_pinsInBoxes, sl_X0_pinsInBoxes, ini_X0, cd_X0_pinsInBoxes, ⟨by decide, by decide, by decide +kernel⟩, by decide⟩

def f_X0_pinsInBoxes_4 : Nat → Nat → Int32 → Int32 → Mem → Option (Int32 × Mem)
  | 0, _, _, _, _ => none
  | n + 1, y0, y1, y2, M => chk (kb y0 1) <| if (M.1 y0 1) ≤ y2 then (some (y1, M)) else (chk (inb y2 6) <| bnd (tw (y0 + 1) y2) fun b18 => bnd (y1 + (M.1 b18 0)) fun x23 => bnd (y2 + (1 : Int32)) fun x24 => f_X0_pinsInBoxes_4  n y0 x23 x24 M)

set_option maxRecDepth 100000 in
set_option maxHeartbeats 4000000 in
theorem l_X0_pinsInBoxes_4 {G : GM} {p : Program} {l : Launch} {e : Env} {s : State} {m : MethodId} {args : Array Value} {below : List Frame} {meth : Method} {c : Code} (F : Fx G p l s m args meth c cX0_pinsInBoxes RX0 3 (some .int)) : ∀ (n : Nat) (y0 : Nat) (y1 : Int32) (y2 : Int32) (M : Mem), Rf G p l e s m args below meth c 6 3 emI (f_X0_pinsInBoxes_4  n y0 y1 y2 M) 4 [(0, .ref (gA G y0)), (1, .int y1), (2, .int y2)] [] M := by
  intro n
  induction n with
  | zero => intros; exact r_none
  | succ n ih =>
    intro y0 y1 y2 M
    rw [f_X0_pinsInBoxes_4]
    refine r_iload_n F 2 dX0_pinsInBoxes_4 rfl rfl ?_
    refine r_aload_n F 0 dX0_pinsInBoxes_5 rfl rfl ?_
    refine r_chk (fun h1 => ?_)
    refine gf_X0_38 F dX0_pinsInBoxes_6 (kb_k h1) ?_
    refine r_icmp_ge (tgt := 30) F dX0_pinsInBoxes_9 (by decide) (fun c2 => ?_) (fun c2 => ?_)
    · refine r_iload_n F 1 dX0_pinsInBoxes_30 rfl rfl ?_
      exact r_iret F rfl dX0_pinsInBoxes_31 rfl
    · refine r_iload_n F 1 dX0_pinsInBoxes_12 rfl rfl ?_
      refine r_aload_n F 0 dX0_pinsInBoxes_13 rfl rfl ?_
      refine gf_X0_11 F dX0_pinsInBoxes_14 (kb_k h1) ?_
      refine r_iload_n F 2 dX0_pinsInBoxes_17 rfl rfl ?_
      refine r_chk (fun h3 => ?_)
      refine r_aaldT F dX0_pinsInBoxes_18 (kLs (kb_k h1)) h3 ?_
      refine r_br (kTw' (kLs (kb_k h1)) h3) (fun b18 k18 => ?_)
      refine gf_X0_54 F dX0_pinsInBoxes_19 k18 ?_
      refine r_iadd F dX0_pinsInBoxes_22 ?_
      refine r_bi (fun x23 => ?_)
      refine r_istore_n (ls' := [(1, .int x23), (0, .ref (gA G y0)), (2, .int y2)]) F dX0_pinsInBoxes_23 rfl (by decide) rfl ?_
      refine r_iinc (ls' := fun q9 => [(2, .int q9), (1, .int x23), (0, .ref (gA G y0))]) (k := 2) (v := y2 + (1 : Int32)) F dX0_pinsInBoxes_24 rfl rfl (by decide) (fun _ => rfl) (fun x24 => ?_)
      refine r_goto (tgt := 4) F dX0_pinsInBoxes_27 (by decide) ?_
      refine r_sub [2, 1, 0] rfl ?_
      exact ih y0 x23 x24 M

def f_X0_pinsInBoxes (a0 : Nat) (M : Mem) : Option (Int32 × Mem) := f_X0_pinsInBoxes_4  FU a0 (0 : Int32) (0 : Int32) M

set_option maxRecDepth 100000 in
set_option maxHeartbeats 4000000 in
theorem b_X0_pinsInBoxes {G : GM} {p : Program} {l : Launch} {e : Env} {s : State} {m : MethodId} {args : Array Value} {below : List Frame} {meth : Method} {c : Code} (F : Fx G p l s m args meth c cX0_pinsInBoxes RX0 3 (some .int)) (a0 : Nat) (M : Mem) : Rf G p l e s m args below meth c 6 3 emI (f_X0_pinsInBoxes a0 M) 0 [(0, .ref (gA G a0))] [] M := by
  unfold f_X0_pinsInBoxes
  refine r_iconst F dX0_pinsInBoxes_0 (v := 0) (by decide) ?_
  refine r_istore_n (ls' := [(1, .int (0 : Int32)), (0, .ref (gA G a0))]) F dX0_pinsInBoxes_1 rfl (by decide) rfl ?_
  refine r_iconst F dX0_pinsInBoxes_2 (v := 0) (by decide) ?_
  refine r_istore_n (ls' := [(2, .int (0 : Int32)), (1, .int (0 : Int32)), (0, .ref (gA G a0))]) F dX0_pinsInBoxes_3 rfl (by decide) rfl ?_
  refine r_sub [2, 1, 0] rfl ?_
  exact l_X0_pinsInBoxes_4 F   FU a0 (0 : Int32) (0 : Int32) M

set_option maxRecDepth 100000 in
set_option maxHeartbeats 4000000 in
theorem c_X0_pinsInBoxes {l : Launch} {G : GM} (hl : l.stackTraces = false) (hG : GG G) (a0 : Nat) (M : Mem) : ∀ r, f_X0_pinsInBoxes a0 M = some r → Ctr l G yX0_pinsInBoxes (.code yX0_pinsInBoxes cX0_pinsInBoxes 3 (some .int) :: wsA) 6 [.ref (gA G a0)] M (emI r) :=
  ctr_of (by decide) hl hG (Nat.le_of_ble_eq_true rfl) (fun p e s m args below meth c F => b_X0_pinsInBoxes F a0 M)

-- ===== X6_sizeOf DrumTowns.sizeOf([I)I =====
theorem ys_X6_sizeOf : yS yX6_sizeOf cX6_sizeOf 6 (some .int) 1 := ⟨sc_X6_sizeOf, ini_X6, cd_X6_sizeOf, ⟨by decide, by decide, by decide +kernel⟩, by decide⟩

def f_X6_sizeOf_10 : Nat → Int32 → Nat → Int32 → Int32 → Mem → Option (Int32 × Mem)
  | 0, _, _, _, _, _ => none
  | n + 1, y1, y2, y3, y4, M => if y3 ≤ y4 then (some (y1, M)) else (chk (kb y2 8) <| chk (inb y4 (al y2)) <| bnd (M.1 y2 y4.toNatClampNeg) fun x20 => bn (f_J6_bitCount_0f7a4 x20 M) fun r25 M25 => bnd (y1 + r25) fun x29 => bnd (y4 + (1 : Int32)) fun x30 => f_X6_sizeOf_10  n x29 y2 y3 x30 M25)

set_option maxRecDepth 100000 in
set_option maxHeartbeats 4000000 in
theorem l_X6_sizeOf_10 {G : GM} {p : Program} {l : Launch} {e : Env} {s : State} {m : MethodId} {args : Array Value} {below : List Frame} {meth : Method} {c : Code} (F : Fx G p l s m args meth c cX6_sizeOf RX6 6 (some .int)) : ∀ (n : Nat) (y1 : Int32) (y2 : Nat) (y3 : Int32) (y4 : Int32) (M : Mem), Rf G p l e s m args below meth c 7 6 emI (f_X6_sizeOf_10  n y1 y2 y3 y4 M) 10 [(1, .int y1), (2, .ref (gA G y2)), (3, .int y3), (4, .int y4)] [] M := by
  intro n
  induction n with
  | zero => intros; exact r_none
  | succ n ih =>
    intro y1 y2 y3 y4 M
    rw [f_X6_sizeOf_10]
    refine r_iload F 3 dX6_sizeOf_10 rfl ?_
    refine r_iload_n F 2 dX6_sizeOf_12 rfl rfl ?_
    refine r_icmp_ge (tgt := 36) F dX6_sizeOf_13 (by decide) (fun c1 => ?_) (fun c1 => ?_)
    · refine r_iload_n F 0 dX6_sizeOf_36 rfl rfl ?_
      exact r_iret F rfl dX6_sizeOf_37 rfl
    · refine r_aload_n F 1 dX6_sizeOf_16 rfl rfl ?_
      refine r_iload F 3 dX6_sizeOf_17 rfl ?_
      refine r_chk (fun h2 => ?_)
      refine r_chk (fun h3 => ?_)
      refine r_iald F dX6_sizeOf_19 (kb_k h2) rfl h3 ?_
      refine r_bi (fun x20 => ?_)
      refine r_istore (ls' := [(5, .int x20), (1, .int y1), (2, .ref (gA G y2)), (3, .int y3), (4, .int y4)]) F dX6_sizeOf_20 (by decide) rfl ?_
      refine r_iload_n F 1 dX6_sizeOf_22 rfl rfl ?_
      refine r_iload F 0 dX6_sizeOf_23 rfl ?_
      refine r_cS (val := vI) (As := [.int x20]) (rest := [.int y1]) (fun q9 => .int q9 :: [.int y1]) F (c_J6_bitCount_0f7a4 F.st F.gg x20 M) (fun _ _ => rfl) dX6_sizeOf_25 ml_X6_386 ys_J6_bitCount_0f7a4 rfl (by decide) rfl (Nat.le_of_ble_eq_true rfl) (fun _ => rfl) (fun r25 M25 => ?_)
      refine r_iadd F dX6_sizeOf_28 ?_
      refine r_bi (fun x29 => ?_)
      refine r_istore_n (ls' := [(1, .int x29), (5, .int x20), (2, .ref (gA G y2)), (3, .int y3), (4, .int y4)]) F dX6_sizeOf_29 rfl (by decide) rfl ?_
      refine r_iinc (ls' := fun q9 => [(4, .int q9), (1, .int x29), (5, .int x20), (2, .ref (gA G y2)), (3, .int y3)]) (k := 4) (v := y4 + (1 : Int32)) F dX6_sizeOf_30 rfl rfl (by decide) (fun _ => rfl) (fun x30 => ?_)
      refine r_goto (tgt := 10) F dX6_sizeOf_33 (by decide) ?_
      refine r_sub [1, 3, 4, 0] rfl ?_
      exact ih x29 y2 y3 x30 M25

def f_X6_sizeOf (a0 : Nat) (M : Mem) : Option (Int32 × Mem) := chk (kb a0 8) <| bnd (Int32.ofNat (al a0)) fun x6 => f_X6_sizeOf_10  FU (0 : Int32) a0 x6 (0 : Int32) M

set_option maxRecDepth 100000 in
set_option maxHeartbeats 4000000 in
theorem b_X6_sizeOf {G : GM} {p : Program} {l : Launch} {e : Env} {s : State} {m : MethodId} {args : Array Value} {below : List Frame} {meth : Method} {c : Code} (F : Fx G p l s m args meth c cX6_sizeOf RX6 6 (some .int)) (a0 : Nat) (M : Mem) : Rf G p l e s m args below meth c 7 6 emI (f_X6_sizeOf a0 M) 0 [(0, .ref (gA G a0))] [] M := by
  unfold f_X6_sizeOf
  refine r_iconst F dX6_sizeOf_0 (v := 0) (by decide) ?_
  refine r_istore_n (ls' := [(1, .int (0 : Int32)), (0, .ref (gA G a0))]) F dX6_sizeOf_1 rfl (by decide) rfl ?_
  refine r_aload_n F 1 dX6_sizeOf_2 rfl rfl ?_
  refine r_astore_n (ls' := [(2, .ref (gA G a0)), (1, .int (0 : Int32)), (0, .ref (gA G a0))]) F dX6_sizeOf_3 rfl (by decide) rfl ?_
  refine r_aload_n F 0 dX6_sizeOf_4 rfl rfl ?_
  refine r_chk (fun h1 => ?_)
  refine r_alen F dX6_sizeOf_5 (kb_k h1) rfl rfl ?_
  refine r_bi (fun x6 => ?_)
  refine r_istore_n (ls' := [(3, .int x6), (2, .ref (gA G a0)), (1, .int (0 : Int32)), (0, .ref (gA G a0))]) F dX6_sizeOf_6 rfl (by decide) rfl ?_
  refine r_iconst F dX6_sizeOf_7 (v := 0) (by decide) ?_
  refine r_istore (ls' := [(4, .int (0 : Int32)), (3, .int x6), (2, .ref (gA G a0)), (1, .int (0 : Int32)), (0, .ref (gA G a0))]) F dX6_sizeOf_8 (by decide) rfl ?_
  refine r_sub [3, 2, 1, 0] rfl ?_
  exact l_X6_sizeOf_10 F   FU (0 : Int32) a0 x6 (0 : Int32) M

set_option maxRecDepth 100000 in
set_option maxHeartbeats 4000000 in
theorem c_X6_sizeOf {l : Launch} {G : GM} (hl : l.stackTraces = false) (hG : GG G) (a0 : Nat) (M : Mem) : ∀ r, f_X6_sizeOf a0 M = some r → Ctr l G yX6_sizeOf (.code yX6_sizeOf cX6_sizeOf 6 (some .int) :: wsA) 7 [.ref (gA G a0)] M (emI r) :=
  ctr_of (by decide) hl hG (Nat.le_of_ble_eq_true rfl) (fun p e s m args below meth c F => b_X6_sizeOf F a0 M)

-- ===== X0_pinsInDrums DrumTowns$Land.pinsInDrums()I =====
theorem yv_X0_pinsInDrums : yV yX0_pinsInDrums cX0_pinsInDrums 3 (some .int) 0 := ⟨im_X0_pinsInDrums, sl_X0_pinsInDrums, ini_X0, cd_X0_pinsInDrums, ⟨by decide, by decide, by decide +kernel⟩, by decide⟩

def f_X0_pinsInDrums_4 : Nat → Nat → Int32 → Int32 → Mem → Option (Int32 × Mem)
  | 0, _, _, _, _ => none
  | n + 1, y0, y1, y2, M => chk (kb y0 1) <| if (M.1 y0 1) ≤ y2 then (some (y1, M)) else (chk (inb y2 6) <| bnd (tw (y0 + 1) y2) fun b18 => bn (f_X6_sizeOf (b18 + 1) M) fun r22 M22 => bnd (y1 + r22) fun x26 => bnd (y2 + (1 : Int32)) fun x27 => f_X0_pinsInDrums_4  n y0 x26 x27 M22)

set_option maxRecDepth 100000 in
set_option maxHeartbeats 4000000 in
theorem l_X0_pinsInDrums_4 {G : GM} {p : Program} {l : Launch} {e : Env} {s : State} {m : MethodId} {args : Array Value} {below : List Frame} {meth : Method} {c : Code} (F : Fx G p l s m args meth c cX0_pinsInDrums RX0 3 (some .int)) : ∀ (n : Nat) (y0 : Nat) (y1 : Int32) (y2 : Int32) (M : Mem), Rf G p l e s m args below meth c 8 3 emI (f_X0_pinsInDrums_4  n y0 y1 y2 M) 4 [(0, .ref (gA G y0)), (1, .int y1), (2, .int y2)] [] M := by
  intro n
  induction n with
  | zero => intros; exact r_none
  | succ n ih =>
    intro y0 y1 y2 M
    rw [f_X0_pinsInDrums_4]
    refine r_iload_n F 2 dX0_pinsInDrums_4 rfl rfl ?_
    refine r_aload_n F 0 dX0_pinsInDrums_5 rfl rfl ?_
    refine r_chk (fun h1 => ?_)
    refine gf_X0_38 F dX0_pinsInDrums_6 (kb_k h1) ?_
    refine r_icmp_ge (tgt := 33) F dX0_pinsInDrums_9 (by decide) (fun c2 => ?_) (fun c2 => ?_)
    · refine r_iload_n F 1 dX0_pinsInDrums_33 rfl rfl ?_
      exact r_iret F rfl dX0_pinsInDrums_34 rfl
    · refine r_iload_n F 1 dX0_pinsInDrums_12 rfl rfl ?_
      refine r_aload_n F 0 dX0_pinsInDrums_13 rfl rfl ?_
      refine gf_X0_11 F dX0_pinsInDrums_14 (kb_k h1) ?_
      refine r_iload_n F 2 dX0_pinsInDrums_17 rfl rfl ?_
      refine r_chk (fun h3 => ?_)
      refine r_aaldT F dX0_pinsInDrums_18 (kLs (kb_k h1)) h3 ?_
      refine r_br (kTw' (kLs (kb_k h1)) h3) (fun b18 k18 => ?_)
      refine gf_X0_75 F dX0_pinsInDrums_19 k18 ?_
      refine r_cSN (val := vI) (As := [.ref (gA G (b18 + 1))]) (rest := [.int y1]) (fun q9 => .int q9 :: [.int y1]) F (c_X6_sizeOf F.st F.gg (b18 + 1) M) (fun _ _ => rfl) dX0_pinsInDrums_22 mn_X0_78 ys_X6_sizeOf rfl (by decide) rfl (Nat.le_of_ble_eq_true rfl) (fun _ => rfl) (fun r22 M22 => ?_)
      refine r_iadd F dX0_pinsInDrums_25 ?_
      refine r_bi (fun x26 => ?_)
      refine r_istore_n (ls' := [(1, .int x26), (0, .ref (gA G y0)), (2, .int y2)]) F dX0_pinsInDrums_26 rfl (by decide) rfl ?_
      refine r_iinc (ls' := fun q9 => [(2, .int q9), (1, .int x26), (0, .ref (gA G y0))]) (k := 2) (v := y2 + (1 : Int32)) F dX0_pinsInDrums_27 rfl rfl (by decide) (fun _ => rfl) (fun x27 => ?_)
      refine r_goto (tgt := 4) F dX0_pinsInDrums_30 (by decide) ?_
      refine r_sub [2, 1, 0] rfl ?_
      exact ih y0 x26 x27 M22

def f_X0_pinsInDrums (a0 : Nat) (M : Mem) : Option (Int32 × Mem) := f_X0_pinsInDrums_4  FU a0 (0 : Int32) (0 : Int32) M

set_option maxRecDepth 100000 in
set_option maxHeartbeats 4000000 in
theorem b_X0_pinsInDrums {G : GM} {p : Program} {l : Launch} {e : Env} {s : State} {m : MethodId} {args : Array Value} {below : List Frame} {meth : Method} {c : Code} (F : Fx G p l s m args meth c cX0_pinsInDrums RX0 3 (some .int)) (a0 : Nat) (M : Mem) : Rf G p l e s m args below meth c 8 3 emI (f_X0_pinsInDrums a0 M) 0 [(0, .ref (gA G a0))] [] M := by
  unfold f_X0_pinsInDrums
  refine r_iconst F dX0_pinsInDrums_0 (v := 0) (by decide) ?_
  refine r_istore_n (ls' := [(1, .int (0 : Int32)), (0, .ref (gA G a0))]) F dX0_pinsInDrums_1 rfl (by decide) rfl ?_
  refine r_iconst F dX0_pinsInDrums_2 (v := 0) (by decide) ?_
  refine r_istore_n (ls' := [(2, .int (0 : Int32)), (1, .int (0 : Int32)), (0, .ref (gA G a0))]) F dX0_pinsInDrums_3 rfl (by decide) rfl ?_
  refine r_sub [2, 1, 0] rfl ?_
  exact l_X0_pinsInDrums_4 F   FU a0 (0 : Int32) (0 : Int32) M

set_option maxRecDepth 100000 in
set_option maxHeartbeats 4000000 in
theorem c_X0_pinsInDrums {l : Launch} {G : GM} (hl : l.stackTraces = false) (hG : GG G) (a0 : Nat) (M : Mem) : ∀ r, f_X0_pinsInDrums a0 M = some r → Ctr l G yX0_pinsInDrums (.code yX0_pinsInDrums cX0_pinsInDrums 3 (some .int) :: wsA) 8 [.ref (gA G a0)] M (emI r) :=
  ctr_of (by decide) hl hG (Nat.le_of_ble_eq_true rfl) (fun p e s m args below meth c F => b_X0_pinsInDrums F a0 M)

-- ===== X6_count DrumTowns.count(I)I =====
theorem yv_X6_count : yV yX6_count cX6_count 2 (some .int) 1 := ⟨im_X6_count, sl_X6_count, ini_X6, cd_X6_count, ⟨by decide, by decide, by decide +kernel⟩, by decide⟩

def f_X6_count (a1 : Int32) (M : Mem) : Option ((Int32 ⊕ String) × Mem) := if a1 = 0 then (some (.inl (M.1 34 1), M)) else (if a1 = 1 then (bn (f_X0_pinsInBoxes 34 M) fun r72 M72 => bn (f_X0_pinsInDrums 34 M72) fun r79 M79 => some (.inl (r72 + r79), M79)) else (if a1 = 2 then (bn (f_X0_pinsInBoxes 34 M) fun r88 M88 => some (.inl r88, M88)) else (if a1 = 3 then (bn (f_X0_allDebts 34 M) fun r96 M96 => some (.inl r96, M96)) else (if a1 = 4 then (bn (f_X0_owingPairs 34 M) fun r104 M104 => some (.inl r104, M104)) else (if a1 = 5 then (some (.inl (M.1 34 4), M)) else (if a1 = 6 then (some (.inl (M.1 34 5), M)) else (if a1 = 7 then (some (.inl (M.1 34 6), M)) else (if a1 = 8 then (some (.inl (M.1 34 7), M)) else (if a1 = 9 then (bn (f_X0_allRightPins 34 M) fun r144 M144 => some (.inl r144, M144)) else (if a1 = 10 then (some (.inl (M.1 0 2), M)) else (some (.inr exA, M))))))))))))

set_option maxRecDepth 100000 in
set_option maxHeartbeats 4000000 in
theorem b_X6_count {G : GM} {p : Program} {l : Launch} {e : Env} {s : State} {m : MethodId} {args : Array Value} {below : List Frame} {meth : Method} {c : Code} (F : Fx G p l s m args meth c cX6_count RX6 2 (some .int)) (a1 : Int32) (M : Mem) : Rf G p l e s m args below meth c 10 2 (emT vI) (f_X6_count a1 M) 0 [(0, .ref (gA G 0)), (1, .int a1)] [] M := by
  unfold f_X6_count
  refine r_iload_n F 1 dX6_count_0 rfl rfl ?_
  refine r_ite (fun c1 => ?_) (fun c1 => ?_)
  · refine r_tabIn (tgt := 60) F dX6_count_1 c1 (by decide) (by decide) rfl (by decide) ?_
    refine r_aload_n F 0 dX6_count_60 rfl rfl ?_
    refine gf_X6_10 F dX6_count_61 (rfl : kd 0 = 0) ?_
    refine gf_X6_59 F dX6_count_64 (rfl : kd 34 = 1) ?_
    exact r_iret F rfl dX6_count_67 rfl
  refine r_ite (fun c2 => ?_) (fun c2 => ?_)
  · refine r_tabIn (tgt := 68) F dX6_count_1 c2 (by decide) (by decide) rfl (by decide) ?_
    refine r_aload_n F 0 dX6_count_68 rfl rfl ?_
    refine gf_X6_10 F dX6_count_69 (rfl : kd 0 = 0) ?_
    refine r_cVN (val := vI) (As := []) (rest := []) (fun q9 => .int q9 :: []) F (c_X0_pinsInBoxes F.st F.gg 34 M) (fun _ _ => rfl) dX6_count_72 mn_X6_244 yv_X0_pinsInBoxes (rfl : kd 34 = 1) (by decide) rfl rfl (by decide) rfl (Nat.le_of_ble_eq_true rfl) (fun _ => rfl) (fun r72 M72 => ?_)
    refine r_aload_n F 0 dX6_count_75 rfl rfl ?_
    refine gf_X6_10 F dX6_count_76 (rfl : kd 0 = 0) ?_
    refine r_cVN (val := vI) (As := []) (rest := [.int r72]) (fun q9 => .int q9 :: [.int r72]) F (c_X0_pinsInDrums F.st F.gg 34 M72) (fun _ _ => rfl) dX6_count_79 mn_X6_247 yv_X0_pinsInDrums (rfl : kd 34 = 1) (by decide) rfl rfl (by decide) rfl (Nat.le_of_ble_eq_true rfl) (fun _ => rfl) (fun r79 M79 => ?_)
    refine r_iadd F dX6_count_82 ?_
    exact r_iret F rfl dX6_count_83 rfl
  refine r_ite (fun c3 => ?_) (fun c3 => ?_)
  · refine r_tabIn (tgt := 84) F dX6_count_1 c3 (by decide) (by decide) rfl (by decide) ?_
    refine r_aload_n F 0 dX6_count_84 rfl rfl ?_
    refine gf_X6_10 F dX6_count_85 (rfl : kd 0 = 0) ?_
    refine r_cVN (val := vI) (As := []) (rest := []) (fun q9 => .int q9 :: []) F (c_X0_pinsInBoxes F.st F.gg 34 M) (fun _ _ => rfl) dX6_count_88 mn_X6_244 yv_X0_pinsInBoxes (rfl : kd 34 = 1) (by decide) rfl rfl (by decide) rfl (Nat.le_of_ble_eq_true rfl) (fun _ => rfl) (fun r88 M88 => ?_)
    exact r_iret F rfl dX6_count_91 rfl
  refine r_ite (fun c4 => ?_) (fun c4 => ?_)
  · refine r_tabIn (tgt := 92) F dX6_count_1 c4 (by decide) (by decide) rfl (by decide) ?_
    refine r_aload_n F 0 dX6_count_92 rfl rfl ?_
    refine gf_X6_10 F dX6_count_93 (rfl : kd 0 = 0) ?_
    refine r_cVN (val := vI) (As := []) (rest := []) (fun q9 => .int q9 :: []) F (c_X0_allDebts F.st F.gg 34 M) (fun _ _ => rfl) dX6_count_96 mn_X6_250 yv_X0_allDebts (rfl : kd 34 = 1) (by decide) rfl rfl (by decide) rfl (Nat.le_of_ble_eq_true rfl) (fun _ => rfl) (fun r96 M96 => ?_)
    exact r_iret F rfl dX6_count_99 rfl
  refine r_ite (fun c5 => ?_) (fun c5 => ?_)
  · refine r_tabIn (tgt := 100) F dX6_count_1 c5 (by decide) (by decide) rfl (by decide) ?_
    refine r_aload_n F 0 dX6_count_100 rfl rfl ?_
    refine gf_X6_10 F dX6_count_101 (rfl : kd 0 = 0) ?_
    refine r_cVN (val := vI) (As := []) (rest := []) (fun q9 => .int q9 :: []) F (c_X0_owingPairs F.st F.gg 34 M) (fun _ _ => rfl) dX6_count_104 mn_X6_253 yv_X0_owingPairs (rfl : kd 34 = 1) (by decide) rfl rfl (by decide) rfl (Nat.le_of_ble_eq_true rfl) (fun _ => rfl) (fun r104 M104 => ?_)
    exact r_iret F rfl dX6_count_107 rfl
  refine r_ite (fun c6 => ?_) (fun c6 => ?_)
  · refine r_tabIn (tgt := 108) F dX6_count_1 c6 (by decide) (by decide) rfl (by decide) ?_
    refine r_aload_n F 0 dX6_count_108 rfl rfl ?_
    refine gf_X6_10 F dX6_count_109 (rfl : kd 0 = 0) ?_
    refine gf_X6_168 F dX6_count_112 (rfl : kd 34 = 1) ?_
    exact r_iret F rfl dX6_count_115 rfl
  refine r_ite (fun c7 => ?_) (fun c7 => ?_)
  · refine r_tabIn (tgt := 116) F dX6_count_1 c7 (by decide) (by decide) rfl (by decide) ?_
    refine r_aload_n F 0 dX6_count_116 rfl rfl ?_
    refine gf_X6_10 F dX6_count_117 (rfl : kd 0 = 0) ?_
    refine gf_X6_173 F dX6_count_120 (rfl : kd 34 = 1) ?_
    exact r_iret F rfl dX6_count_123 rfl
  refine r_ite (fun c8 => ?_) (fun c8 => ?_)
  · refine r_tabIn (tgt := 124) F dX6_count_1 c8 (by decide) (by decide) rfl (by decide) ?_
    refine r_aload_n F 0 dX6_count_124 rfl rfl ?_
    refine gf_X6_10 F dX6_count_125 (rfl : kd 0 = 0) ?_
    refine gf_X6_256 F dX6_count_128 (rfl : kd 34 = 1) ?_
    exact r_iret F rfl dX6_count_131 rfl
  refine r_ite (fun c9 => ?_) (fun c9 => ?_)
  · refine r_tabIn (tgt := 132) F dX6_count_1 c9 (by decide) (by decide) rfl (by decide) ?_
    refine r_aload_n F 0 dX6_count_132 rfl rfl ?_
    refine gf_X6_10 F dX6_count_133 (rfl : kd 0 = 0) ?_
    refine gf_X6_259 F dX6_count_136 (rfl : kd 34 = 1) ?_
    exact r_iret F rfl dX6_count_139 rfl
  refine r_ite (fun c10 => ?_) (fun c10 => ?_)
  · refine r_tabIn (tgt := 140) F dX6_count_1 c10 (by decide) (by decide) rfl (by decide) ?_
    refine r_aload_n F 0 dX6_count_140 rfl rfl ?_
    refine gf_X6_10 F dX6_count_141 (rfl : kd 0 = 0) ?_
    refine r_cVN (val := vI) (As := []) (rest := []) (fun q9 => .int q9 :: []) F (c_X0_allRightPins F.st F.gg 34 M) (fun _ _ => rfl) dX6_count_144 mn_X6_262 yv_X0_allRightPins (rfl : kd 34 = 1) (by decide) rfl rfl (by decide) rfl (Nat.le_of_ble_eq_true rfl) (fun _ => rfl) (fun r144 M144 => ?_)
    exact r_iret F rfl dX6_count_147 rfl
  refine r_ite (fun c11 => ?_) (fun c11 => ?_)
  · refine r_tabIn (tgt := 148) F dX6_count_1 c11 (by decide) (by decide) rfl (by decide) ?_
    refine r_aload_n F 0 dX6_count_148 rfl rfl ?_
    refine gf_X6_208 F dX6_count_149 (rfl : kd 0 = 0) ?_
    exact r_iret F rfl dX6_count_152 rfl
  refine r_tabOut (tgt := 153) F dX6_count_1 (by have n0 := lv_neT (a := 0) c1 (by decide); have n1 := lv_neT (a := 1) c2 (by decide); have n2 := lv_neT (a := 2) c3 (by decide); have n3 := lv_neT (a := 3) c4 (by decide); have n4 := lv_neT (a := 4) c5 (by decide); have n5 := lv_neT (a := 5) c6 (by decide); have n6 := lv_neT (a := 6) c7 (by decide); have n7 := lv_neT (a := 7) c8 (by decide); have n8 := lv_neT (a := 8) c9 (by decide); have n9 := lv_neT (a := 9) c10 (by decide); have n10 := lv_neT (a := 10) c11 (by decide); omega) (by decide) ?_
  exact r_throwW F atA cl_X6_52 ini_IllegalArgumentException (by decide : (265, "what is not 0 to 10") ∈ strW) dX6_count_153 dX6_count_156 dX6_count_157 dX6_count_160 dX6_count_163 (by decide) (Nat.le_of_ble_eq_true rfl)

set_option maxRecDepth 100000 in
set_option maxHeartbeats 4000000 in
theorem c_X6_count {l : Launch} {G : GM} (hl : l.stackTraces = false) (hG : GG G) (a1 : Int32) (M : Mem) : ∀ r, f_X6_count a1 M = some r → Ctr l G yX6_count (.code yX6_count cX6_count 2 (some .int) :: wsA) 10 [.ref (gA G 0), .int a1] M ((emT vI) r) :=
  ctr_of (by decide) hl hG (Nat.le_of_ble_eq_true rfl) (fun p e s m args below meth c F => b_X6_count F a1 M)

-- ===== X6_bitsOf DrumTowns.bitsOf(D)J =====
theorem ys_X6_bitsOf : yS yX6_bitsOf cX6_bitsOf 8 (some .long) 1 := ⟨sc_X6_bitsOf, ini_X6, cd_X6_bitsOf, ⟨by decide, by decide, by decide +kernel⟩, by decide⟩

def f_X6_bitsOf_50 (y2 : UInt64) (y4 : Int64) (M : Mem) : Option (Int64 × Mem) := chk (nn64 (FP.dsub y2 FP.dconst1)) <| chk (nn64 (FP.dmul (FP.dsub y2 FP.dconst1) (4841369599423283200 : UInt64))) <| bnd (FP.dmul (FP.dsub y2 FP.dconst1) (4841369599423283200 : UInt64)) fun x57 => some (((y4 <<< (((52 : Int32)).toInt64 &&& 63)) + (FP.d2l x57)), M)

set_option maxRecDepth 100000 in
set_option maxHeartbeats 4000000 in
theorem l_X6_bitsOf_50 {G : GM} {p : Program} {l : Launch} {e : Env} {s : State} {m : MethodId} {args : Array Value} {below : List Frame} {meth : Method} {c : Code} (F : Fx G p l s m args meth c cX6_bitsOf RX6 8 (some .long)) (y2 : UInt64) (y4 : Int64) (M : Mem) : Rf G p l e s m args below meth c 6 8 emL (f_X6_bitsOf_50  y2 y4 M) 50 [(2, .double y2), (4, .long y4)] [] M := by
  unfold f_X6_bitsOf_50
  refine r_dload_n F 0 dX6_bitsOf_50 rfl rfl ?_
  refine r_dconst1 F dX6_bitsOf_51 ?_
  refine r_chk (fun h1 => ?_)
  refine r_dsub F dX6_bitsOf_52 (nn_n h1) ?_
  refine r_ldc2d F dX6_bitsOf_53 kc_X6_353 ?_
  refine r_chk (fun h2 => ?_)
  refine r_dmul F dX6_bitsOf_56 (nn_n h2) ?_
  refine r_bd (fun x57 => ?_)
  refine r_dstore (ls' := [(6, .double x57), (2, .double y2), (4, .long y4)]) F dX6_bitsOf_57 (by decide) rfl ?_
  refine r_lload F 2 dX6_bitsOf_59 rfl ?_
  refine r_bipush F dX6_bitsOf_61 (v := 52) (by decide) ?_
  refine r_lshl F dX6_bitsOf_63 ?_
  refine r_dload F 0 dX6_bitsOf_64 rfl ?_
  refine r_d2l F dX6_bitsOf_66 ?_
  refine r_ladd F dX6_bitsOf_67 ?_
  exact r_lret F rfl dX6_bitsOf_68 rfl

def f_X6_bitsOf_18 : Nat → UInt64 → Int64 → Int32 → Mem → Option (Int64 × Mem)
  | 0, _, _, _, _ => none
  | n + 1, y2, y4, y6, M => if (1023 : Int32) ≤ y6 then (f_X6_bitsOf_50  y2 y4 M) else (if 0 ≤ (Op.cmpValue (FP.dcmp y2 FP.dconst1) .g) then (f_X6_bitsOf_50  y2 y4 M) else (chk (nn64 (FP.dmul y2 (4611686018427387904 : UInt64))) <| bnd (FP.dmul y2 (4611686018427387904 : UInt64)) fun x37 => bnd (y4 - (1 : Int64)) fun x42 => bnd (y6 + (1 : Int32)) fun x44 => f_X6_bitsOf_18  n x37 x42 x44 M))

set_option maxRecDepth 100000 in
set_option maxHeartbeats 4000000 in
theorem l_X6_bitsOf_18 {G : GM} {p : Program} {l : Launch} {e : Env} {s : State} {m : MethodId} {args : Array Value} {below : List Frame} {meth : Method} {c : Code} (F : Fx G p l s m args meth c cX6_bitsOf RX6 8 (some .long)) : ∀ (n : Nat) (y2 : UInt64) (y4 : Int64) (y6 : Int32) (M : Mem), Rf G p l e s m args below meth c 6 8 emL (f_X6_bitsOf_18  n y2 y4 y6 M) 18 [(2, .double y2), (4, .long y4), (6, .int y6)] [] M := by
  intro n
  induction n with
  | zero => intros; exact r_none
  | succ n ih =>
    intro y2 y4 y6 M
    rw [f_X6_bitsOf_18]
    refine r_iload F 2 dX6_bitsOf_18 rfl ?_
    refine r_sipush F dX6_bitsOf_20 (v := 1023) (by decide) ?_
    refine r_icmp_ge (tgt := 50) F dX6_bitsOf_23 (by decide) (fun c1 => ?_) (fun c1 => ?_)
    · refine r_sub [0, 1] rfl ?_
      exact l_X6_bitsOf_50 F   y2 y4 M
    · refine r_dload_n F 0 dX6_bitsOf_26 rfl rfl ?_
      refine r_dconst1 F dX6_bitsOf_27 ?_
      refine r_dcmp F dX6_bitsOf_28 ?_
      refine r_if_ge (tgt := 50) F dX6_bitsOf_29 (by decide) (fun c2 => ?_) (fun c2 => ?_)
      · refine r_sub [0, 1] rfl ?_
        exact l_X6_bitsOf_50 F   y2 y4 M
      · refine r_dload_n F 0 dX6_bitsOf_32 rfl rfl ?_
        refine r_ldc2d F dX6_bitsOf_33 kc_X6_351 ?_
        refine r_chk (fun h3 => ?_)
        refine r_dmul F dX6_bitsOf_36 (nn_n h3) ?_
        refine r_bd (fun x37 => ?_)
        refine r_dstore_n (ls' := [(2, .double x37), (4, .long y4), (6, .int y6)]) F dX6_bitsOf_37 rfl (by decide) rfl ?_
        refine r_lload F 1 dX6_bitsOf_38 rfl ?_
        refine r_lconst F dX6_bitsOf_40 (v := 1) (by decide) ?_
        refine r_lsub F dX6_bitsOf_41 ?_
        refine r_bl (fun x42 => ?_)
        refine r_lstore (ls' := [(4, .long x42), (2, .double x37), (6, .int y6)]) F dX6_bitsOf_42 (by decide) rfl ?_
        refine r_iinc (ls' := fun q9 => [(6, .int q9), (4, .long x42), (2, .double x37)]) (k := 2) (v := y6 + (1 : Int32)) F dX6_bitsOf_44 rfl rfl (by decide) (fun _ => rfl) (fun x44 => ?_)
        refine r_goto (tgt := 18) F dX6_bitsOf_47 (by decide) ?_
        refine r_sub [2, 1, 0] rfl ?_
        exact ih x37 x42 x44 M

def f_X6_bitsOf (a0 : UInt64) (M : Mem) : Option (Int64 × Mem) := if 0 < (Op.cmpValue (FP.dcmp a0 FP.dconst0) .g) then (f_X6_bitsOf_18  FU a0 (1023 : Int64) (0 : Int32) M) else (some ((0 : Int64), M))

set_option maxRecDepth 100000 in
set_option maxHeartbeats 4000000 in
theorem b_X6_bitsOf {G : GM} {p : Program} {l : Launch} {e : Env} {s : State} {m : MethodId} {args : Array Value} {below : List Frame} {meth : Method} {c : Code} (F : Fx G p l s m args meth c cX6_bitsOf RX6 8 (some .long)) (a0 : UInt64) (M : Mem) : Rf G p l e s m args below meth c 6 8 emL (f_X6_bitsOf a0 M) 0 [(0, .double a0)] [] M := by
  unfold f_X6_bitsOf
  refine r_dload_n F 0 dX6_bitsOf_0 rfl rfl ?_
  refine r_dconst0 F dX6_bitsOf_1 ?_
  refine r_dcmp F dX6_bitsOf_2 ?_
  refine r_if_gt (tgt := 8) F dX6_bitsOf_3 (by decide) (fun c1 => ?_) (fun c1 => ?_)
  · refine r_dload_n F 0 dX6_bitsOf_8 rfl rfl ?_
    refine r_dstore_n (ls' := [(2, .double a0), (0, .double a0)]) F dX6_bitsOf_9 rfl (by decide) rfl ?_
    refine r_ldc2 F dX6_bitsOf_10 kc_X6_349 ?_
    refine r_lstore (ls' := [(4, .long (1023 : Int64)), (2, .double a0), (0, .double a0)]) F dX6_bitsOf_13 (by decide) rfl ?_
    refine r_iconst F dX6_bitsOf_15 (v := 0) (by decide) ?_
    refine r_istore (ls' := [(6, .int (0 : Int32)), (4, .long (1023 : Int64)), (2, .double a0), (0, .double a0)]) F dX6_bitsOf_16 (by decide) rfl ?_
    refine r_sub [2, 1, 0] rfl ?_
    exact l_X6_bitsOf_18 F   FU a0 (1023 : Int64) (0 : Int32) M
  · refine r_lconst F dX6_bitsOf_6 (v := 0) (by decide) ?_
    exact r_lret F rfl dX6_bitsOf_7 rfl

set_option maxRecDepth 100000 in
set_option maxHeartbeats 4000000 in
theorem c_X6_bitsOf {l : Launch} {G : GM} (hl : l.stackTraces = false) (hG : GG G) (a0 : UInt64) (M : Mem) : ∀ r, f_X6_bitsOf a0 M = some r → Ctr l G yX6_bitsOf (.code yX6_bitsOf cX6_bitsOf 8 (some .long) :: wsA) 6 [.double a0] M (emL r) :=
  ctr_of (by decide) hl hG (Nat.le_of_ble_eq_true rfl) (fun p e s m args below meth c F => b_X6_bitsOf F a0 M)

-- ===== X6_mixed DrumTowns.mixed(JJ)J =====
theorem ys_X6_mixed : yS yX6_mixed cX6_mixed 4 (some .long) 2 := ⟨sc_X6_mixed, ini_X6, cd_X6_mixed, ⟨by decide, by decide, by decide +kernel⟩, by decide⟩

def f_X6_mixed (a0 : Int64) (a2 : Int64) (M : Mem) : Option (Int64 × Mem) := some ((((31 : Int64) * a0) + a2), M)

set_option maxRecDepth 100000 in
set_option maxHeartbeats 4000000 in
theorem b_X6_mixed {G : GM} {p : Program} {l : Launch} {e : Env} {s : State} {m : MethodId} {args : Array Value} {below : List Frame} {meth : Method} {c : Code} (F : Fx G p l s m args meth c cX6_mixed RX6 4 (some .long)) (a0 : Int64) (a2 : Int64) (M : Mem) : Rf G p l e s m args below meth c 6 4 emL (f_X6_mixed a0 a2 M) 0 [(0, .long a0), (2, .long a2)] [] M := by
  unfold f_X6_mixed
  refine r_ldc2 F dX6_mixed_0 kc_X6_334 ?_
  refine r_lload_n F 0 dX6_mixed_3 rfl rfl ?_
  refine r_lmul F dX6_mixed_4 ?_
  refine r_lload_n F 1 dX6_mixed_5 rfl rfl ?_
  refine r_ladd F dX6_mixed_6 ?_
  exact r_lret F rfl dX6_mixed_7 rfl

set_option maxRecDepth 100000 in
set_option maxHeartbeats 4000000 in
theorem c_X6_mixed {l : Launch} {G : GM} (hl : l.stackTraces = false) (hG : GG G) (a0 : Int64) (a2 : Int64) (M : Mem) : ∀ r, f_X6_mixed a0 a2 M = some r → Ctr l G yX6_mixed (.code yX6_mixed cX6_mixed 4 (some .long) :: wsA) 6 [.long a0, .long a2] M (emL r) :=
  ctr_of (by decide) hl hG (Nat.le_of_ble_eq_true rfl) (fun p e s m args below meth c F => b_X6_mixed F a0 a2 M)

-- ===== X2_isClosed DrumTowns$Ring.isClosed(LDrumTowns$Land;[IIII)Z =====
theorem ys_X2_isClosed : yS yX2_isClosed cX2_isClosed 7 (some .boolean) 5 := ⟨sc_X2_isClosed, ini_X2, cd_X2_isClosed, ⟨by decide, by decide, by decide +kernel⟩, by decide⟩

def f_X2_isClosed_16 (kr : Nat → Nat → Int32 → Int32 → Int32 → Mem → Option (Int32 × Mem))  (M : Mem) : Option (Int32 × Mem) := some ((0 : Int32), M)

set_option maxRecDepth 100000 in
set_option maxHeartbeats 4000000 in
theorem l_X2_isClosed_16 {G : GM} {p : Program} {l : Launch} {e : Env} {s : State} {m : MethodId} {args : Array Value} {below : List Frame} {meth : Method} {c : Code} {D9 : Nat} {kr : Nat → Nat → Int32 → Int32 → Int32 → Mem → Option (Int32 × Mem)} (hR : ∀ (a0 : Nat) (a1 : Nat) (a2 : Int32) (a3 : Int32) (a4 : Int32) (M : Mem), ∀ r, kr a0 a1 a2 a3 a4 M = some r → Ctr l G yX2_isClosed (.code yX2_isClosed cX2_isClosed 7 (some .boolean) :: wsA) (D9 + 6) [.ref (gA G a0), .ref (gA G a1), .int a2, .int a3, .int a4] M (emI r)) (F : Fx G p l s m args meth c cX2_isClosed RX2 7 (some .boolean))  (M : Mem) : Rf G p l e s m args below meth c (D9 + 7) 7 emI (f_X2_isClosed_16 kr  M) 16 [] [] M := by
  unfold f_X2_isClosed_16
  refine r_iconst F dX2_isClosed_16 (v := 0) (by decide) ?_
  exact r_zret F rfl dX2_isClosed_17 rfl (by decide)

def f_X2_isClosed_49 (kr : Nat → Nat → Int32 → Int32 → Int32 → Mem → Option (Int32 × Mem)) (z0 : Int32) (M : Mem) : Option (Int32 × Mem) := chk (isb z0) <| some (z0, M)

set_option maxRecDepth 100000 in
set_option maxHeartbeats 4000000 in
theorem l_X2_isClosed_49 {G : GM} {p : Program} {l : Launch} {e : Env} {s : State} {m : MethodId} {args : Array Value} {below : List Frame} {meth : Method} {c : Code} {D9 : Nat} {kr : Nat → Nat → Int32 → Int32 → Int32 → Mem → Option (Int32 × Mem)} (hR : ∀ (a0 : Nat) (a1 : Nat) (a2 : Int32) (a3 : Int32) (a4 : Int32) (M : Mem), ∀ r, kr a0 a1 a2 a3 a4 M = some r → Ctr l G yX2_isClosed (.code yX2_isClosed cX2_isClosed 7 (some .boolean) :: wsA) (D9 + 6) [.ref (gA G a0), .ref (gA G a1), .int a2, .int a3, .int a4] M (emI r)) (F : Fx G p l s m args meth c cX2_isClosed RX2 7 (some .boolean)) (z0 : Int32) (M : Mem) : Rf G p l e s m args below meth c (D9 + 7) 7 emI (f_X2_isClosed_49 kr z0 M) 49 [] [.int z0] M := by
  unfold f_X2_isClosed_49
  refine r_chk (fun h1 => ?_)
  exact r_zret F rfl dX2_isClosed_49 rfl (isb_or h1)

def f_X2_isClosed_115 (kr : Nat → Nat → Int32 → Int32 → Int32 → Mem → Option (Int32 × Mem)) (k57 : Nat → Nat → Int32 → Int32 → Int32 → Int32 → Int32 → Mem → Option (Int32 × Mem)) (y0 : Nat) (y1 : Nat) (y2 : Int32) (y3 : Int32) (y4 : Int32) (y5 : Int32) (y6 : Int32) (M : Mem) : Option (Int32 × Mem) := bnd (y6 + (1 : Int32)) fun x115 => k57 y0 y1 y2 y3 y4 y5 x115 M

set_option maxRecDepth 100000 in
set_option maxHeartbeats 4000000 in
theorem l_X2_isClosed_115 {G : GM} {p : Program} {l : Launch} {e : Env} {s : State} {m : MethodId} {args : Array Value} {below : List Frame} {meth : Method} {c : Code} {D9 : Nat} {kr : Nat → Nat → Int32 → Int32 → Int32 → Mem → Option (Int32 × Mem)} (hR : ∀ (a0 : Nat) (a1 : Nat) (a2 : Int32) (a3 : Int32) (a4 : Int32) (M : Mem), ∀ r, kr a0 a1 a2 a3 a4 M = some r → Ctr l G yX2_isClosed (.code yX2_isClosed cX2_isClosed 7 (some .boolean) :: wsA) (D9 + 6) [.ref (gA G a0), .ref (gA G a1), .int a2, .int a3, .int a4] M (emI r)) (F : Fx G p l s m args meth c cX2_isClosed RX2 7 (some .boolean)) (k57 : Nat → Nat → Int32 → Int32 → Int32 → Int32 → Int32 → Mem → Option (Int32 × Mem)) (H57 : ∀ (y0 : Nat) (y1 : Nat) (y2 : Int32) (y3 : Int32) (y4 : Int32) (y5 : Int32) (y6 : Int32) (M : Mem), Rf G p l e s m args below meth c (D9 + 7) 7 emI (k57 y0 y1 y2 y3 y4 y5 y6 M) 57 [(0, .ref (gA G y0)), (1, .ref (gA G y1)), (2, .int y2), (3, .int y3), (4, .int y4), (5, .int y5), (6, .int y6)] [] M) (y0 : Nat) (y1 : Nat) (y2 : Int32) (y3 : Int32) (y4 : Int32) (y5 : Int32) (y6 : Int32) (M : Mem) : Rf G p l e s m args below meth c (D9 + 7) 7 emI (f_X2_isClosed_115 kr k57 y0 y1 y2 y3 y4 y5 y6 M) 115 [(0, .ref (gA G y0)), (1, .ref (gA G y1)), (2, .int y2), (3, .int y3), (4, .int y4), (5, .int y5), (6, .int y6)] [] M := by
  unfold f_X2_isClosed_115
  refine r_iinc (ls' := fun q9 => [(6, .int q9), (0, .ref (gA G y0)), (1, .ref (gA G y1)), (2, .int y2), (3, .int y3), (4, .int y4), (5, .int y5)]) (k := 6) (v := y6 + (1 : Int32)) F dX2_isClosed_115 rfl rfl (by decide) (fun _ => rfl) (fun x115 => ?_)
  refine r_goto (tgt := 57) F dX2_isClosed_118 (by decide) ?_
  refine r_sub [1, 2, 3, 4, 5, 6, 0] rfl ?_
  exact H57 y0 y1 y2 y3 y4 y5 x115 M

def f_X2_isClosed_57 (kr : Nat → Nat → Int32 → Int32 → Int32 → Mem → Option (Int32 × Mem)) : Nat → Nat → Nat → Int32 → Int32 → Int32 → Int32 → Int32 → Mem → Option (Int32 × Mem)
  | 0, _, _, _, _, _, _, _, _ => none
  | n + 1, y0, y1, y2, y3, y4, y5, y6, M => chk (kb y0 1) <| if (M.1 y0 1) ≤ y6 then (some ((0 : Int32), M)) else (if (y4 &&& ((1 : Int32) <<< (y6 &&& 31))) = 0 then (chk (inb y5 6) <| bnd (rw' (y0 + 3) y5) fun b82 => chk (inb y6 6) <| if (M.1 b82 y6.toNatClampNeg) ≤ 0 then (f_X2_isClosed_115 kr (f_X2_isClosed_57 kr n) y0 y1 y2 y3 y4 y5 y6 M) else (chk (kb y1 8) <| chk (inb y3 (al y1)) <| bnd (mw M y1 y3.toNatClampNeg y6) fun M93 => bn (kr y0 y1 y2 (y3 + (1 : Int32)) (y4 ||| ((1 : Int32) <<< (y6 &&& 31))) M93) fun r107 M107 => if r107 = 0 then (f_X2_isClosed_115 kr (f_X2_isClosed_57 kr n) y0 y1 y2 y3 y4 y5 y6 M107) else (some ((1 : Int32), M107)))) else (f_X2_isClosed_115 kr (f_X2_isClosed_57 kr n) y0 y1 y2 y3 y4 y5 y6 M))

set_option maxRecDepth 100000 in
set_option maxHeartbeats 4000000 in
theorem l_X2_isClosed_57 {G : GM} {p : Program} {l : Launch} {e : Env} {s : State} {m : MethodId} {args : Array Value} {below : List Frame} {meth : Method} {c : Code} {D9 : Nat} {kr : Nat → Nat → Int32 → Int32 → Int32 → Mem → Option (Int32 × Mem)} (hR : ∀ (a0 : Nat) (a1 : Nat) (a2 : Int32) (a3 : Int32) (a4 : Int32) (M : Mem), ∀ r, kr a0 a1 a2 a3 a4 M = some r → Ctr l G yX2_isClosed (.code yX2_isClosed cX2_isClosed 7 (some .boolean) :: wsA) (D9 + 6) [.ref (gA G a0), .ref (gA G a1), .int a2, .int a3, .int a4] M (emI r)) (F : Fx G p l s m args meth c cX2_isClosed RX2 7 (some .boolean)) : ∀ (n : Nat) (y0 : Nat) (y1 : Nat) (y2 : Int32) (y3 : Int32) (y4 : Int32) (y5 : Int32) (y6 : Int32) (M : Mem), Rf G p l e s m args below meth c (D9 + 7) 7 emI (f_X2_isClosed_57 kr n y0 y1 y2 y3 y4 y5 y6 M) 57 [(0, .ref (gA G y0)), (1, .ref (gA G y1)), (2, .int y2), (3, .int y3), (4, .int y4), (5, .int y5), (6, .int y6)] [] M := by
  intro n
  induction n with
  | zero => intros; exact r_none
  | succ n ih =>
    intro y0 y1 y2 y3 y4 y5 y6 M
    rw [f_X2_isClosed_57]
    refine r_iload F 6 dX2_isClosed_57 rfl ?_
    refine r_aload_n F 0 dX2_isClosed_59 rfl rfl ?_
    refine r_chk (fun h1 => ?_)
    refine gf_X2_22 F dX2_isClosed_60 (kb_k h1) ?_
    refine r_icmp_ge (tgt := 121) F dX2_isClosed_63 (by decide) (fun c2 => ?_) (fun c2 => ?_)
    · refine r_iconst F dX2_isClosed_121 (v := 0) (by decide) ?_
      exact r_zret F rfl dX2_isClosed_122 rfl (by decide)
    · refine r_iload F 4 dX2_isClosed_66 rfl ?_
      refine r_iconst F dX2_isClosed_68 (v := 1) (by decide) ?_
      refine r_iload F 6 dX2_isClosed_69 rfl ?_
      refine r_ishl F dX2_isClosed_71 ?_
      refine r_iand F dX2_isClosed_72 ?_
      refine r_if_ne (tgt := 115) F dX2_isClosed_73 (by decide) (fun c3 => ?_) (fun c3 => ?_)
      · refine r_aload_n F 0 dX2_isClosed_76 rfl rfl ?_
        refine gf_X2_31 F dX2_isClosed_77 (kb_k h1) ?_
        refine r_iload F 5 dX2_isClosed_80 rfl ?_
        refine r_chk (fun h4 => ?_)
        refine r_aaldR F dX2_isClosed_82 (kLd (kb_k h1)) h4 ?_
        refine r_bra (kRw (kLd (kb_k h1)) h4) (aRw (kLd (kb_k h1)) h4) (fun b82 k82 k82a => ?_)
        refine r_iload F 6 dX2_isClosed_83 rfl ?_
        refine r_chk (fun h5 => ?_)
        refine r_iald F dX2_isClosed_85 k82 k82a h5 ?_
        refine r_if_le (tgt := 115) F dX2_isClosed_86 (by decide) (fun c6 => ?_) (fun c6 => ?_)
        · refine r_sub [0, 1, 2, 3, 4, 5, 6] rfl ?_
          exact l_X2_isClosed_115 hR F (f_X2_isClosed_57 kr n) (fun q0 q1 q2 q3 q4 q5 q6 M9 => ih q0 q1 q2 q3 q4 q5 q6 M9) y0 y1 y2 y3 y4 y5 y6 M
        · refine r_aload_n F 1 dX2_isClosed_89 rfl rfl ?_
          refine r_iload_n F 3 dX2_isClosed_90 rfl rfl ?_
          refine r_iload F 6 dX2_isClosed_91 rfl ?_
          refine r_chk (fun h7 => ?_)
          refine r_chk (fun h8 => ?_)
          refine r_iast F dX2_isClosed_93 (kb_k h7) rfl h8 (fun M93 => ?_)
          refine r_aload_n F 0 dX2_isClosed_94 rfl rfl ?_
          refine r_aload_n F 1 dX2_isClosed_95 rfl rfl ?_
          refine r_iload_n F 2 dX2_isClosed_96 rfl rfl ?_
          refine r_iload_n F 3 dX2_isClosed_97 rfl rfl ?_
          refine r_iconst F dX2_isClosed_98 (v := 1) (by decide) ?_
          refine r_iadd F dX2_isClosed_99 ?_
          refine r_iload F 4 dX2_isClosed_100 rfl ?_
          refine r_iconst F dX2_isClosed_102 (v := 1) (by decide) ?_
          refine r_iload F 6 dX2_isClosed_103 rfl ?_
          refine r_ishl F dX2_isClosed_105 ?_
          refine r_ior F dX2_isClosed_106 ?_
          refine r_cS (val := vI) (As := [.ref (gA G y0), .ref (gA G y1), .int y2, .int (y3 + (1 : Int32)), .int (y4 ||| ((1 : Int32) <<< (y6 &&& 31)))]) (rest := []) (fun q9 => .int q9 :: []) F (hR y0 y1 y2 (y3 + (1 : Int32)) (y4 ||| ((1 : Int32) <<< (y6 &&& 31))) M93) (fun _ _ => rfl) dX2_isClosed_107 ml_X2_27 ys_X2_isClosed rfl (by omega) rfl (Nat.le_of_ble_eq_true rfl) (fun _ => rfl) (fun r107 M107 => ?_)
          refine r_if_eq (tgt := 115) F dX2_isClosed_110 (by decide) (fun c9 => ?_) (fun c9 => ?_)
          · refine r_sub [0, 1, 2, 3, 4, 5, 6] rfl ?_
            exact l_X2_isClosed_115 hR F (f_X2_isClosed_57 kr n) (fun q0 q1 q2 q3 q4 q5 q6 M9 => ih q0 q1 q2 q3 q4 q5 q6 M9) y0 y1 y2 y3 y4 y5 y6 M107
          · refine r_iconst F dX2_isClosed_113 (v := 1) (by decide) ?_
            exact r_zret F rfl dX2_isClosed_114 rfl (by decide)
      · refine r_sub [0, 1, 2, 3, 4, 5, 6] rfl ?_
        exact l_X2_isClosed_115 hR F (f_X2_isClosed_57 kr n) (fun q0 q1 q2 q3 q4 q5 q6 M9 => ih q0 q1 q2 q3 q4 q5 q6 M9) y0 y1 y2 y3 y4 y5 y6 M

def g_X2_isClosed (kr : Nat → Nat → Int32 → Int32 → Int32 → Mem → Option (Int32 × Mem)) (a0 : Nat) (a1 : Nat) (a2 : Int32) (a3 : Int32) (a4 : Int32) (M : Mem) : Option (Int32 × Mem) := if a3 < (1 : Int32) then (f_X2_isClosed_16 kr   M) else (if a2 < a3 then (f_X2_isClosed_16 kr   M) else (if a2 ≤ (6 : Int32) then (chk (kb a1 8) <| chk (inb (a3 - (1 : Int32)) (al a1)) <| bnd (M.1 a1 (a3 - (1 : Int32)).toNatClampNeg) fun x23 => if a3 = a2 then (chk (kb a0 1) <| chk (inb x23 6) <| bnd (rw' (a0 + 3) x23) fun b36 => chk (inb (0 : Int32) (al a1)) <| chk (inb (M.1 a1 (0 : Int32).toNatClampNeg) 6) <| if (M.1 b36 (M.1 a1 (0 : Int32).toNatClampNeg).toNatClampNeg) ≤ 0 then (f_X2_isClosed_49 kr  (0 : Int32) M) else (f_X2_isClosed_49 kr  (1 : Int32) M)) else (chk (inb (0 : Int32) (al a1)) <| bnd ((M.1 a1 (0 : Int32).toNatClampNeg) + (1 : Int32)) fun x55 => f_X2_isClosed_57 kr  FU a0 a1 a2 a3 a4 x23 x55 M)) else (f_X2_isClosed_16 kr   M)))

set_option maxRecDepth 100000 in
set_option maxHeartbeats 4000000 in
theorem b_X2_isClosed {G : GM} {p : Program} {l : Launch} {e : Env} {s : State} {m : MethodId} {args : Array Value} {below : List Frame} {meth : Method} {c : Code} {D9 : Nat} {kr : Nat → Nat → Int32 → Int32 → Int32 → Mem → Option (Int32 × Mem)} (hR : ∀ (a0 : Nat) (a1 : Nat) (a2 : Int32) (a3 : Int32) (a4 : Int32) (M : Mem), ∀ r, kr a0 a1 a2 a3 a4 M = some r → Ctr l G yX2_isClosed (.code yX2_isClosed cX2_isClosed 7 (some .boolean) :: wsA) (D9 + 6) [.ref (gA G a0), .ref (gA G a1), .int a2, .int a3, .int a4] M (emI r)) (F : Fx G p l s m args meth c cX2_isClosed RX2 7 (some .boolean)) (a0 : Nat) (a1 : Nat) (a2 : Int32) (a3 : Int32) (a4 : Int32) (M : Mem) : Rf G p l e s m args below meth c (D9 + 7) 7 emI (g_X2_isClosed kr a0 a1 a2 a3 a4 M) 0 [(0, .ref (gA G a0)), (1, .ref (gA G a1)), (2, .int a2), (3, .int a3), (4, .int a4)] [] M := by
  unfold g_X2_isClosed
  refine r_iload_n F 3 dX2_isClosed_0 rfl rfl ?_
  refine r_iconst F dX2_isClosed_1 (v := 1) (by decide) ?_
  refine r_icmp_lt (tgt := 16) F dX2_isClosed_2 (by decide) (fun c1 => ?_) (fun c1 => ?_)
  · refine r_sub [] rfl ?_
    exact l_X2_isClosed_16 hR F    M
  · refine r_iload_n F 3 dX2_isClosed_5 rfl rfl ?_
    refine r_iload_n F 2 dX2_isClosed_6 rfl rfl ?_
    refine r_icmp_gt (tgt := 16) F dX2_isClosed_7 (by decide) (fun c2 => ?_) (fun c2 => ?_)
    · refine r_sub [] rfl ?_
      exact l_X2_isClosed_16 hR F    M
    · refine r_iload_n F 2 dX2_isClosed_10 rfl rfl ?_
      refine r_bipush F dX2_isClosed_11 (v := 6) (by decide) ?_
      refine r_icmp_le (tgt := 18) F dX2_isClosed_13 (by decide) (fun c3 => ?_) (fun c3 => ?_)
      · refine r_aload_n F 1 dX2_isClosed_18 rfl rfl ?_
        refine r_iload_n F 3 dX2_isClosed_19 rfl rfl ?_
        refine r_iconst F dX2_isClosed_20 (v := 1) (by decide) ?_
        refine r_isub F dX2_isClosed_21 ?_
        refine r_chk (fun h4 => ?_)
        refine r_chk (fun h5 => ?_)
        refine r_iald F dX2_isClosed_22 (kb_k h4) rfl h5 ?_
        refine r_bi (fun x23 => ?_)
        refine r_istore (ls' := [(5, .int x23), (0, .ref (gA G a0)), (1, .ref (gA G a1)), (2, .int a2), (3, .int a3), (4, .int a4)]) F dX2_isClosed_23 (by decide) rfl ?_
        refine r_iload_n F 4 dX2_isClosed_25 rfl rfl ?_
        refine r_iload_n F 3 dX2_isClosed_26 rfl rfl ?_
        refine r_icmp_ne (tgt := 50) F dX2_isClosed_27 (by decide) (fun c6 => ?_) (fun c6 => ?_)
        · refine r_aload_n F 1 dX2_isClosed_30 rfl rfl ?_
          refine r_chk (fun h7 => ?_)
          refine gf_X2_31 F dX2_isClosed_31 (kb_k h7) ?_
          refine r_iload F 0 dX2_isClosed_34 rfl ?_
          refine r_chk (fun h8 => ?_)
          refine r_aaldR F dX2_isClosed_36 (kLd (kb_k h7)) h8 ?_
          refine r_bra (kRw (kLd (kb_k h7)) h8) (aRw (kLd (kb_k h7)) h8) (fun b36 k36 k36a => ?_)
          refine r_aload_n F 2 dX2_isClosed_37 rfl rfl ?_
          refine r_iconst F dX2_isClosed_38 (v := 0) (by decide) ?_
          refine r_chk (fun h9 => ?_)
          refine r_iald F dX2_isClosed_39 (kb_k h4) rfl h9 ?_
          refine r_chk (fun h10 => ?_)
          refine r_iald F dX2_isClosed_40 k36 k36a h10 ?_
          refine r_if_le (tgt := 48) F dX2_isClosed_41 (by decide) (fun c11 => ?_) (fun c11 => ?_)
          · refine r_iconst F dX2_isClosed_48 (v := 0) (by decide) ?_
            refine r_sub [] rfl ?_
            exact l_X2_isClosed_49 hR F   (0 : Int32) M
          · refine r_iconst F dX2_isClosed_44 (v := 1) (by decide) ?_
            refine r_goto (tgt := 49) F dX2_isClosed_45 (by decide) ?_
            refine r_sub [] rfl ?_
            exact l_X2_isClosed_49 hR F   (1 : Int32) M
        · refine r_aload_n F 2 dX2_isClosed_50 rfl rfl ?_
          refine r_iconst F dX2_isClosed_51 (v := 0) (by decide) ?_
          refine r_chk (fun h12 => ?_)
          refine r_iald F dX2_isClosed_52 (kb_k h4) rfl h12 ?_
          refine r_iconst F dX2_isClosed_53 (v := 1) (by decide) ?_
          refine r_iadd F dX2_isClosed_54 ?_
          refine r_bi (fun x55 => ?_)
          refine r_istore (ls' := [(6, .int x55), (5, .int x23), (0, .ref (gA G a0)), (1, .ref (gA G a1)), (2, .int a2), (3, .int a3), (4, .int a4)]) F dX2_isClosed_55 (by decide) rfl ?_
          refine r_sub [2, 3, 4, 5, 6, 1, 0] rfl ?_
          exact l_X2_isClosed_57 hR F   FU a0 a1 a2 a3 a4 x23 x55 M
      · refine r_sub [] rfl ?_
        exact l_X2_isClosed_16 hR F    M

def f_X2_isClosed : Nat → Nat → Nat → Int32 → Int32 → Int32 → Mem → Option (Int32 × Mem)
  | 0, _, _, _, _, _, _ => none
  | n + 1, a0, a1, a2, a3, a4, M => g_X2_isClosed (f_X2_isClosed n) a0 a1 a2 a3 a4 M

set_option maxRecDepth 100000 in
set_option maxHeartbeats 4000000 in
theorem c_X2_isClosed {l : Launch} {G : GM} (hl : l.stackTraces = false) (hG : GG G) : ∀ (n : Nat) (a0 : Nat) (a1 : Nat) (a2 : Int32) (a3 : Int32) (a4 : Int32) (M : Mem), ∀ r, f_X2_isClosed n a0 a1 a2 a3 a4 M = some r → Ctr l G yX2_isClosed (.code yX2_isClosed cX2_isClosed 7 (some .boolean) :: wsA) (n + 6) [.ref (gA G a0), .ref (gA G a1), .int a2, .int a3, .int a4] M (emI r) := by
  intro n
  induction n with
  | zero => intro a0 a1 a2 a3 a4 M r h; cases h
  | succ n ih =>
    intro a0 a1 a2 a3 a4 M
    exact ctr_of (by decide) hl hG (Nat.le_of_ble_eq_true rfl) (fun p e s m args below meth c F => b_X2_isClosed ih F a0 a1 a2 a3 a4 M)

-- ===== X2_following DrumTowns$Ring.following(I)I =====
theorem yv_X2_following : yV yX2_following cX2_following 2 (some .int) 1 := ⟨im_X2_following, sl_X2_following, ini_X2, cd_X2_following, ⟨by decide, by decide, by decide +kernel⟩, by decide⟩

def f_X2_following_27 (z0 : Int32) (M : Mem) : Option (Int32 × Mem) := some (z0, M)

set_option maxRecDepth 100000 in
set_option maxHeartbeats 4000000 in
theorem l_X2_following_27 {G : GM} {p : Program} {l : Launch} {e : Env} {s : State} {m : MethodId} {args : Array Value} {below : List Frame} {meth : Method} {c : Code} (F : Fx G p l s m args meth c cX2_following RX2 2 (some .int)) (z0 : Int32) (M : Mem) : Rf G p l e s m args below meth c 6 2 emI (f_X2_following_27  z0 M) 27 [] [.int z0] M := by
  unfold f_X2_following_27
  exact r_iret F rfl dX2_following_27 rfl

def f_X2_following (a1 : Int32) (M : Mem) : Option (Int32 × Mem) := if (M.1 10 1) ≤ (a1 + (1 : Int32)) then (chk (inb (0 : Int32) 6) <| f_X2_following_27  (M.1 11 (0 : Int32).toNatClampNeg) M) else (chk (inb (a1 + (1 : Int32)) 6) <| f_X2_following_27  (M.1 11 (a1 + (1 : Int32)).toNatClampNeg) M)

set_option maxRecDepth 100000 in
set_option maxHeartbeats 4000000 in
theorem b_X2_following {G : GM} {p : Program} {l : Launch} {e : Env} {s : State} {m : MethodId} {args : Array Value} {below : List Frame} {meth : Method} {c : Code} (F : Fx G p l s m args meth c cX2_following RX2 2 (some .int)) (a1 : Int32) (M : Mem) : Rf G p l e s m args below meth c 6 2 emI (f_X2_following a1 M) 0 [(0, .ref (gA G 10)), (1, .int a1)] [] M := by
  unfold f_X2_following
  refine r_iload_n F 1 dX2_following_0 rfl rfl ?_
  refine r_iconst F dX2_following_1 (v := 1) (by decide) ?_
  refine r_iadd F dX2_following_2 ?_
  refine r_aload_n F 0 dX2_following_3 rfl rfl ?_
  refine gf_X2_15 F dX2_following_4 (rfl : kd 10 = 4) ?_
  refine r_icmp_ge (tgt := 21) F dX2_following_7 (by decide) (fun c1 => ?_) (fun c1 => ?_)
  · refine r_aload_n F 0 dX2_following_21 rfl rfl ?_
    refine gf_X2_9 F dX2_following_22 (rfl : kd 10 = 4) ?_
    refine r_iconst F dX2_following_25 (v := 0) (by decide) ?_
    refine r_chk (fun h2 => ?_)
    refine r_iald F dX2_following_26 (rfl : kd 11 = 8) (rfl : al 11 = 6) h2 ?_
    refine r_sub [] rfl ?_
    exact l_X2_following_27 F   (M.1 11 (0 : Int32).toNatClampNeg) M
  · refine r_aload_n F 0 dX2_following_10 rfl rfl ?_
    refine gf_X2_9 F dX2_following_11 (rfl : kd 10 = 4) ?_
    refine r_iload_n F 1 dX2_following_14 rfl rfl ?_
    refine r_iconst F dX2_following_15 (v := 1) (by decide) ?_
    refine r_iadd F dX2_following_16 ?_
    refine r_chk (fun h3 => ?_)
    refine r_iald F dX2_following_17 (rfl : kd 11 = 8) (rfl : al 11 = 6) h3 ?_
    refine r_goto (tgt := 27) F dX2_following_18 (by decide) ?_
    refine r_sub [] rfl ?_
    exact l_X2_following_27 F   (M.1 11 (a1 + (1 : Int32)).toNatClampNeg) M

set_option maxRecDepth 100000 in
set_option maxHeartbeats 4000000 in
theorem c_X2_following {l : Launch} {G : GM} (hl : l.stackTraces = false) (hG : GG G) (a1 : Int32) (M : Mem) : ∀ r, f_X2_following a1 M = some r → Ctr l G yX2_following (.code yX2_following cX2_following 2 (some .int) :: wsA) 6 [.ref (gA G 10), .int a1] M (emI r) :=
  ctr_of (by decide) hl hG (Nat.le_of_ble_eq_true rfl) (fun p e s m args below meth c F => b_X2_following F a1 M)

-- ===== X2_leastDebt DrumTowns$Ring.leastDebt([[I)I =====
theorem yv_X2_leastDebt : yV yX2_leastDebt cX2_leastDebt 4 (some .int) 1 := ⟨im_X2_leastDebt, sl_X2_leastDebt, ini_X2, cd_X2_leastDebt, ⟨by decide, by decide, by decide +kernel⟩, by decide⟩

def f_X2_leastDebt_17 : Nat → Nat → Int32 → Int32 → Mem → Option (Int32 × Mem)
  | 0, _, _, _, _ => none
  | n + 1, y1, y2, y3, M => if (M.1 10 1) ≤ y3 then (some (y2, M)) else (chk (inb y3 6) <| chk (kb y1 11) <| chk (inb (M.1 11 y3.toNatClampNeg) 6) <| bnd (rw' y1 (M.1 11 y3.toNatClampNeg)) fun b33 => bn (f_X2_following y3 M) fun r36 M36 => chk (inb r36 6) <| bnd (if (M36.1 b33 r36.toNatClampNeg) < y2 then (M36.1 b33 r36.toNatClampNeg) else y2) fun x43 => bnd (y3 + (1 : Int32)) fun x44 => f_X2_leastDebt_17  n y1 x43 x44 M36)

set_option maxRecDepth 100000 in
set_option maxHeartbeats 4000000 in
theorem l_X2_leastDebt_17 {G : GM} {p : Program} {l : Launch} {e : Env} {s : State} {m : MethodId} {args : Array Value} {below : List Frame} {meth : Method} {c : Code} (F : Fx G p l s m args meth c cX2_leastDebt RX2 4 (some .int)) : ∀ (n : Nat) (y1 : Nat) (y2 : Int32) (y3 : Int32) (M : Mem), Rf G p l e s m args below meth c 7 4 emI (f_X2_leastDebt_17  n y1 y2 y3 M) 17 [(0, .ref (gA G 10)), (1, .ref (gA G y1)), (2, .int y2), (3, .int y3)] [] M := by
  intro n
  induction n with
  | zero => intros; exact r_none
  | succ n ih =>
    intro y1 y2 y3 M
    rw [f_X2_leastDebt_17]
    refine r_iload_n F 3 dX2_leastDebt_17 rfl rfl ?_
    refine r_aload_n F 0 dX2_leastDebt_18 rfl rfl ?_
    refine gf_X2_15 F dX2_leastDebt_19 (rfl : kd 10 = 4) ?_
    refine r_icmp_ge (tgt := 50) F dX2_leastDebt_22 (by decide) (fun c1 => ?_) (fun c1 => ?_)
    · refine r_iload_n F 2 dX2_leastDebt_50 rfl rfl ?_
      exact r_iret F rfl dX2_leastDebt_51 rfl
    · refine r_iload_n F 2 dX2_leastDebt_25 rfl rfl ?_
      refine r_aload_n F 1 dX2_leastDebt_26 rfl rfl ?_
      refine r_aload_n F 0 dX2_leastDebt_27 rfl rfl ?_
      refine gf_X2_9 F dX2_leastDebt_28 (rfl : kd 10 = 4) ?_
      refine r_iload_n F 3 dX2_leastDebt_31 rfl rfl ?_
      refine r_chk (fun h2 => ?_)
      refine r_iald F dX2_leastDebt_32 (rfl : kd 11 = 8) (rfl : al 11 = 6) h2 ?_
      refine r_chk (fun h3 => ?_)
      refine r_chk (fun h4 => ?_)
      refine r_aaldR F dX2_leastDebt_33 (kb_k h3) h4 ?_
      refine r_bra (kRw (kb_k h3) h4) (aRw (kb_k h3) h4) (fun b33 k33 k33a => ?_)
      refine r_aload_n F 0 dX2_leastDebt_34 rfl rfl ?_
      refine r_iload_n F 3 dX2_leastDebt_35 rfl rfl ?_
      refine r_cV (val := vI) (As := [.int y3]) (rest := [.ref (gA G b33), .int y2]) (fun q9 => .int q9 :: [.ref (gA G b33), .int y2]) F (c_X2_following F.st F.gg y3 M) (fun _ _ => rfl) dX2_leastDebt_36 ml_X2_39 yv_X2_following (rfl : kd 10 = 4) (by decide) rfl rfl (by decide) rfl (Nat.le_of_ble_eq_true rfl) (fun _ => rfl) (fun r36 M36 => ?_)
      refine r_chk (fun h5 => ?_)
      refine r_iald F dX2_leastDebt_39 k33 k33a h5 ?_
      refine r_min F dX2_leastDebt_40 ml_X2_43 ⟨sc_min, ini_J9, cd_min⟩ (by decide) (Nat.le_of_ble_eq_true rfl) ?_
      refine r_bi (fun x43 => ?_)
      refine r_istore_n (ls' := [(2, .int x43), (0, .ref (gA G 10)), (1, .ref (gA G y1)), (3, .int y3)]) F dX2_leastDebt_43 rfl (by decide) rfl ?_
      refine r_iinc (ls' := fun q9 => [(3, .int q9), (2, .int x43), (0, .ref (gA G 10)), (1, .ref (gA G y1))]) (k := 3) (v := y3 + (1 : Int32)) F dX2_leastDebt_44 rfl rfl (by decide) (fun _ => rfl) (fun x44 => ?_)
      refine r_goto (tgt := 17) F dX2_leastDebt_47 (by decide) ?_
      refine r_sub [2, 3, 1, 0] rfl ?_
      exact ih y1 x43 x44 M36

def f_X2_leastDebt (a1 : Nat) (M : Mem) : Option (Int32 × Mem) := chk (inb (0 : Int32) 6) <| chk (kb a1 11) <| chk (inb (M.1 11 (0 : Int32).toNatClampNeg) 6) <| bnd (rw' a1 (M.1 11 (0 : Int32).toNatClampNeg)) fun b7 => bn (f_X2_following (0 : Int32) M) fun r10 M10 => chk (inb r10 6) <| bnd (M10.1 b7 r10.toNatClampNeg) fun x14 => f_X2_leastDebt_17  FU a1 x14 (1 : Int32) M10

set_option maxRecDepth 100000 in
set_option maxHeartbeats 4000000 in
theorem b_X2_leastDebt {G : GM} {p : Program} {l : Launch} {e : Env} {s : State} {m : MethodId} {args : Array Value} {below : List Frame} {meth : Method} {c : Code} (F : Fx G p l s m args meth c cX2_leastDebt RX2 4 (some .int)) (a1 : Nat) (M : Mem) : Rf G p l e s m args below meth c 7 4 emI (f_X2_leastDebt a1 M) 0 [(0, .ref (gA G 10)), (1, .ref (gA G a1))] [] M := by
  unfold f_X2_leastDebt
  refine r_aload_n F 1 dX2_leastDebt_0 rfl rfl ?_
  refine r_aload_n F 0 dX2_leastDebt_1 rfl rfl ?_
  refine gf_X2_9 F dX2_leastDebt_2 (rfl : kd 10 = 4) ?_
  refine r_iconst F dX2_leastDebt_5 (v := 0) (by decide) ?_
  refine r_chk (fun h1 => ?_)
  refine r_iald F dX2_leastDebt_6 (rfl : kd 11 = 8) (rfl : al 11 = 6) h1 ?_
  refine r_chk (fun h2 => ?_)
  refine r_chk (fun h3 => ?_)
  refine r_aaldR F dX2_leastDebt_7 (kb_k h2) h3 ?_
  refine r_bra (kRw (kb_k h2) h3) (aRw (kb_k h2) h3) (fun b7 k7 k7a => ?_)
  refine r_aload_n F 0 dX2_leastDebt_8 rfl rfl ?_
  refine r_iconst F dX2_leastDebt_9 (v := 0) (by decide) ?_
  refine r_cV (val := vI) (As := [.int (0 : Int32)]) (rest := [.ref (gA G b7)]) (fun q9 => .int q9 :: [.ref (gA G b7)]) F (c_X2_following F.st F.gg (0 : Int32) M) (fun _ _ => rfl) dX2_leastDebt_10 ml_X2_39 yv_X2_following (rfl : kd 10 = 4) (by decide) rfl rfl (by decide) rfl (Nat.le_of_ble_eq_true rfl) (fun _ => rfl) (fun r10 M10 => ?_)
  refine r_chk (fun h4 => ?_)
  refine r_iald F dX2_leastDebt_13 k7 k7a h4 ?_
  refine r_bi (fun x14 => ?_)
  refine r_istore_n (ls' := [(2, .int x14), (0, .ref (gA G 10)), (1, .ref (gA G a1))]) F dX2_leastDebt_14 rfl (by decide) rfl ?_
  refine r_iconst F dX2_leastDebt_15 (v := 1) (by decide) ?_
  refine r_istore_n (ls' := [(3, .int (1 : Int32)), (2, .int x14), (0, .ref (gA G 10)), (1, .ref (gA G a1))]) F dX2_leastDebt_16 rfl (by decide) rfl ?_
  refine r_sub [2, 3, 1, 0] rfl ?_
  exact l_X2_leastDebt_17 F   FU a1 x14 (1 : Int32) M10

set_option maxRecDepth 100000 in
set_option maxHeartbeats 4000000 in
theorem c_X2_leastDebt {l : Launch} {G : GM} (hl : l.stackTraces = false) (hG : GG G) (a1 : Nat) (M : Mem) : ∀ r, f_X2_leastDebt a1 M = some r → Ctr l G yX2_leastDebt (.code yX2_leastDebt cX2_leastDebt 4 (some .int) :: wsA) 7 [.ref (gA G 10), .ref (gA G a1)] M (emI r) :=
  ctr_of (by decide) hl hG (Nat.le_of_ble_eq_true rfl) (fun p e s m args below meth c F => b_X2_leastDebt F a1 M)

-- ===== X2_find DrumTowns$Ring.find(LDrumTowns$Land;)V =====
theorem yv_X2_find : yV yX2_find cX2_find 4 none 1 := ⟨im_X2_find, sl_X2_find, ini_X2, cd_X2_find, ⟨by decide, by decide, by decide +kernel⟩, by decide⟩

def f_X2_find_22 (k12 : Nat → Int32 → Mem → Option (Unit × Mem)) : Nat → Nat → Int32 → Int32 → Mem → Option (Unit × Mem)
  | 0, _, _, _, _ => none
  | n + 1, y1, y2, y3, M => chk (kb y1 1) <| if (M.1 y1 1) ≤ y3 then (bnd (y2 + (1 : Int32)) fun x77 => k12 y1 x77 M) else (chk (inb (0 : Int32) 6) <| bnd (mw M 11 (0 : Int32).toNatClampNeg y3) fun M36 => bn (f_X2_isClosed 8 y1 11 y2 (1 : Int32) ((1 : Int32) <<< (y3 &&& 31)) M36) fun r47 M47 => if r47 = 0 then (bnd (y3 + (1 : Int32)) fun x71 => f_X2_find_22 k12 n y1 y2 x71 M47) else (bnd (mw M47 10 1 y2) fun M55 => bn (f_X2_leastDebt (y1 + 3) M55) fun r64 M64 => bnd (mw M64 10 2 r64) fun M67 => some ((), M67)))

set_option maxRecDepth 100000 in
set_option maxHeartbeats 4000000 in
theorem l_X2_find_22 {G : GM} {p : Program} {l : Launch} {e : Env} {s : State} {m : MethodId} {args : Array Value} {below : List Frame} {meth : Method} {c : Code} (F : Fx G p l s m args meth c cX2_find RX2 4 none) (k12 : Nat → Int32 → Mem → Option (Unit × Mem)) (H12 : ∀ (y1 : Nat) (y2 : Int32) (M : Mem), Rf G p l e s m args below meth c 16 4 emV (k12 y1 y2 M) 12 [(0, .ref (gA G 10)), (1, .ref (gA G y1)), (2, .int y2)] [] M) : ∀ (n : Nat) (y1 : Nat) (y2 : Int32) (y3 : Int32) (M : Mem), Rf G p l e s m args below meth c 16 4 emV (f_X2_find_22 k12 n y1 y2 y3 M) 22 [(0, .ref (gA G 10)), (1, .ref (gA G y1)), (2, .int y2), (3, .int y3)] [] M := by
  intro n
  induction n with
  | zero => intros; exact r_none
  | succ n ih =>
    intro y1 y2 y3 M
    rw [f_X2_find_22]
    refine r_iload_n F 3 dX2_find_22 rfl rfl ?_
    refine r_aload_n F 1 dX2_find_23 rfl rfl ?_
    refine r_chk (fun h1 => ?_)
    refine gf_X2_22 F dX2_find_24 (kb_k h1) ?_
    refine r_icmp_ge (tgt := 77) F dX2_find_27 (by decide) (fun c2 => ?_) (fun c2 => ?_)
    · refine r_iinc (ls' := fun q9 => [(2, .int q9), (0, .ref (gA G 10)), (1, .ref (gA G y1)), (3, .int y3)]) (k := 2) (v := y2 + (1 : Int32)) F dX2_find_77 rfl rfl (by decide) (fun _ => rfl) (fun x77 => ?_)
      refine r_goto (tgt := 12) F dX2_find_80 (by decide) ?_
      refine r_sub [1, 2, 0] rfl ?_
      exact H12 y1 x77 M
    · refine r_aload_n F 0 dX2_find_30 rfl rfl ?_
      refine gf_X2_9 F dX2_find_31 (rfl : kd 10 = 4) ?_
      refine r_iconst F dX2_find_34 (v := 0) (by decide) ?_
      refine r_iload_n F 3 dX2_find_35 rfl rfl ?_
      refine r_chk (fun h3 => ?_)
      refine r_iast F dX2_find_36 (rfl : kd 11 = 8) (rfl : al 11 = 6) h3 (fun M36 => ?_)
      refine r_aload_n F 1 dX2_find_37 rfl rfl ?_
      refine r_aload_n F 0 dX2_find_38 rfl rfl ?_
      refine gf_X2_9 F dX2_find_39 (rfl : kd 10 = 4) ?_
      refine r_iload_n F 2 dX2_find_42 rfl rfl ?_
      refine r_iconst F dX2_find_43 (v := 1) (by decide) ?_
      refine r_iconst F dX2_find_44 (v := 1) (by decide) ?_
      refine r_iload_n F 3 dX2_find_45 rfl rfl ?_
      refine r_ishl F dX2_find_46 ?_
      refine r_cS (val := vI) (As := [.ref (gA G y1), .ref (gA G 11), .int y2, .int (1 : Int32), .int ((1 : Int32) <<< (y3 &&& 31))]) (rest := []) (fun q9 => .int q9 :: []) F (c_X2_isClosed F.st F.gg 8 y1 11 y2 (1 : Int32) ((1 : Int32) <<< (y3 &&& 31)) M36) (fun _ _ => rfl) dX2_find_47 ml_X2_27 ys_X2_isClosed rfl (by decide) rfl (Nat.le_of_ble_eq_true rfl) (fun _ => rfl) (fun r47 M47 => ?_)
      refine r_if_eq (tgt := 71) F dX2_find_50 (by decide) (fun c4 => ?_) (fun c4 => ?_)
      · refine r_iinc (ls' := fun q9 => [(3, .int q9), (0, .ref (gA G 10)), (1, .ref (gA G y1)), (2, .int y2)]) (k := 3) (v := y3 + (1 : Int32)) F dX2_find_71 rfl rfl (by decide) (fun _ => rfl) (fun x71 => ?_)
        refine r_goto (tgt := 22) F dX2_find_74 (by decide) ?_
        refine r_sub [1, 2, 3, 0] rfl ?_
        exact ih y1 y2 x71 M47
      · refine r_aload_n F 0 dX2_find_53 rfl rfl ?_
        refine r_iload_n F 2 dX2_find_54 rfl rfl ?_
        refine pf_X2_15 F dX2_find_55 (rfl : kd 10 = 4) (fun M55 => ?_)
        refine r_aload_n F 0 dX2_find_58 rfl rfl ?_
        refine r_aload_n F 0 dX2_find_59 rfl rfl ?_
        refine r_aload_n F 1 dX2_find_60 rfl rfl ?_
        refine gf_X2_31 F dX2_find_61 (kb_k h1) ?_
        refine r_cV (val := vI) (As := [.ref (gA G (y1 + 3))]) (rest := [.ref (gA G 10)]) (fun q9 => .int q9 :: [.ref (gA G 10)]) F (c_X2_leastDebt F.st F.gg (y1 + 3) M55) (fun _ _ => rfl) dX2_find_64 ml_X2_35 yv_X2_leastDebt (rfl : kd 10 = 4) (by decide) rfl rfl (by decide) rfl (Nat.le_of_ble_eq_true rfl) (fun _ => rfl) (fun r64 M64 => ?_)
        refine pf_X2_19 F dX2_find_67 (rfl : kd 10 = 4) (fun M67 => ?_)
        exact r_vret F rfl dX2_find_70 rfl

def f_X2_find_12 : Nat → Nat → Int32 → Mem → Option (Unit × Mem)
  | 0, _, _, _ => none
  | n + 1, y1, y2, M => chk (kb y1 1) <| if (M.1 y1 1) < y2 then (some ((), M)) else (f_X2_find_22 (f_X2_find_12  n) FU y1 y2 (0 : Int32) M)

set_option maxRecDepth 100000 in
set_option maxHeartbeats 4000000 in
theorem l_X2_find_12 {G : GM} {p : Program} {l : Launch} {e : Env} {s : State} {m : MethodId} {args : Array Value} {below : List Frame} {meth : Method} {c : Code} (F : Fx G p l s m args meth c cX2_find RX2 4 none) : ∀ (n : Nat) (y1 : Nat) (y2 : Int32) (M : Mem), Rf G p l e s m args below meth c 16 4 emV (f_X2_find_12  n y1 y2 M) 12 [(0, .ref (gA G 10)), (1, .ref (gA G y1)), (2, .int y2)] [] M := by
  intro n
  induction n with
  | zero => intros; exact r_none
  | succ n ih =>
    intro y1 y2 M
    rw [f_X2_find_12]
    refine r_iload_n F 2 dX2_find_12 rfl rfl ?_
    refine r_aload_n F 1 dX2_find_13 rfl rfl ?_
    refine r_chk (fun h1 => ?_)
    refine gf_X2_22 F dX2_find_14 (kb_k h1) ?_
    refine r_icmp_gt (tgt := 83) F dX2_find_17 (by decide) (fun c2 => ?_) (fun c2 => ?_)
    · exact r_vret F rfl dX2_find_83 rfl
    · refine r_iconst F dX2_find_20 (v := 0) (by decide) ?_
      refine r_istore_n (ls' := [(3, .int (0 : Int32)), (0, .ref (gA G 10)), (1, .ref (gA G y1)), (2, .int y2)]) F dX2_find_21 rfl (by decide) rfl ?_
      refine r_sub [1, 2, 3, 0] rfl ?_
      exact l_X2_find_22 F (f_X2_find_12  n) (fun q0 q1 M9 => ih q0 q1 M9) FU y1 y2 (0 : Int32) M

def f_X2_find (a1 : Nat) (M : Mem) : Option (Unit × Mem) := bnd (mw M 10 1 (0 : Int32)) fun M2 => bnd (mw M2 10 2 (0 : Int32)) fun M7 => f_X2_find_12  FU a1 (2 : Int32) M7

set_option maxRecDepth 100000 in
set_option maxHeartbeats 4000000 in
theorem b_X2_find {G : GM} {p : Program} {l : Launch} {e : Env} {s : State} {m : MethodId} {args : Array Value} {below : List Frame} {meth : Method} {c : Code} (F : Fx G p l s m args meth c cX2_find RX2 4 none) (a1 : Nat) (M : Mem) : Rf G p l e s m args below meth c 16 4 emV (f_X2_find a1 M) 0 [(0, .ref (gA G 10)), (1, .ref (gA G a1))] [] M := by
  unfold f_X2_find
  refine r_aload_n F 0 dX2_find_0 rfl rfl ?_
  refine r_iconst F dX2_find_1 (v := 0) (by decide) ?_
  refine pf_X2_15 F dX2_find_2 (rfl : kd 10 = 4) (fun M2 => ?_)
  refine r_aload_n F 0 dX2_find_5 rfl rfl ?_
  refine r_iconst F dX2_find_6 (v := 0) (by decide) ?_
  refine pf_X2_19 F dX2_find_7 (rfl : kd 10 = 4) (fun M7 => ?_)
  refine r_iconst F dX2_find_10 (v := 2) (by decide) ?_
  refine r_istore_n (ls' := [(2, .int (2 : Int32)), (0, .ref (gA G 10)), (1, .ref (gA G a1))]) F dX2_find_11 rfl (by decide) rfl ?_
  refine r_sub [1, 2, 0] rfl ?_
  exact l_X2_find_12 F   FU a1 (2 : Int32) M7

set_option maxRecDepth 100000 in
set_option maxHeartbeats 4000000 in
theorem c_X2_find {l : Launch} {G : GM} (hl : l.stackTraces = false) (hG : GG G) (a1 : Nat) (M : Mem) : ∀ r, f_X2_find a1 M = some r → Ctr l G yX2_find (.code yX2_find cX2_find 4 none :: wsA) 16 [.ref (gA G 10), .ref (gA G a1)] M (emV r) :=
  ctr_of (by decide) hl hG (Nat.le_of_ble_eq_true rfl) (fun p e s m args below meth c F => b_X2_find F a1 M)

