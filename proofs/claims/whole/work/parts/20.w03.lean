-- ===== X4_choose DrumTowns$Trades.choose()V =====
theorem yv_X4_choose : yV yX4_choose cX4_choose 4 none 0 := ⟨im_X4_choose, sl_X4_choose, ini_X4, cd_X4_choose, ⟨by decide, by decide, by decide +kernel⟩, by decide⟩

def f_X4_choose_4 : Nat → Int32 → Int32 → Mem → Option (Unit × Mem)
  | 0, _, _, _ => none
  | n + 1, y1, y2, M => if (M.1 12 3) ≤ y2 then (some ((), M)) else (bn (f_X4_firstBest y1 M) fun r14 M14 => chk (inb y2 6) <| bnd (mw M14 21 y2.toNatClampNeg r14) fun M24 => bnd (y1 ||| ((1 : Int32) <<< (r14 &&& 31))) fun x30 => bnd (y2 + (1 : Int32)) fun x31 => f_X4_choose_4  n x30 x31 M24)

set_option maxRecDepth 100000 in
set_option maxHeartbeats 4000000 in
theorem l_X4_choose_4 {G : GM} {p : Program} {l : Launch} {e : Env} {s : State} {m : MethodId} {args : Array Value} {below : List Frame} {meth : Method} {c : Code} (F : Fx G p l s m args meth c cX4_choose RX4 4 none) : ∀ (n : Nat) (y1 : Int32) (y2 : Int32) (M : Mem), Rf G p l e s m args below meth c 8 4 emV (f_X4_choose_4  n y1 y2 M) 4 [(0, .ref (gA G 12)), (1, .int y1), (2, .int y2)] [] M := by
  intro n
  induction n with
  | zero => intros; exact r_none
  | succ n ih =>
    intro y1 y2 M
    rw [f_X4_choose_4]
    refine r_iload_n F 2 dX4_choose_4 rfl rfl ?_
    refine r_aload_n F 0 dX4_choose_5 rfl rfl ?_
    refine gf_X4_29 F dX4_choose_6 (rfl : kd 12 = 5) ?_
    refine r_icmp_ge (tgt := 37) F dX4_choose_9 (by decide) (fun c1 => ?_) (fun c1 => ?_)
    · exact r_vret F rfl dX4_choose_37 rfl
    · refine r_aload_n F 0 dX4_choose_12 rfl rfl ?_
      refine r_iload_n F 1 dX4_choose_13 rfl rfl ?_
      refine r_cV (val := vI) (As := [.int y1]) (rest := []) (fun q9 => .int q9 :: []) F (c_X4_firstBest F.st F.gg y1 M) (fun _ _ => rfl) dX4_choose_14 ml_X4_52 yv_X4_firstBest (rfl : kd 12 = 5) (by decide) rfl rfl (by decide) rfl (Nat.le_of_ble_eq_true rfl) (fun _ => rfl) (fun r14 M14 => ?_)
      refine r_istore_n (ls' := [(3, .int r14), (0, .ref (gA G 12)), (1, .int y1), (2, .int y2)]) F dX4_choose_17 rfl (by decide) rfl ?_
      refine r_aload_n F 1 dX4_choose_18 rfl rfl ?_
      refine gf_X4_20 F dX4_choose_19 (rfl : kd 12 = 5) ?_
      refine r_iload_n F 3 dX4_choose_22 rfl rfl ?_
      refine r_iload_n F 0 dX4_choose_23 rfl rfl ?_
      refine r_chk (fun h2 => ?_)
      refine r_iast F dX4_choose_24 (rfl : kd 21 = 8) (rfl : al 21 = 6) h2 (fun M24 => ?_)
      refine r_iload_n F 2 dX4_choose_25 rfl rfl ?_
      refine r_iconst F dX4_choose_26 (v := 1) (by decide) ?_
      refine r_iload_n F 0 dX4_choose_27 rfl rfl ?_
      refine r_ishl F dX4_choose_28 ?_
      refine r_ior F dX4_choose_29 ?_
      refine r_bi (fun x30 => ?_)
      refine r_istore_n (ls' := [(1, .int x30), (3, .int r14), (0, .ref (gA G 12)), (2, .int y2)]) F dX4_choose_30 rfl (by decide) rfl ?_
      refine r_iinc (ls' := fun q9 => [(2, .int q9), (1, .int x30), (3, .int r14), (0, .ref (gA G 12))]) (k := 3) (v := y2 + (1 : Int32)) F dX4_choose_31 rfl rfl (by decide) (fun _ => rfl) (fun x31 => ?_)
      refine r_goto (tgt := 4) F dX4_choose_34 (by decide) ?_
      refine r_sub [3, 1, 0] rfl ?_
      exact ih x30 x31 M24

def f_X4_choose  (M : Mem) : Option (Unit × Mem) := f_X4_choose_4  FU (0 : Int32) (0 : Int32) M

set_option maxRecDepth 100000 in
set_option maxHeartbeats 4000000 in
theorem b_X4_choose {G : GM} {p : Program} {l : Launch} {e : Env} {s : State} {m : MethodId} {args : Array Value} {below : List Frame} {meth : Method} {c : Code} (F : Fx G p l s m args meth c cX4_choose RX4 4 none)  (M : Mem) : Rf G p l e s m args below meth c 8 4 emV (f_X4_choose  M) 0 [(0, .ref (gA G 12))] [] M := by
  unfold f_X4_choose
  refine r_iconst F dX4_choose_0 (v := 0) (by decide) ?_
  refine r_istore_n (ls' := [(1, .int (0 : Int32)), (0, .ref (gA G 12))]) F dX4_choose_1 rfl (by decide) rfl ?_
  refine r_iconst F dX4_choose_2 (v := 0) (by decide) ?_
  refine r_istore_n (ls' := [(2, .int (0 : Int32)), (1, .int (0 : Int32)), (0, .ref (gA G 12))]) F dX4_choose_3 rfl (by decide) rfl ?_
  refine r_sub [2, 1, 0] rfl ?_
  exact l_X4_choose_4 F   FU (0 : Int32) (0 : Int32) M

set_option maxRecDepth 100000 in
set_option maxHeartbeats 4000000 in
theorem c_X4_choose {l : Launch} {G : GM} (hl : l.stackTraces = false) (hG : GG G)  (M : Mem) : ∀ r, f_X4_choose  M = some r → Ctr l G yX4_choose (.code yX4_choose cX4_choose 4 none :: wsA) 8 [.ref (gA G 12)] M (emV r) :=
  ctr_of (by decide) hl hG (Nat.le_of_ble_eq_true rfl) (fun p e s m args below meth c F => b_X4_choose F  M)

-- ===== X4_find DrumTowns$Trades.find(LDrumTowns$Land;)V =====
theorem yv_X4_find : yV yX4_find cX4_find 5 none 1 := ⟨im_X4_find, sl_X4_find, ini_X4, cd_X4_find, ⟨by decide, by decide, by decide +kernel⟩, by decide⟩

def f_X4_find_20 (k10 : Nat → Int32 → Mem → Option (Unit × Mem)) : Nat → Nat → Int32 → Int32 → Mem → Option (Unit × Mem)
  | 0, _, _, _, _ => none
  | n + 1, y1, y2, y3, M => if (M.1 12 3) ≤ y3 then (bnd (y2 + (1 : Int32)) fun x63 => k10 y1 x63 M) else (chk (inb y2 6) <| bnd (rw' 13 y2) fun b33 => chk (kb y1 1) <| chk (inb y3 6) <| bnd (tw (y1 + 1) y3) fun b40 => chk (inb y2 6) <| bnd (tw (y1 + 1) y2) fun b49 => bn (f_X6_sharedBy (b40 + 1) (b49 + 2) M) fun r53 M53 => chk (inb y3 6) <| bnd (mw M53 b33 y3.toNatClampNeg r53) fun M56 => bnd (y3 + (1 : Int32)) fun x57 => f_X4_find_20 k10 n y1 y2 x57 M56)

set_option maxRecDepth 100000 in
set_option maxHeartbeats 4000000 in
theorem l_X4_find_20 {G : GM} {p : Program} {l : Launch} {e : Env} {s : State} {m : MethodId} {args : Array Value} {below : List Frame} {meth : Method} {c : Code} (F : Fx G p l s m args meth c cX4_find RX4 5 none) (k10 : Nat → Int32 → Mem → Option (Unit × Mem)) (H10 : ∀ (y1 : Nat) (y2 : Int32) (M : Mem), Rf G p l e s m args below meth c 9 5 emV (k10 y1 y2 M) 10 [(0, .ref (gA G 12)), (1, .ref (gA G y1)), (2, .int y2)] [] M) : ∀ (n : Nat) (y1 : Nat) (y2 : Int32) (y3 : Int32) (M : Mem), Rf G p l e s m args below meth c 9 5 emV (f_X4_find_20 k10 n y1 y2 y3 M) 20 [(0, .ref (gA G 12)), (1, .ref (gA G y1)), (2, .int y2), (3, .int y3)] [] M := by
  intro n
  induction n with
  | zero => intros; exact r_none
  | succ n ih =>
    intro y1 y2 y3 M
    rw [f_X4_find_20]
    refine r_iload_n F 3 dX4_find_20 rfl rfl ?_
    refine r_aload_n F 0 dX4_find_21 rfl rfl ?_
    refine gf_X4_29 F dX4_find_22 (rfl : kd 12 = 5) ?_
    refine r_icmp_ge (tgt := 63) F dX4_find_25 (by decide) (fun c1 => ?_) (fun c1 => ?_)
    · refine r_iinc (ls' := fun q9 => [(2, .int q9), (0, .ref (gA G 12)), (1, .ref (gA G y1)), (3, .int y3)]) (k := 2) (v := y2 + (1 : Int32)) F dX4_find_63 rfl rfl (by decide) (fun _ => rfl) (fun x63 => ?_)
      refine r_goto (tgt := 10) F dX4_find_66 (by decide) ?_
      refine r_sub [1, 2, 0] rfl ?_
      exact H10 y1 x63 M
    · refine r_aload_n F 0 dX4_find_28 rfl rfl ?_
      refine gf_X4_11 F dX4_find_29 (rfl : kd 12 = 5) ?_
      refine r_iload_n F 2 dX4_find_32 rfl rfl ?_
      refine r_chk (fun h2 => ?_)
      refine r_aaldR F dX4_find_33 (rfl : kd 13 = 11) h2 ?_
      refine r_bra (kRw (rfl : kd 13 = 11) h2) (aRw (rfl : kd 13 = 11) h2) (fun b33 k33 k33a => ?_)
      refine r_iload_n F 3 dX4_find_34 rfl rfl ?_
      refine r_aload_n F 1 dX4_find_35 rfl rfl ?_
      refine r_chk (fun h3 => ?_)
      refine gf_X4_30 F dX4_find_36 (kb_k h3) ?_
      refine r_iload_n F 3 dX4_find_39 rfl rfl ?_
      refine r_chk (fun h4 => ?_)
      refine r_aaldT F dX4_find_40 (kLs (kb_k h3)) h4 ?_
      refine r_br (kTw' (kLs (kb_k h3)) h4) (fun b40 k40 => ?_)
      refine gf_X4_34 F dX4_find_41 k40 ?_
      refine r_aload_n F 1 dX4_find_44 rfl rfl ?_
      refine gf_X4_30 F dX4_find_45 (kb_k h3) ?_
      refine r_iload_n F 2 dX4_find_48 rfl rfl ?_
      refine r_chk (fun h5 => ?_)
      refine r_aaldT F dX4_find_49 (kLs (kb_k h3)) h5 ?_
      refine r_br (kTw' (kLs (kb_k h3)) h5) (fun b49 k49 => ?_)
      refine gf_X4_39 F dX4_find_50 k49 ?_
      refine r_cSN (val := vI) (As := [.ref (gA G (b40 + 1)), .ref (gA G (b49 + 2))]) (rest := [.int y3, .ref (gA G b33)]) (fun q9 => .int q9 :: [.int y3, .ref (gA G b33)]) F (c_X6_sharedBy F.st F.gg (b40 + 1) (b49 + 2) M) (fun _ _ => rfl) dX4_find_53 mn_X4_42 ys_X6_sharedBy rfl (by decide) rfl (Nat.le_of_ble_eq_true rfl) (fun _ => rfl) (fun r53 M53 => ?_)
      refine r_chk (fun h6 => ?_)
      refine r_iast F dX4_find_56 k33 k33a h6 (fun M56 => ?_)
      refine r_iinc (ls' := fun q9 => [(3, .int q9), (0, .ref (gA G 12)), (1, .ref (gA G y1)), (2, .int y2)]) (k := 3) (v := y3 + (1 : Int32)) F dX4_find_57 rfl rfl (by decide) (fun _ => rfl) (fun x57 => ?_)
      refine r_goto (tgt := 20) F dX4_find_60 (by decide) ?_
      refine r_sub [1, 2, 3, 0] rfl ?_
      exact ih y1 y2 x57 M56

def f_X4_find_89 : Nat → Int32 → Mem → Option (Unit × Mem)
  | 0, _, _ => none
  | n + 1, y3, M => if y3 < 0 then (chk (inb (0 : Int32) 64) <| bnd (mw M 12 4 (M.1 20 (0 : Int32).toNatClampNeg)) fun M130 => bn (f_X4_choose M130) fun _ M134 => some ((), M134)) else (bn (f_J6_bitCount_0f7a4 y3 M) fun r94 M94 => bn (f_X4_firstBest y3 M94) fun r109 M109 => bn (f_X4_broughtBy r94 r109 y3 M109) fun r113 M113 => chk (inb y3 64) <| bnd (mw M113 20 y3.toNatClampNeg r113) fun M116 => bnd (y3 + (-1 : Int32)) fun x117 => f_X4_find_89  n x117 M116)

set_option maxRecDepth 100000 in
set_option maxHeartbeats 4000000 in
theorem l_X4_find_89 {G : GM} {p : Program} {l : Launch} {e : Env} {s : State} {m : MethodId} {args : Array Value} {below : List Frame} {meth : Method} {c : Code} (F : Fx G p l s m args meth c cX4_find RX4 5 none) : ∀ (n : Nat) (y3 : Int32) (M : Mem), Rf G p l e s m args below meth c 9 5 emV (f_X4_find_89  n y3 M) 89 [(0, .ref (gA G 12)), (3, .int y3)] [] M := by
  intro n
  induction n with
  | zero => intros; exact r_none
  | succ n ih =>
    intro y3 M
    rw [f_X4_find_89]
    refine r_iload_n F 1 dX4_find_89 rfl rfl ?_
    refine r_if_lt (tgt := 123) F dX4_find_90 (by decide) (fun c1 => ?_) (fun c1 => ?_)
    · refine r_aload_n F 0 dX4_find_123 rfl rfl ?_
      refine r_aload_n F 0 dX4_find_124 rfl rfl ?_
      refine gf_X4_16 F dX4_find_125 (rfl : kd 12 = 5) ?_
      refine r_iconst F dX4_find_128 (v := 0) (by decide) ?_
      refine r_chk (fun h2 => ?_)
      refine r_iald F dX4_find_129 (rfl : kd 20 = 8) (rfl : al 20 = 64) h2 ?_
      refine pf_X4_59 F dX4_find_130 (rfl : kd 12 = 5) (fun M130 => ?_)
      refine r_aload_n F 0 dX4_find_133 rfl rfl ?_
      refine r_cV (val := vU) (As := []) (rest := []) (fun _ => []) F (c_X4_choose F.st F.gg  M130) (fun _ _ => rfl) dX4_find_134 ml_X4_62 yv_X4_choose (rfl : kd 12 = 5) (by decide) rfl rfl (by decide) rfl (Nat.le_of_ble_eq_true rfl) (fun _ => rfl) (fun _ M134 => ?_)
      exact r_vret F rfl dX4_find_137 rfl
    · refine r_iload_n F 1 dX4_find_93 rfl rfl ?_
      refine r_cS (val := vI) (As := [.int y3]) (rest := []) (fun q9 => .int q9 :: []) F (c_J6_bitCount_0f7a4 F.st F.gg y3 M) (fun _ _ => rfl) dX4_find_94 ml_X4_46 ys_J6_bitCount_0f7a4 rfl (by decide) rfl (Nat.le_of_ble_eq_true rfl) (fun _ => rfl) (fun r94 M94 => ?_)
      refine r_istore (ls' := [(4, .int r94), (0, .ref (gA G 12)), (3, .int y3)]) F dX4_find_97 (by decide) rfl ?_
      refine r_aload_n F 1 dX4_find_99 rfl rfl ?_
      refine gf_X4_16 F dX4_find_100 (rfl : kd 12 = 5) ?_
      refine r_iload_n F 2 dX4_find_103 rfl rfl ?_
      refine r_aload_n F 1 dX4_find_104 rfl rfl ?_
      refine r_iload F 0 dX4_find_105 rfl ?_
      refine r_aload_n F 1 dX4_find_107 rfl rfl ?_
      refine r_iload_n F 2 dX4_find_108 rfl rfl ?_
      refine r_cV (val := vI) (As := [.int y3]) (rest := [.int r94, .ref (gA G 12), .int y3, .ref (gA G 20)]) (fun q9 => .int q9 :: [.int r94, .ref (gA G 12), .int y3, .ref (gA G 20)]) F (c_X4_firstBest F.st F.gg y3 M94) (fun _ _ => rfl) dX4_find_109 ml_X4_52 yv_X4_firstBest (rfl : kd 12 = 5) (by decide) rfl rfl (by decide) rfl (Nat.le_of_ble_eq_true rfl) (fun _ => rfl) (fun r109 M109 => ?_)
      refine r_iload_n F 2 dX4_find_112 rfl rfl ?_
      refine r_cV (val := vI) (As := [.int r94, .int r109, .int y3]) (rest := [.int y3, .ref (gA G 20)]) (fun q9 => .int q9 :: [.int y3, .ref (gA G 20)]) F (c_X4_broughtBy F.st F.gg r94 r109 y3 M109) (fun _ _ => rfl) dX4_find_113 ml_X4_55 yv_X4_broughtBy (rfl : kd 12 = 5) (by decide) rfl rfl (by decide) rfl (Nat.le_of_ble_eq_true rfl) (fun _ => rfl) (fun r113 M113 => ?_)
      refine r_chk (fun h3 => ?_)
      refine r_iast F dX4_find_116 (rfl : kd 20 = 8) (rfl : al 20 = 64) h3 (fun M116 => ?_)
      refine r_iinc (ls' := fun q9 => [(3, .int q9), (4, .int r94), (0, .ref (gA G 12))]) (k := 2) (v := y3 + (-1 : Int32)) F dX4_find_117 rfl rfl (by decide) (fun _ => rfl) (fun x117 => ?_)
      refine r_goto (tgt := 89) F dX4_find_120 (by decide) ?_
      refine r_sub [2, 0] rfl ?_
      exact ih x117 M116

def f_X4_find_10 : Nat → Nat → Int32 → Mem → Option (Unit × Mem)
  | 0, _, _, _ => none
  | n + 1, y1, y2, M => if (M.1 12 3) ≤ y2 then (bnd (((1 : Int32) <<< ((M.1 12 3) &&& 31)) - (1 : Int32)) fun x77 => chk (inb x77 64) <| bnd (mw M 20 x77.toNatClampNeg (0 : Int32)) fun M84 => bnd (x77 - (1 : Int32)) fun x88 => f_X4_find_89  FU x88 M84) else (f_X4_find_20 (f_X4_find_10  n) FU y1 y2 (0 : Int32) M)

set_option maxRecDepth 100000 in
set_option maxHeartbeats 4000000 in
theorem l_X4_find_10 {G : GM} {p : Program} {l : Launch} {e : Env} {s : State} {m : MethodId} {args : Array Value} {below : List Frame} {meth : Method} {c : Code} (F : Fx G p l s m args meth c cX4_find RX4 5 none) : ∀ (n : Nat) (y1 : Nat) (y2 : Int32) (M : Mem), Rf G p l e s m args below meth c 9 5 emV (f_X4_find_10  n y1 y2 M) 10 [(0, .ref (gA G 12)), (1, .ref (gA G y1)), (2, .int y2)] [] M := by
  intro n
  induction n with
  | zero => intros; exact r_none
  | succ n ih =>
    intro y1 y2 M
    rw [f_X4_find_10]
    refine r_iload_n F 2 dX4_find_10 rfl rfl ?_
    refine r_aload_n F 0 dX4_find_11 rfl rfl ?_
    refine gf_X4_29 F dX4_find_12 (rfl : kd 12 = 5) ?_
    refine r_icmp_ge (tgt := 69) F dX4_find_15 (by decide) (fun c1 => ?_) (fun c1 => ?_)
    · refine r_iconst F dX4_find_69 (v := 1) (by decide) ?_
      refine r_aload_n F 0 dX4_find_70 rfl rfl ?_
      refine gf_X4_29 F dX4_find_71 (rfl : kd 12 = 5) ?_
      refine r_ishl F dX4_find_74 ?_
      refine r_iconst F dX4_find_75 (v := 1) (by decide) ?_
      refine r_isub F dX4_find_76 ?_
      refine r_bi (fun x77 => ?_)
      refine r_istore_n (ls' := [(2, .int x77), (0, .ref (gA G 12)), (1, .ref (gA G y1))]) F dX4_find_77 rfl (by decide) rfl ?_
      refine r_aload_n F 1 dX4_find_78 rfl rfl ?_
      refine gf_X4_16 F dX4_find_79 (rfl : kd 12 = 5) ?_
      refine r_iload_n F 0 dX4_find_82 rfl rfl ?_
      refine r_iconst F dX4_find_83 (v := 0) (by decide) ?_
      refine r_chk (fun h2 => ?_)
      refine r_iast F dX4_find_84 (rfl : kd 20 = 8) (rfl : al 20 = 64) h2 (fun M84 => ?_)
      refine r_iload_n F 0 dX4_find_85 rfl rfl ?_
      refine r_iconst F dX4_find_86 (v := 1) (by decide) ?_
      refine r_isub F dX4_find_87 ?_
      refine r_bi (fun x88 => ?_)
      refine r_istore_n (ls' := [(3, .int x88), (2, .int x77), (0, .ref (gA G 12)), (1, .ref (gA G y1))]) F dX4_find_88 rfl (by decide) rfl ?_
      refine r_sub [2, 0] rfl ?_
      exact l_X4_find_89 F   FU x88 M84
    · refine r_iconst F dX4_find_18 (v := 0) (by decide) ?_
      refine r_istore_n (ls' := [(3, .int (0 : Int32)), (0, .ref (gA G 12)), (1, .ref (gA G y1)), (2, .int y2)]) F dX4_find_19 rfl (by decide) rfl ?_
      refine r_sub [1, 2, 3, 0] rfl ?_
      exact l_X4_find_20 F (f_X4_find_10  n) (fun q0 q1 M9 => ih q0 q1 M9) FU y1 y2 (0 : Int32) M

def f_X4_find (a1 : Nat) (M : Mem) : Option (Unit × Mem) := chk (kb a1 1) <| bnd (mw M 12 3 (M.1 a1 1)) fun M5 => f_X4_find_10  FU a1 (0 : Int32) M5

set_option maxRecDepth 100000 in
set_option maxHeartbeats 4000000 in
theorem b_X4_find {G : GM} {p : Program} {l : Launch} {e : Env} {s : State} {m : MethodId} {args : Array Value} {below : List Frame} {meth : Method} {c : Code} (F : Fx G p l s m args meth c cX4_find RX4 5 none) (a1 : Nat) (M : Mem) : Rf G p l e s m args below meth c 9 5 emV (f_X4_find a1 M) 0 [(0, .ref (gA G 12)), (1, .ref (gA G a1))] [] M := by
  unfold f_X4_find
  refine r_aload_n F 0 dX4_find_0 rfl rfl ?_
  refine r_aload_n F 1 dX4_find_1 rfl rfl ?_
  refine r_chk (fun h1 => ?_)
  refine gf_X4_23 F dX4_find_2 (kb_k h1) ?_
  refine pf_X4_29 F dX4_find_5 (rfl : kd 12 = 5) (fun M5 => ?_)
  refine r_iconst F dX4_find_8 (v := 0) (by decide) ?_
  refine r_istore_n (ls' := [(2, .int (0 : Int32)), (0, .ref (gA G 12)), (1, .ref (gA G a1))]) F dX4_find_9 rfl (by decide) rfl ?_
  refine r_sub [1, 2, 0] rfl ?_
  exact l_X4_find_10 F   FU a1 (0 : Int32) M5

set_option maxRecDepth 100000 in
set_option maxHeartbeats 4000000 in
theorem c_X4_find {l : Launch} {G : GM} (hl : l.stackTraces = false) (hG : GG G) (a1 : Nat) (M : Mem) : ∀ r, f_X4_find a1 M = some r → Ctr l G yX4_find (.code yX4_find cX4_find 5 none :: wsA) 9 [.ref (gA G 12), .ref (gA G a1)] M (emV r) :=
  ctr_of (by decide) hl hG (Nat.le_of_ble_eq_true rfl) (fun p e s m args below meth c F => b_X4_find F a1 M)

-- ===== X4_tell DrumTowns$Trades.tell(I)I =====
theorem yv_X4_tell : yV yX4_tell cX4_tell 3 (some .int) 1 := ⟨im_X4_tell, sl_X4_tell, ini_X4, cd_X4_tell, ⟨by decide, by decide, by decide +kernel⟩, by decide⟩

def f_X4_tell_34 (z0 : Int32) (M : Mem) : Option (Int32 × Mem) := some (z0, M)

set_option maxRecDepth 100000 in
set_option maxHeartbeats 4000000 in
theorem l_X4_tell_34 {G : GM} {p : Program} {l : Launch} {e : Env} {s : State} {m : MethodId} {args : Array Value} {below : List Frame} {meth : Method} {c : Code} (F : Fx G p l s m args meth c cX4_tell RX4 3 (some .int)) (z0 : Int32) (M : Mem) : Rf G p l e s m args below meth c 6 3 emI (f_X4_tell_34  z0 M) 34 [] [.int z0] M := by
  unfold f_X4_tell_34
  exact r_iret F rfl dX4_tell_34 rfl

def f_X4_tell (a1 : Int32) (M : Mem) : Option (Int32 × Mem) := if (10 : Int32) ≤ a1 then (bnd (a1 - (10 : Int32)) fun x15 => if (M.1 12 3) ≤ x15 then (f_X4_tell_34  (-1 : Int32) M) else (chk (inb x15 6) <| f_X4_tell_34  (M.1 21 x15.toNatClampNeg) M)) else (some ((M.1 12 4), M))

set_option maxRecDepth 100000 in
set_option maxHeartbeats 4000000 in
theorem b_X4_tell {G : GM} {p : Program} {l : Launch} {e : Env} {s : State} {m : MethodId} {args : Array Value} {below : List Frame} {meth : Method} {c : Code} (F : Fx G p l s m args meth c cX4_tell RX4 3 (some .int)) (a1 : Int32) (M : Mem) : Rf G p l e s m args below meth c 6 3 emI (f_X4_tell a1 M) 0 [(0, .ref (gA G 12)), (1, .int a1)] [] M := by
  unfold f_X4_tell
  refine r_iload_n F 1 dX4_tell_0 rfl rfl ?_
  refine r_bipush F dX4_tell_1 (v := 10) (by decide) ?_
  refine r_icmp_ge (tgt := 11) F dX4_tell_3 (by decide) (fun c1 => ?_) (fun c1 => ?_)
  · refine r_iload_n F 1 dX4_tell_11 rfl rfl ?_
    refine r_bipush F dX4_tell_12 (v := 10) (by decide) ?_
    refine r_isub F dX4_tell_14 ?_
    refine r_bi (fun x15 => ?_)
    refine r_istore_n (ls' := [(2, .int x15), (0, .ref (gA G 12)), (1, .int a1)]) F dX4_tell_15 rfl (by decide) rfl ?_
    refine r_iload_n F 0 dX4_tell_16 rfl rfl ?_
    refine r_aload_n F 1 dX4_tell_17 rfl rfl ?_
    refine gf_X4_29 F dX4_tell_18 (rfl : kd 12 = 5) ?_
    refine r_icmp_ge (tgt := 33) F dX4_tell_21 (by decide) (fun c2 => ?_) (fun c2 => ?_)
    · refine r_iconst F dX4_tell_33 (v := -1) (by decide) ?_
      refine r_sub [] rfl ?_
      exact l_X4_tell_34 F   (-1 : Int32) M
    · refine r_aload_n F 1 dX4_tell_24 rfl rfl ?_
      refine gf_X4_20 F dX4_tell_25 (rfl : kd 12 = 5) ?_
      refine r_iload_n F 0 dX4_tell_28 rfl rfl ?_
      refine r_chk (fun h3 => ?_)
      refine r_iald F dX4_tell_29 (rfl : kd 21 = 8) (rfl : al 21 = 6) h3 ?_
      refine r_goto (tgt := 34) F dX4_tell_30 (by decide) ?_
      refine r_sub [] rfl ?_
      exact l_X4_tell_34 F   (M.1 21 x15.toNatClampNeg) M
  · refine r_aload_n F 0 dX4_tell_6 rfl rfl ?_
    refine gf_X4_59 F dX4_tell_7 (rfl : kd 12 = 5) ?_
    exact r_iret F rfl dX4_tell_10 rfl

set_option maxRecDepth 100000 in
set_option maxHeartbeats 4000000 in
theorem c_X4_tell {l : Launch} {G : GM} (hl : l.stackTraces = false) (hG : GG G) (a1 : Int32) (M : Mem) : ∀ r, f_X4_tell a1 M = some r → Ctr l G yX4_tell (.code yX4_tell cX4_tell 3 (some .int) :: wsA) 6 [.ref (gA G 12), .int a1] M (emI r) :=
  ctr_of (by decide) hl hG (Nat.le_of_ble_eq_true rfl) (fun p e s m args below meth c F => b_X4_tell F a1 M)

-- ===== X5_endStep DrumTowns$TuneText.endStep(I)V =====
theorem yv_X5_endStep : yV yX5_endStep cX5_endStep 2 none 1 := ⟨im_X5_endStep, sl_X5_endStep, ini_X5, cd_X5_endStep, ⟨by decide, by decide, by decide +kernel⟩, by decide⟩

def f_X5_endStep_29  (M : Mem) : Option (Unit × Mem) := some ((), M)

set_option maxRecDepth 100000 in
set_option maxHeartbeats 4000000 in
theorem l_X5_endStep_29 {G : GM} {p : Program} {l : Launch} {e : Env} {s : State} {m : MethodId} {args : Array Value} {below : List Frame} {meth : Method} {c : Code} (F : Fx G p l s m args meth c cX5_endStep RX5 2 none)  (M : Mem) : Rf G p l e s m args below meth c 6 2 emV (f_X5_endStep_29   M) 29 [] [] M := by
  unfold f_X5_endStep_29
  exact r_vret F rfl dX5_endStep_29 rfl

def f_X5_endStep (a1 : Int32) (M : Mem) : Option (Unit × Mem) := if (24 : Int32) ≤ (M.1 2 3) then (f_X5_endStep_29   M) else (chk (inb (M.1 2 3) 24) <| bnd (mw M 4 (M.1 2 3).toNatClampNeg a1) fun M18 => bnd (mw M18 2 3 ((M18.1 2 3) + (1 : Int32))) fun M26 => f_X5_endStep_29   M26)

set_option maxRecDepth 100000 in
set_option maxHeartbeats 4000000 in
theorem b_X5_endStep {G : GM} {p : Program} {l : Launch} {e : Env} {s : State} {m : MethodId} {args : Array Value} {below : List Frame} {meth : Method} {c : Code} (F : Fx G p l s m args meth c cX5_endStep RX5 2 none) (a1 : Int32) (M : Mem) : Rf G p l e s m args below meth c 6 2 emV (f_X5_endStep a1 M) 0 [(0, .ref (gA G 2)), (1, .int a1)] [] M := by
  unfold f_X5_endStep
  refine r_aload_n F 0 dX5_endStep_0 rfl rfl ?_
  refine gf_X5_18 F dX5_endStep_1 (rfl : kd 2 = 6) ?_
  refine r_bipush F dX5_endStep_4 (v := 24) (by decide) ?_
  refine r_icmp_ge (tgt := 29) F dX5_endStep_6 (by decide) (fun c1 => ?_) (fun c1 => ?_)
  · refine r_sub [] rfl ?_
    exact l_X5_endStep_29 F    M
  · refine r_aload_n F 0 dX5_endStep_9 rfl rfl ?_
    refine gf_X5_15 F dX5_endStep_10 (rfl : kd 2 = 6) ?_
    refine r_aload_n F 0 dX5_endStep_13 rfl rfl ?_
    refine gf_X5_18 F dX5_endStep_14 (rfl : kd 2 = 6) ?_
    refine r_iload_n F 1 dX5_endStep_17 rfl rfl ?_
    refine r_chk (fun h2 => ?_)
    refine r_iast F dX5_endStep_18 (rfl : kd 4 = 8) (rfl : al 4 = 24) h2 (fun M18 => ?_)
    refine r_aload_n F 0 dX5_endStep_19 rfl rfl ?_
    refine r_dup F dX5_endStep_20 rfl ?_
    refine gf_X5_18 F dX5_endStep_21 (rfl : kd 2 = 6) ?_
    refine r_iconst F dX5_endStep_24 (v := 1) (by decide) ?_
    refine r_iadd F dX5_endStep_25 ?_
    refine pf_X5_18 F dX5_endStep_26 (rfl : kd 2 = 6) (fun M26 => ?_)
    refine r_sub [] rfl ?_
    exact l_X5_endStep_29 F    M26

set_option maxRecDepth 100000 in
set_option maxHeartbeats 4000000 in
theorem c_X5_endStep {l : Launch} {G : GM} (hl : l.stackTraces = false) (hG : GG G) (a1 : Int32) (M : Mem) : ∀ r, f_X5_endStep a1 M = some r → Ctr l G yX5_endStep (.code yX5_endStep cX5_endStep 2 none :: wsA) 6 [.ref (gA G 2), .int a1] M (emV r) :=
  ctr_of (by decide) hl hG (Nat.le_of_ble_eq_true rfl) (fun p e s m args below meth c F => b_X5_endStep F a1 M)

-- ===== X5_isComplete DrumTowns$TuneText.isComplete()Z =====
theorem yv_X5_isComplete : yV yX5_isComplete cX5_isComplete 1 (some .boolean) 0 := ⟨im_X5_isComplete, sl_X5_isComplete, ini_X5, cd_X5_isComplete, ⟨by decide, by decide, by decide +kernel⟩, by decide⟩

def f_X5_isComplete_19 (z0 : Int32) (M : Mem) : Option (Int32 × Mem) := chk (isb z0) <| some (z0, M)

set_option maxRecDepth 100000 in
set_option maxHeartbeats 4000000 in
theorem l_X5_isComplete_19 {G : GM} {p : Program} {l : Launch} {e : Env} {s : State} {m : MethodId} {args : Array Value} {below : List Frame} {meth : Method} {c : Code} (F : Fx G p l s m args meth c cX5_isComplete RX5 1 (some .boolean)) (z0 : Int32) (M : Mem) : Rf G p l e s m args below meth c 6 1 emI (f_X5_isComplete_19  z0 M) 19 [] [.int z0] M := by
  unfold f_X5_isComplete_19
  refine r_chk (fun h1 => ?_)
  exact r_zret F rfl dX5_isComplete_19 rfl (isb_or h1)

def f_X5_isComplete_18  (M : Mem) : Option (Int32 × Mem) := f_X5_isComplete_19  (0 : Int32) M

set_option maxRecDepth 100000 in
set_option maxHeartbeats 4000000 in
theorem l_X5_isComplete_18 {G : GM} {p : Program} {l : Launch} {e : Env} {s : State} {m : MethodId} {args : Array Value} {below : List Frame} {meth : Method} {c : Code} (F : Fx G p l s m args meth c cX5_isComplete RX5 1 (some .boolean))  (M : Mem) : Rf G p l e s m args below meth c 6 1 emI (f_X5_isComplete_18   M) 18 [] [] M := by
  unfold f_X5_isComplete_18
  refine r_iconst F dX5_isComplete_18 (v := 0) (by decide) ?_
  refine r_sub [] rfl ?_
  exact l_X5_isComplete_19 F   (0 : Int32) M

def f_X5_isComplete  (M : Mem) : Option (Int32 × Mem) := if (M.1 2 3) ≤ 0 then (f_X5_isComplete_18   M) else (if (M.1 2 4) = 0 then (f_X5_isComplete_19  (1 : Int32) M) else (f_X5_isComplete_18   M))

set_option maxRecDepth 100000 in
set_option maxHeartbeats 4000000 in
theorem b_X5_isComplete {G : GM} {p : Program} {l : Launch} {e : Env} {s : State} {m : MethodId} {args : Array Value} {below : List Frame} {meth : Method} {c : Code} (F : Fx G p l s m args meth c cX5_isComplete RX5 1 (some .boolean))  (M : Mem) : Rf G p l e s m args below meth c 6 1 emI (f_X5_isComplete  M) 0 [(0, .ref (gA G 2))] [] M := by
  unfold f_X5_isComplete
  refine r_aload_n F 0 dX5_isComplete_0 rfl rfl ?_
  refine gf_X5_18 F dX5_isComplete_1 (rfl : kd 2 = 6) ?_
  refine r_if_le (tgt := 18) F dX5_isComplete_4 (by decide) (fun c1 => ?_) (fun c1 => ?_)
  · refine r_sub [] rfl ?_
    exact l_X5_isComplete_18 F    M
  · refine r_aload_n F 0 dX5_isComplete_7 rfl rfl ?_
    refine gf_X5_22 F dX5_isComplete_8 (rfl : kd 2 = 6) ?_
    refine r_if_ne (tgt := 18) F dX5_isComplete_11 (by decide) (fun c2 => ?_) (fun c2 => ?_)
    · refine r_iconst F dX5_isComplete_14 (v := 1) (by decide) ?_
      refine r_goto (tgt := 19) F dX5_isComplete_15 (by decide) ?_
      refine r_sub [] rfl ?_
      exact l_X5_isComplete_19 F   (1 : Int32) M
    · refine r_sub [] rfl ?_
      exact l_X5_isComplete_18 F    M

set_option maxRecDepth 100000 in
set_option maxHeartbeats 4000000 in
theorem c_X5_isComplete {l : Launch} {G : GM} (hl : l.stackTraces = false) (hG : GG G)  (M : Mem) : ∀ r, f_X5_isComplete  M = some r → Ctr l G yX5_isComplete (.code yX5_isComplete cX5_isComplete 1 (some .boolean) :: wsA) 6 [.ref (gA G 2)] M (emI r) :=
  ctr_of (by decide) hl hG (Nat.le_of_ble_eq_true rfl) (fun p e s m args below meth c F => b_X5_isComplete F  M)

-- ===== X5_isTooth DrumTowns$TuneText.isTooth(I)Z =====
theorem ys_X5_isTooth : yS yX5_isTooth cX5_isTooth 1 (some .boolean) 1 := ⟨sc_X5_isTooth, ini_X5, cd_X5_isTooth, ⟨by decide, by decide, by decide +kernel⟩, by decide⟩

def f_X5_isTooth_17 (z0 : Int32) (M : Mem) : Option (Int32 × Mem) := chk (isb z0) <| some (z0, M)

set_option maxRecDepth 100000 in
set_option maxHeartbeats 4000000 in
theorem l_X5_isTooth_17 {G : GM} {p : Program} {l : Launch} {e : Env} {s : State} {m : MethodId} {args : Array Value} {below : List Frame} {meth : Method} {c : Code} (F : Fx G p l s m args meth c cX5_isTooth RX5 1 (some .boolean)) (z0 : Int32) (M : Mem) : Rf G p l e s m args below meth c 6 1 emI (f_X5_isTooth_17  z0 M) 17 [] [.int z0] M := by
  unfold f_X5_isTooth_17
  refine r_chk (fun h1 => ?_)
  exact r_zret F rfl dX5_isTooth_17 rfl (isb_or h1)

def f_X5_isTooth_16  (M : Mem) : Option (Int32 × Mem) := f_X5_isTooth_17  (0 : Int32) M

set_option maxRecDepth 100000 in
set_option maxHeartbeats 4000000 in
theorem l_X5_isTooth_16 {G : GM} {p : Program} {l : Launch} {e : Env} {s : State} {m : MethodId} {args : Array Value} {below : List Frame} {meth : Method} {c : Code} (F : Fx G p l s m args meth c cX5_isTooth RX5 1 (some .boolean))  (M : Mem) : Rf G p l e s m args below meth c 6 1 emI (f_X5_isTooth_16   M) 16 [] [] M := by
  unfold f_X5_isTooth_16
  refine r_iconst F dX5_isTooth_16 (v := 0) (by decide) ?_
  refine r_sub [] rfl ?_
  exact l_X5_isTooth_17 F   (0 : Int32) M

def f_X5_isTooth (a0 : Int32) (M : Mem) : Option (Int32 × Mem) := if a0 < (97 : Int32) then (f_X5_isTooth_16   M) else (if (109 : Int32) ≤ a0 then (f_X5_isTooth_16   M) else (f_X5_isTooth_17  (1 : Int32) M))

set_option maxRecDepth 100000 in
set_option maxHeartbeats 4000000 in
theorem b_X5_isTooth {G : GM} {p : Program} {l : Launch} {e : Env} {s : State} {m : MethodId} {args : Array Value} {below : List Frame} {meth : Method} {c : Code} (F : Fx G p l s m args meth c cX5_isTooth RX5 1 (some .boolean)) (a0 : Int32) (M : Mem) : Rf G p l e s m args below meth c 6 1 emI (f_X5_isTooth a0 M) 0 [(0, .int a0)] [] M := by
  unfold f_X5_isTooth
  refine r_iload_n F 0 dX5_isTooth_0 rfl rfl ?_
  refine r_bipush F dX5_isTooth_1 (v := 97) (by decide) ?_
  refine r_icmp_lt (tgt := 16) F dX5_isTooth_3 (by decide) (fun c1 => ?_) (fun c1 => ?_)
  · refine r_sub [] rfl ?_
    exact l_X5_isTooth_16 F    M
  · refine r_iload_n F 0 dX5_isTooth_6 rfl rfl ?_
    refine r_bipush F dX5_isTooth_7 (v := 109) (by decide) ?_
    refine r_icmp_ge (tgt := 16) F dX5_isTooth_9 (by decide) (fun c2 => ?_) (fun c2 => ?_)
    · refine r_sub [] rfl ?_
      exact l_X5_isTooth_16 F    M
    · refine r_iconst F dX5_isTooth_12 (v := 1) (by decide) ?_
      refine r_goto (tgt := 17) F dX5_isTooth_13 (by decide) ?_
      refine r_sub [] rfl ?_
      exact l_X5_isTooth_17 F   (1 : Int32) M

set_option maxRecDepth 100000 in
set_option maxHeartbeats 4000000 in
theorem c_X5_isTooth {l : Launch} {G : GM} (hl : l.stackTraces = false) (hG : GG G) (a0 : Int32) (M : Mem) : ∀ r, f_X5_isTooth a0 M = some r → Ctr l G yX5_isTooth (.code yX5_isTooth cX5_isTooth 1 (some .boolean) :: wsA) 6 [.int a0] M (emI r) :=
  ctr_of (by decide) hl hG (Nat.le_of_ble_eq_true rfl) (fun p e s m args below meth c F => b_X5_isTooth F a0 M)

-- ===== X5_readInside DrumTowns$TuneText.readInside(I)Z =====
theorem yv_X5_readInside : yV yX5_readInside cX5_readInside 4 (some .boolean) 1 := ⟨im_X5_readInside, sl_X5_readInside, ini_X5, cd_X5_readInside, ⟨by decide, by decide, by decide +kernel⟩, by decide⟩

def f_X5_readInside_79  (M : Mem) : Option (Int32 × Mem) := some ((0 : Int32), M)

set_option maxRecDepth 100000 in
set_option maxHeartbeats 4000000 in
theorem l_X5_readInside_79 {G : GM} {p : Program} {l : Launch} {e : Env} {s : State} {m : MethodId} {args : Array Value} {below : List Frame} {meth : Method} {c : Code} (F : Fx G p l s m args meth c cX5_readInside RX5 4 (some .boolean))  (M : Mem) : Rf G p l e s m args below meth c 7 4 emI (f_X5_readInside_79   M) 79 [] [] M := by
  unfold f_X5_readInside_79
  refine r_iconst F dX5_readInside_79 (v := 0) (by decide) ?_
  exact r_zret F rfl dX5_readInside_80 rfl (by decide)

def f_X5_readInside_66 (y2 : Int32) (z0 : Int32) (M : Mem) : Option (Int32 × Mem) := if y2 ≤ (M.1 2 5) then (f_X5_readInside_79   M) else (if z0 = 0 then (bnd (mw M 2 5 ((M.1 2 5) ||| y2)) fun M88 => some ((1 : Int32), M88)) else (f_X5_readInside_79   M))

set_option maxRecDepth 100000 in
set_option maxHeartbeats 4000000 in
theorem l_X5_readInside_66 {G : GM} {p : Program} {l : Launch} {e : Env} {s : State} {m : MethodId} {args : Array Value} {below : List Frame} {meth : Method} {c : Code} (F : Fx G p l s m args meth c cX5_readInside RX5 4 (some .boolean)) (y2 : Int32) (z0 : Int32) (M : Mem) : Rf G p l e s m args below meth c 7 4 emI (f_X5_readInside_66  y2 z0 M) 66 [(0, .ref (gA G 2)), (2, .int y2)] [.int z0] M := by
  unfold f_X5_readInside_66
  refine r_istore_n (ls' := [(3, .int z0), (0, .ref (gA G 2)), (2, .int y2)]) F dX5_readInside_66 rfl (by decide) rfl ?_
  refine r_iload_n F 2 dX5_readInside_67 rfl rfl ?_
  refine r_aload_n F 1 dX5_readInside_68 rfl rfl ?_
  refine gf_X5_36 F dX5_readInside_69 (rfl : kd 2 = 6) ?_
  refine r_icmp_le (tgt := 79) F dX5_readInside_72 (by decide) (fun c1 => ?_) (fun c1 => ?_)
  · refine r_sub [] rfl ?_
    exact l_X5_readInside_79 F    M
  · refine r_iload_n F 0 dX5_readInside_75 rfl rfl ?_
    refine r_if_eq (tgt := 81) F dX5_readInside_76 (by decide) (fun c2 => ?_) (fun c2 => ?_)
    · refine r_aload_n F 1 dX5_readInside_81 rfl rfl ?_
      refine r_dup F dX5_readInside_82 rfl ?_
      refine gf_X5_36 F dX5_readInside_83 (rfl : kd 2 = 6) ?_
      refine r_iload_n F 2 dX5_readInside_86 rfl rfl ?_
      refine r_ior F dX5_readInside_87 ?_
      refine pf_X5_36 F dX5_readInside_88 (rfl : kd 2 = 6) (fun M88 => ?_)
      refine r_iconst F dX5_readInside_91 (v := 1) (by decide) ?_
      exact r_zret F rfl dX5_readInside_92 rfl (by decide)
    · refine r_sub [] rfl ?_
      exact l_X5_readInside_79 F    M

def f_X5_readInside_65 (y2 : Int32) (M : Mem) : Option (Int32 × Mem) := f_X5_readInside_66  y2 (0 : Int32) M

set_option maxRecDepth 100000 in
set_option maxHeartbeats 4000000 in
theorem l_X5_readInside_65 {G : GM} {p : Program} {l : Launch} {e : Env} {s : State} {m : MethodId} {args : Array Value} {below : List Frame} {meth : Method} {c : Code} (F : Fx G p l s m args meth c cX5_readInside RX5 4 (some .boolean)) (y2 : Int32) (M : Mem) : Rf G p l e s m args below meth c 7 4 emI (f_X5_readInside_65  y2 M) 65 [(0, .ref (gA G 2)), (2, .int y2)] [] M := by
  unfold f_X5_readInside_65
  refine r_iconst F dX5_readInside_65 (v := 0) (by decide) ?_
  refine r_sub [0, 1] rfl ?_
  exact l_X5_readInside_66 F   y2 (0 : Int32) M

def f_X5_readInside_32 (y1 : Int32) (M : Mem) : Option (Int32 × Mem) := bn (f_X5_isTooth y1 M) fun r33 M33 => if r33 = 0 then (some ((0 : Int32), M33)) else (bnd ((1 : Int32) <<< ((y1 - (97 : Int32)) &&& 31)) fun x47 => if (M33.1 2 5) = 0 then (if y1 = (108 : Int32) then (f_X5_readInside_66  x47 (1 : Int32) M33) else (f_X5_readInside_65  x47 M33)) else (f_X5_readInside_65  x47 M33))

set_option maxRecDepth 100000 in
set_option maxHeartbeats 4000000 in
theorem l_X5_readInside_32 {G : GM} {p : Program} {l : Launch} {e : Env} {s : State} {m : MethodId} {args : Array Value} {below : List Frame} {meth : Method} {c : Code} (F : Fx G p l s m args meth c cX5_readInside RX5 4 (some .boolean)) (y1 : Int32) (M : Mem) : Rf G p l e s m args below meth c 7 4 emI (f_X5_readInside_32  y1 M) 32 [(0, .ref (gA G 2)), (1, .int y1)] [] M := by
  unfold f_X5_readInside_32
  refine r_iload_n F 1 dX5_readInside_32 rfl rfl ?_
  refine r_cS (val := vI) (As := [.int y1]) (rest := []) (fun q9 => .int q9 :: []) F (c_X5_isTooth F.st F.gg y1 M) (fun _ _ => rfl) dX5_readInside_33 ml_X5_39 ys_X5_isTooth rfl (by decide) rfl (Nat.le_of_ble_eq_true rfl) (fun _ => rfl) (fun r33 M33 => ?_)
  refine r_if_ne (tgt := 41) F dX5_readInside_36 (by decide) (fun c1 => ?_) (fun c1 => ?_)
  · refine r_iconst F dX5_readInside_39 (v := 0) (by decide) ?_
    exact r_zret F rfl dX5_readInside_40 rfl (by decide)
  · refine r_iconst F dX5_readInside_41 (v := 1) (by decide) ?_
    refine r_iload_n F 1 dX5_readInside_42 rfl rfl ?_
    refine r_bipush F dX5_readInside_43 (v := 97) (by decide) ?_
    refine r_isub F dX5_readInside_45 ?_
    refine r_ishl F dX5_readInside_46 ?_
    refine r_bi (fun x47 => ?_)
    refine r_istore_n (ls' := [(2, .int x47), (0, .ref (gA G 2)), (1, .int y1)]) F dX5_readInside_47 rfl (by decide) rfl ?_
    refine r_aload_n F 1 dX5_readInside_48 rfl rfl ?_
    refine gf_X5_36 F dX5_readInside_49 (rfl : kd 2 = 6) ?_
    refine r_if_ne (tgt := 65) F dX5_readInside_52 (by decide) (fun c2 => ?_) (fun c2 => ?_)
    · refine r_iload_n F 2 dX5_readInside_55 rfl rfl ?_
      refine r_bipush F dX5_readInside_56 (v := 108) (by decide) ?_
      refine r_icmp_ne (tgt := 65) F dX5_readInside_58 (by decide) (fun c3 => ?_) (fun c3 => ?_)
      · refine r_iconst F dX5_readInside_61 (v := 1) (by decide) ?_
        refine r_goto (tgt := 66) F dX5_readInside_62 (by decide) ?_
        refine r_sub [1, 0] rfl ?_
        exact l_X5_readInside_66 F   x47 (1 : Int32) M33
      · refine r_sub [1, 0] rfl ?_
        exact l_X5_readInside_65 F   x47 M33
    · refine r_sub [1, 0] rfl ?_
      exact l_X5_readInside_65 F   x47 M33

def f_X5_readInside (a1 : Int32) (M : Mem) : Option (Int32 × Mem) := if a1 = (41 : Int32) then (bn (f_J6_bitCount_0f7a4 (M.1 2 5) M) fun r10 M10 => if r10 < (2 : Int32) then (f_X5_readInside_32  a1 M10) else (bnd (mw M10 2 4 (0 : Int32)) fun M19 => bn (f_X5_endStep (M19.1 2 5) M19) fun _ M27 => some ((1 : Int32), M27))) else (f_X5_readInside_32  a1 M)

set_option maxRecDepth 100000 in
set_option maxHeartbeats 4000000 in
theorem b_X5_readInside {G : GM} {p : Program} {l : Launch} {e : Env} {s : State} {m : MethodId} {args : Array Value} {below : List Frame} {meth : Method} {c : Code} (F : Fx G p l s m args meth c cX5_readInside RX5 4 (some .boolean)) (a1 : Int32) (M : Mem) : Rf G p l e s m args below meth c 7 4 emI (f_X5_readInside a1 M) 0 [(0, .ref (gA G 2)), (1, .int a1)] [] M := by
  unfold f_X5_readInside
  refine r_iload_n F 1 dX5_readInside_0 rfl rfl ?_
  refine r_bipush F dX5_readInside_1 (v := 41) (by decide) ?_
  refine r_icmp_ne (tgt := 32) F dX5_readInside_3 (by decide) (fun c1 => ?_) (fun c1 => ?_)
  · refine r_aload_n F 0 dX5_readInside_6 rfl rfl ?_
    refine gf_X5_36 F dX5_readInside_7 (rfl : kd 2 = 6) ?_
    refine r_cS (val := vI) (As := [.int (M.1 2 5)]) (rest := []) (fun q9 => .int q9 :: []) F (c_J6_bitCount_0f7a4 F.st F.gg (M.1 2 5) M) (fun _ _ => rfl) dX5_readInside_10 ml_X5_46 ys_J6_bitCount_0f7a4 rfl (by decide) rfl (Nat.le_of_ble_eq_true rfl) (fun _ => rfl) (fun r10 M10 => ?_)
    refine r_iconst F dX5_readInside_13 (v := 2) (by decide) ?_
    refine r_icmp_lt (tgt := 32) F dX5_readInside_14 (by decide) (fun c2 => ?_) (fun c2 => ?_)
    · refine r_sub [0, 1] rfl ?_
      exact l_X5_readInside_32 F   a1 M10
    · refine r_aload_n F 0 dX5_readInside_17 rfl rfl ?_
      refine r_iconst F dX5_readInside_18 (v := 0) (by decide) ?_
      refine pf_X5_22 F dX5_readInside_19 (rfl : kd 2 = 6) rfl (fun M19 => ?_)
      refine r_aload_n F 0 dX5_readInside_22 rfl rfl ?_
      refine r_aload_n F 0 dX5_readInside_23 rfl rfl ?_
      refine gf_X5_36 F dX5_readInside_24 (rfl : kd 2 = 6) ?_
      refine r_cV (val := vU) (As := [.int (M19.1 2 5)]) (rest := []) (fun _ => []) F (c_X5_endStep F.st F.gg (M19.1 2 5) M19) (fun _ _ => rfl) dX5_readInside_27 ml_X5_42 yv_X5_endStep (rfl : kd 2 = 6) (by decide) rfl rfl (by decide) rfl (Nat.le_of_ble_eq_true rfl) (fun _ => rfl) (fun _ M27 => ?_)
      refine r_iconst F dX5_readInside_30 (v := 1) (by decide) ?_
      exact r_zret F rfl dX5_readInside_31 rfl (by decide)
  · refine r_sub [0, 1] rfl ?_
    exact l_X5_readInside_32 F   a1 M

set_option maxRecDepth 100000 in
set_option maxHeartbeats 4000000 in
theorem c_X5_readInside {l : Launch} {G : GM} (hl : l.stackTraces = false) (hG : GG G) (a1 : Int32) (M : Mem) : ∀ r, f_X5_readInside a1 M = some r → Ctr l G yX5_readInside (.code yX5_readInside cX5_readInside 4 (some .boolean) :: wsA) 7 [.ref (gA G 2), .int a1] M (emI r) :=
  ctr_of (by decide) hl hG (Nat.le_of_ble_eq_true rfl) (fun p e s m args below meth c F => b_X5_readInside F a1 M)

-- ===== X5_readOutside DrumTowns$TuneText.readOutside(I)Z =====
theorem yv_X5_readOutside : yV yX5_readOutside cX5_readOutside 2 (some .boolean) 1 := ⟨im_X5_readOutside, sl_X5_readOutside, ini_X5, cd_X5_readOutside, ⟨by decide, by decide, by decide +kernel⟩, by decide⟩

def f_X5_readOutside_59 (z1 : Int32) (M : Mem) : Option (Int32 × Mem) := bn (f_X5_endStep z1 M) fun _ M59 => some ((1 : Int32), M59)

set_option maxRecDepth 100000 in
set_option maxHeartbeats 4000000 in
theorem l_X5_readOutside_59 {G : GM} {p : Program} {l : Launch} {e : Env} {s : State} {m : MethodId} {args : Array Value} {below : List Frame} {meth : Method} {c : Code} (F : Fx G p l s m args meth c cX5_readOutside RX5 2 (some .boolean)) (z1 : Int32) (M : Mem) : Rf G p l e s m args below meth c 7 2 emI (f_X5_readOutside_59  z1 M) 59 [] [.int z1, .ref (gA G 2)] M := by
  unfold f_X5_readOutside_59
  refine r_cV (val := vU) (As := [.int z1]) (rest := []) (fun _ => []) F (c_X5_endStep F.st F.gg z1 M) (fun _ _ => rfl) dX5_readOutside_59 ml_X5_42 yv_X5_endStep (rfl : kd 2 = 6) (by decide) rfl rfl (by decide) rfl (Nat.le_of_ble_eq_true rfl) (fun _ => rfl) (fun _ M59 => ?_)
  refine r_iconst F dX5_readOutside_62 (v := 1) (by decide) ?_
  exact r_zret F rfl dX5_readOutside_63 rfl (by decide)

def f_X5_readOutside_42 (y1 : Int32) (M : Mem) : Option (Int32 × Mem) := if y1 = (45 : Int32) then (f_X5_readOutside_59  (0 : Int32) M) else (f_X5_readOutside_59  ((1 : Int32) <<< ((y1 - (97 : Int32)) &&& 31)) M)

set_option maxRecDepth 100000 in
set_option maxHeartbeats 4000000 in
theorem l_X5_readOutside_42 {G : GM} {p : Program} {l : Launch} {e : Env} {s : State} {m : MethodId} {args : Array Value} {below : List Frame} {meth : Method} {c : Code} (F : Fx G p l s m args meth c cX5_readOutside RX5 2 (some .boolean)) (y1 : Int32) (M : Mem) : Rf G p l e s m args below meth c 7 2 emI (f_X5_readOutside_42  y1 M) 42 [(0, .ref (gA G 2)), (1, .int y1)] [] M := by
  unfold f_X5_readOutside_42
  refine r_aload_n F 0 dX5_readOutside_42 rfl rfl ?_
  refine r_iload_n F 1 dX5_readOutside_43 rfl rfl ?_
  refine r_bipush F dX5_readOutside_44 (v := 45) (by decide) ?_
  refine r_icmp_ne (tgt := 53) F dX5_readOutside_46 (by decide) (fun c1 => ?_) (fun c1 => ?_)
  · refine r_iconst F dX5_readOutside_49 (v := 0) (by decide) ?_
    refine r_goto (tgt := 59) F dX5_readOutside_50 (by decide) ?_
    refine r_sub [] rfl ?_
    exact l_X5_readOutside_59 F   (0 : Int32) M
  · refine r_iconst F dX5_readOutside_53 (v := 1) (by decide) ?_
    refine r_iload_n F 1 dX5_readOutside_54 rfl rfl ?_
    refine r_bipush F dX5_readOutside_55 (v := 97) (by decide) ?_
    refine r_isub F dX5_readOutside_57 ?_
    refine r_ishl F dX5_readOutside_58 ?_
    refine r_sub [] rfl ?_
    exact l_X5_readOutside_59 F   ((1 : Int32) <<< ((y1 - (97 : Int32)) &&& 31)) M

def f_X5_readOutside (a1 : Int32) (M : Mem) : Option (Int32 × Mem) := if (M.1 2 3) < (24 : Int32) then (if a1 = (40 : Int32) then (bnd (mw M 2 4 (1 : Int32)) fun M19 => bnd (mw M19 2 5 (0 : Int32)) fun M24 => some ((1 : Int32), M24)) else (if a1 = (45 : Int32) then (f_X5_readOutside_42  a1 M) else (bn (f_X5_isTooth a1 M) fun r36 M36 => if r36 = 0 then (some ((0 : Int32), M36)) else (f_X5_readOutside_42  a1 M36)))) else (some ((0 : Int32), M))

set_option maxRecDepth 100000 in
set_option maxHeartbeats 4000000 in
theorem b_X5_readOutside {G : GM} {p : Program} {l : Launch} {e : Env} {s : State} {m : MethodId} {args : Array Value} {below : List Frame} {meth : Method} {c : Code} (F : Fx G p l s m args meth c cX5_readOutside RX5 2 (some .boolean)) (a1 : Int32) (M : Mem) : Rf G p l e s m args below meth c 7 2 emI (f_X5_readOutside a1 M) 0 [(0, .ref (gA G 2)), (1, .int a1)] [] M := by
  unfold f_X5_readOutside
  refine r_aload_n F 0 dX5_readOutside_0 rfl rfl ?_
  refine gf_X5_18 F dX5_readOutside_1 (rfl : kd 2 = 6) ?_
  refine r_bipush F dX5_readOutside_4 (v := 24) (by decide) ?_
  refine r_icmp_lt (tgt := 11) F dX5_readOutside_6 (by decide) (fun c1 => ?_) (fun c1 => ?_)
  · refine r_iload_n F 1 dX5_readOutside_11 rfl rfl ?_
    refine r_bipush F dX5_readOutside_12 (v := 40) (by decide) ?_
    refine r_icmp_ne (tgt := 29) F dX5_readOutside_14 (by decide) (fun c2 => ?_) (fun c2 => ?_)
    · refine r_aload_n F 0 dX5_readOutside_17 rfl rfl ?_
      refine r_iconst F dX5_readOutside_18 (v := 1) (by decide) ?_
      refine pf_X5_22 F dX5_readOutside_19 (rfl : kd 2 = 6) rfl (fun M19 => ?_)
      refine r_aload_n F 0 dX5_readOutside_22 rfl rfl ?_
      refine r_iconst F dX5_readOutside_23 (v := 0) (by decide) ?_
      refine pf_X5_36 F dX5_readOutside_24 (rfl : kd 2 = 6) (fun M24 => ?_)
      refine r_iconst F dX5_readOutside_27 (v := 1) (by decide) ?_
      exact r_zret F rfl dX5_readOutside_28 rfl (by decide)
    · refine r_iload_n F 1 dX5_readOutside_29 rfl rfl ?_
      refine r_bipush F dX5_readOutside_30 (v := 45) (by decide) ?_
      refine r_icmp_eq (tgt := 42) F dX5_readOutside_32 (by decide) (fun c3 => ?_) (fun c3 => ?_)
      · refine r_sub [0, 1] rfl ?_
        exact l_X5_readOutside_42 F   a1 M
      · refine r_iload_n F 1 dX5_readOutside_35 rfl rfl ?_
        refine r_cS (val := vI) (As := [.int a1]) (rest := []) (fun q9 => .int q9 :: []) F (c_X5_isTooth F.st F.gg a1 M) (fun _ _ => rfl) dX5_readOutside_36 ml_X5_39 ys_X5_isTooth rfl (by decide) rfl (Nat.le_of_ble_eq_true rfl) (fun _ => rfl) (fun r36 M36 => ?_)
        refine r_if_eq (tgt := 64) F dX5_readOutside_39 (by decide) (fun c4 => ?_) (fun c4 => ?_)
        · refine r_iconst F dX5_readOutside_64 (v := 0) (by decide) ?_
          exact r_zret F rfl dX5_readOutside_65 rfl (by decide)
        · refine r_sub [0, 1] rfl ?_
          exact l_X5_readOutside_42 F   a1 M36
  · refine r_iconst F dX5_readOutside_9 (v := 0) (by decide) ?_
    exact r_zret F rfl dX5_readOutside_10 rfl (by decide)

set_option maxRecDepth 100000 in
set_option maxHeartbeats 4000000 in
theorem c_X5_readOutside {l : Launch} {G : GM} (hl : l.stackTraces = false) (hG : GG G) (a1 : Int32) (M : Mem) : ∀ r, f_X5_readOutside a1 M = some r → Ctr l G yX5_readOutside (.code yX5_readOutside cX5_readOutside 2 (some .boolean) :: wsA) 7 [.ref (gA G 2), .int a1] M (emI r) :=
  ctr_of (by decide) hl hG (Nat.le_of_ble_eq_true rfl) (fun p e s m args below meth c F => b_X5_readOutside F a1 M)

-- ===== X5_readAll DrumTowns$TuneText.readAll()I =====
theorem yv_X5_readAll : yV yX5_readAll cX5_readAll 3 (some .int) 0 := ⟨im_X5_readAll, sl_X5_readAll, ini_X5, cd_X5_readAll, ⟨by decide, by decide, by decide +kernel⟩, by decide⟩

def f_X5_readAll_77 (k33 : Int32 → Mem → Option (Int32 × Mem)) (y1 : Int32) (z0 : Int32) (M : Mem) : Option (Int32 × Mem) := if z0 = 0 then (some (y1, M)) else (bnd (y1 + (1 : Int32)) fun x84 => k33 x84 M)

set_option maxRecDepth 100000 in
set_option maxHeartbeats 4000000 in
theorem l_X5_readAll_77 {G : GM} {p : Program} {l : Launch} {e : Env} {s : State} {m : MethodId} {args : Array Value} {below : List Frame} {meth : Method} {c : Code} (F : Fx G p l s m args meth c cX5_readAll RX5 3 (some .int)) (k33 : Int32 → Mem → Option (Int32 × Mem)) (H33 : ∀ (y1 : Int32) (M : Mem), Rf G p l e s m args below meth c 8 3 emI (k33 y1 M) 33 [(0, .ref (gA G 2)), (1, .int y1)] [] M) (y1 : Int32) (z0 : Int32) (M : Mem) : Rf G p l e s m args below meth c 8 3 emI (f_X5_readAll_77 k33 y1 z0 M) 77 [(0, .ref (gA G 2)), (1, .int y1)] [.int z0] M := by
  unfold f_X5_readAll_77
  refine r_istore_n (ls' := [(2, .int z0), (0, .ref (gA G 2)), (1, .int y1)]) F dX5_readAll_77 rfl (by decide) rfl ?_
  refine r_iload_n F 0 dX5_readAll_78 rfl rfl ?_
  refine r_if_ne (tgt := 84) F dX5_readAll_79 (by decide) (fun c1 => ?_) (fun c1 => ?_)
  · refine r_iload_n F 2 dX5_readAll_82 rfl rfl ?_
    exact r_iret F rfl dX5_readAll_83 rfl
  · refine r_iinc (ls' := fun q9 => [(1, .int q9), (2, .int z0), (0, .ref (gA G 2))]) (k := 2) (v := y1 + (1 : Int32)) F dX5_readAll_84 rfl rfl (by decide) (fun _ => rfl) (fun x84 => ?_)
    refine r_goto (tgt := 33) F dX5_readAll_87 (by decide) ?_
    refine r_sub [2, 0] rfl ?_
    exact H33 x84 M

def f_X5_readAll_90  (M : Mem) : Option (Int32 × Mem) := some ((M.1 2 1), M)

set_option maxRecDepth 100000 in
set_option maxHeartbeats 4000000 in
theorem l_X5_readAll_90 {G : GM} {p : Program} {l : Launch} {e : Env} {s : State} {m : MethodId} {args : Array Value} {below : List Frame} {meth : Method} {c : Code} (F : Fx G p l s m args meth c cX5_readAll RX5 3 (some .int))  (M : Mem) : Rf G p l e s m args below meth c 8 3 emI (f_X5_readAll_90   M) 90 [(0, .ref (gA G 2))] [] M := by
  unfold f_X5_readAll_90
  refine r_aload_n F 0 dX5_readAll_90 rfl rfl ?_
  refine gf_X5_26 F dX5_readAll_91 (rfl : kd 2 = 6) ?_
  exact r_iret F rfl dX5_readAll_94 rfl

def f_X5_readAll_33 : Nat → Int32 → Mem → Option (Int32 × Mem)
  | 0, _, _ => none
  | n + 1, y1, M => if (M.1 2 1) ≤ y1 then (f_X5_readAll_90   M) else (if (60 : Int32) ≤ y1 then (f_X5_readAll_90   M) else (if (M.1 2 4) = 0 then (chk (inb y1 60) <| bn (f_X5_readOutside (M.1 3 y1.toNatClampNeg) M) fun r74 M74 => f_X5_readAll_77 (f_X5_readAll_33  n) y1 r74 M74) else (chk (inb y1 60) <| bn (f_X5_readInside (M.1 3 y1.toNatClampNeg) M) fun r61 M61 => f_X5_readAll_77 (f_X5_readAll_33  n) y1 r61 M61)))

set_option maxRecDepth 100000 in
set_option maxHeartbeats 4000000 in
theorem l_X5_readAll_33 {G : GM} {p : Program} {l : Launch} {e : Env} {s : State} {m : MethodId} {args : Array Value} {below : List Frame} {meth : Method} {c : Code} (F : Fx G p l s m args meth c cX5_readAll RX5 3 (some .int)) : ∀ (n : Nat) (y1 : Int32) (M : Mem), Rf G p l e s m args below meth c 8 3 emI (f_X5_readAll_33  n y1 M) 33 [(0, .ref (gA G 2)), (1, .int y1)] [] M := by
  intro n
  induction n with
  | zero => intros; exact r_none
  | succ n ih =>
    intro y1 M
    rw [f_X5_readAll_33]
    refine r_iload_n F 1 dX5_readAll_33 rfl rfl ?_
    refine r_aload_n F 0 dX5_readAll_34 rfl rfl ?_
    refine gf_X5_26 F dX5_readAll_35 (rfl : kd 2 = 6) ?_
    refine r_icmp_ge (tgt := 90) F dX5_readAll_38 (by decide) (fun c1 => ?_) (fun c1 => ?_)
    · refine r_sub [0] rfl ?_
      exact l_X5_readAll_90 F    M
    · refine r_iload_n F 1 dX5_readAll_41 rfl rfl ?_
      refine r_bipush F dX5_readAll_42 (v := 60) (by decide) ?_
      refine r_icmp_ge (tgt := 90) F dX5_readAll_44 (by decide) (fun c2 => ?_) (fun c2 => ?_)
      · refine r_sub [0] rfl ?_
        exact l_X5_readAll_90 F    M
      · refine r_aload_n F 0 dX5_readAll_47 rfl rfl ?_
        refine gf_X5_22 F dX5_readAll_48 (rfl : kd 2 = 6) ?_
        refine r_if_eq (tgt := 67) F dX5_readAll_51 (by decide) (fun c3 => ?_) (fun c3 => ?_)
        · refine r_aload_n F 0 dX5_readAll_67 rfl rfl ?_
          refine r_aload_n F 0 dX5_readAll_68 rfl rfl ?_
          refine gf_X5_9 F dX5_readAll_69 (rfl : kd 2 = 6) ?_
          refine r_iload_n F 1 dX5_readAll_72 rfl rfl ?_
          refine r_chk (fun h4 => ?_)
          refine r_iald F dX5_readAll_73 (rfl : kd 3 = 8) (rfl : al 3 = 60) h4 ?_
          refine r_cV (val := vI) (As := [.int (M.1 3 y1.toNatClampNeg)]) (rest := []) (fun q9 => .int q9 :: []) F (c_X5_readOutside F.st F.gg (M.1 3 y1.toNatClampNeg) M) (fun _ _ => rfl) dX5_readAll_74 ml_X5_33 yv_X5_readOutside (rfl : kd 2 = 6) (by decide) rfl rfl (by decide) rfl (Nat.le_of_ble_eq_true rfl) (fun _ => rfl) (fun r74 M74 => ?_)
          refine r_sub [0, 1] rfl ?_
          exact l_X5_readAll_77 F (f_X5_readAll_33  n) (fun q0 M9 => ih q0 M9) y1 r74 M74
        · refine r_aload_n F 0 dX5_readAll_54 rfl rfl ?_
          refine r_aload_n F 0 dX5_readAll_55 rfl rfl ?_
          refine gf_X5_9 F dX5_readAll_56 (rfl : kd 2 = 6) ?_
          refine r_iload_n F 1 dX5_readAll_59 rfl rfl ?_
          refine r_chk (fun h5 => ?_)
          refine r_iald F dX5_readAll_60 (rfl : kd 3 = 8) (rfl : al 3 = 60) h5 ?_
          refine r_cV (val := vI) (As := [.int (M.1 3 y1.toNatClampNeg)]) (rest := []) (fun q9 => .int q9 :: []) F (c_X5_readInside F.st F.gg (M.1 3 y1.toNatClampNeg) M) (fun _ _ => rfl) dX5_readAll_61 ml_X5_29 yv_X5_readInside (rfl : kd 2 = 6) (by decide) rfl rfl (by decide) rfl (Nat.le_of_ble_eq_true rfl) (fun _ => rfl) (fun r61 M61 => ?_)
          refine r_goto (tgt := 77) F dX5_readAll_64 (by decide) ?_
          refine r_sub [0, 1] rfl ?_
          exact l_X5_readAll_77 F (f_X5_readAll_33  n) (fun q0 M9 => ih q0 M9) y1 r61 M61

def f_X5_readAll_2 : Nat → Int32 → Mem → Option (Int32 × Mem)
  | 0, _, _ => none
  | n + 1, y1, M => if (24 : Int32) ≤ y1 then (bnd (mw M 2 3 (0 : Int32)) fun M23 => bnd (mw M23 2 4 (0 : Int32)) fun M28 => f_X5_readAll_33  FU (0 : Int32) M28) else (chk (inb y1 24) <| bnd (mw M 4 y1.toNatClampNeg (0 : Int32)) fun M14 => bnd (y1 + (1 : Int32)) fun x15 => f_X5_readAll_2  n x15 M14)

set_option maxRecDepth 100000 in
set_option maxHeartbeats 4000000 in
theorem l_X5_readAll_2 {G : GM} {p : Program} {l : Launch} {e : Env} {s : State} {m : MethodId} {args : Array Value} {below : List Frame} {meth : Method} {c : Code} (F : Fx G p l s m args meth c cX5_readAll RX5 3 (some .int)) : ∀ (n : Nat) (y1 : Int32) (M : Mem), Rf G p l e s m args below meth c 8 3 emI (f_X5_readAll_2  n y1 M) 2 [(0, .ref (gA G 2)), (1, .int y1)] [] M := by
  intro n
  induction n with
  | zero => intros; exact r_none
  | succ n ih =>
    intro y1 M
    rw [f_X5_readAll_2]
    refine r_iload_n F 1 dX5_readAll_2 rfl rfl ?_
    refine r_bipush F dX5_readAll_3 (v := 24) (by decide) ?_
    refine r_icmp_ge (tgt := 21) F dX5_readAll_5 (by decide) (fun c1 => ?_) (fun c1 => ?_)
    · refine r_aload_n F 0 dX5_readAll_21 rfl rfl ?_
      refine r_iconst F dX5_readAll_22 (v := 0) (by decide) ?_
      refine pf_X5_18 F dX5_readAll_23 (rfl : kd 2 = 6) (fun M23 => ?_)
      refine r_aload_n F 0 dX5_readAll_26 rfl rfl ?_
      refine r_iconst F dX5_readAll_27 (v := 0) (by decide) ?_
      refine pf_X5_22 F dX5_readAll_28 (rfl : kd 2 = 6) rfl (fun M28 => ?_)
      refine r_iconst F dX5_readAll_31 (v := 0) (by decide) ?_
      refine r_istore_n (ls' := [(1, .int (0 : Int32)), (0, .ref (gA G 2))]) F dX5_readAll_32 rfl (by decide) rfl ?_
      refine r_sub [1, 0] rfl ?_
      exact l_X5_readAll_33 F   FU (0 : Int32) M28
    · refine r_aload_n F 0 dX5_readAll_8 rfl rfl ?_
      refine gf_X5_15 F dX5_readAll_9 (rfl : kd 2 = 6) ?_
      refine r_iload_n F 1 dX5_readAll_12 rfl rfl ?_
      refine r_iconst F dX5_readAll_13 (v := 0) (by decide) ?_
      refine r_chk (fun h2 => ?_)
      refine r_iast F dX5_readAll_14 (rfl : kd 4 = 8) (rfl : al 4 = 24) h2 (fun M14 => ?_)
      refine r_iinc (ls' := fun q9 => [(1, .int q9), (0, .ref (gA G 2))]) (k := 1) (v := y1 + (1 : Int32)) F dX5_readAll_15 rfl rfl (by decide) (fun _ => rfl) (fun x15 => ?_)
      refine r_goto (tgt := 2) F dX5_readAll_18 (by decide) ?_
      refine r_sub [1, 0] rfl ?_
      exact ih x15 M14

def f_X5_readAll  (M : Mem) : Option (Int32 × Mem) := f_X5_readAll_2  FU (0 : Int32) M

set_option maxRecDepth 100000 in
set_option maxHeartbeats 4000000 in
theorem b_X5_readAll {G : GM} {p : Program} {l : Launch} {e : Env} {s : State} {m : MethodId} {args : Array Value} {below : List Frame} {meth : Method} {c : Code} (F : Fx G p l s m args meth c cX5_readAll RX5 3 (some .int))  (M : Mem) : Rf G p l e s m args below meth c 8 3 emI (f_X5_readAll  M) 0 [(0, .ref (gA G 2))] [] M := by
  unfold f_X5_readAll
  refine r_iconst F dX5_readAll_0 (v := 0) (by decide) ?_
  refine r_istore_n (ls' := [(1, .int (0 : Int32)), (0, .ref (gA G 2))]) F dX5_readAll_1 rfl (by decide) rfl ?_
  refine r_sub [1, 0] rfl ?_
  exact l_X5_readAll_2 F   FU (0 : Int32) M

set_option maxRecDepth 100000 in
set_option maxHeartbeats 4000000 in
theorem c_X5_readAll {l : Launch} {G : GM} (hl : l.stackTraces = false) (hG : GG G)  (M : Mem) : ∀ r, f_X5_readAll  M = some r → Ctr l G yX5_readAll (.code yX5_readAll cX5_readAll 3 (some .int) :: wsA) 8 [.ref (gA G 2)] M (emI r) :=
  ctr_of (by decide) hl hG (Nat.le_of_ble_eq_true rfl) (fun p e s m args below meth c F => b_X5_readAll F  M)

-- ===== X6_dropOldest DrumTowns.dropOldest()V =====
theorem yv_X6_dropOldest : yV yX6_dropOldest cX6_dropOldest 3 none 0 := ⟨im_X6_dropOldest, sl_X6_dropOldest, ini_X6, cd_X6_dropOldest, ⟨by decide, by decide, by decide +kernel⟩, by decide⟩

def f_X6_dropOldest_9 : Nat → Nat → Int32 → Mem → Option (Unit × Mem)
  | 0, _, _, _ => none
  | n + 1, y1, y2, M => if (6 : Int32) ≤ y2 then (chk (kb y1 1) <| chk (inb (5 : Int32) 6) <| bnd (mw M 1 (5 : Int32).toNatClampNeg (Int32.ofNat (y1 / 34))) fun M41 => bnd (mw M41 0 2 (5 : Int32)) fun M44 => some ((), M44)) else (chk (inb y2 6) <| chk (kb (sv M 1 y2) 1) <| bnd (sv M 1 y2) fun b27 => chk (inb (y2 - (1 : Int32)) 6) <| bnd (mw M 1 (y2 - (1 : Int32)).toNatClampNeg (Int32.ofNat (b27 / 34))) fun M28 => bnd (y2 + (1 : Int32)) fun x29 => f_X6_dropOldest_9  n y1 x29 M28)

set_option maxRecDepth 100000 in
set_option maxHeartbeats 4000000 in
theorem l_X6_dropOldest_9 {G : GM} {p : Program} {l : Launch} {e : Env} {s : State} {m : MethodId} {args : Array Value} {below : List Frame} {meth : Method} {c : Code} (F : Fx G p l s m args meth c cX6_dropOldest RX6 3 none) : ∀ (n : Nat) (y1 : Nat) (y2 : Int32) (M : Mem), Rf G p l e s m args below meth c 6 3 emV (f_X6_dropOldest_9  n y1 y2 M) 9 [(0, .ref (gA G 0)), (1, .ref (gA G y1)), (2, .int y2)] [] M := by
  intro n
  induction n with
  | zero => intros; exact r_none
  | succ n ih =>
    intro y1 y2 M
    rw [f_X6_dropOldest_9]
    refine r_iload_n F 2 dX6_dropOldest_9 rfl rfl ?_
    refine r_bipush F dX6_dropOldest_10 (v := 6) (by decide) ?_
    refine r_icmp_ge (tgt := 35) F dX6_dropOldest_12 (by decide) (fun c1 => ?_) (fun c1 => ?_)
    · refine r_aload_n F 0 dX6_dropOldest_35 rfl rfl ?_
      refine gf_X6_16 F dX6_dropOldest_36 (rfl : kd 0 = 0) ?_
      refine r_iconst F dX6_dropOldest_39 (v := 5) (by decide) ?_
      refine r_aload_n F 1 dX6_dropOldest_40 rfl rfl ?_
      refine r_chk (fun h2 => ?_)
      refine r_chk (fun h3 => ?_)
      refine r_aastS F dX6_dropOldest_41 (rfl : kd 1 = 10) h3 (kb_k h2) (fun M41 => ?_)
      refine r_aload_n F 0 dX6_dropOldest_42 rfl rfl ?_
      refine r_iconst F dX6_dropOldest_43 (v := 5) (by decide) ?_
      refine pf_X6_208 F dX6_dropOldest_44 (rfl : kd 0 = 0) (fun M44 => ?_)
      exact r_vret F rfl dX6_dropOldest_47 rfl
    · refine r_aload_n F 0 dX6_dropOldest_15 rfl rfl ?_
      refine gf_X6_16 F dX6_dropOldest_16 (rfl : kd 0 = 0) ?_
      refine r_iload_n F 2 dX6_dropOldest_19 rfl rfl ?_
      refine r_iconst F dX6_dropOldest_20 (v := 1) (by decide) ?_
      refine r_isub F dX6_dropOldest_21 ?_
      refine r_aload_n F 0 dX6_dropOldest_22 rfl rfl ?_
      refine gf_X6_16 F dX6_dropOldest_23 (rfl : kd 0 = 0) ?_
      refine r_iload_n F 2 dX6_dropOldest_26 rfl rfl ?_
      refine r_chk (fun h4 => ?_)
      refine r_chk (fun h5 => ?_)
      refine r_aaldS F dX6_dropOldest_27 (rfl : kd 1 = 10) h4 ?_
      refine r_br (kb_k h5) (fun b27 k27 => ?_)
      refine r_chk (fun h6 => ?_)
      refine r_aastS F dX6_dropOldest_28 (rfl : kd 1 = 10) h6 k27 (fun M28 => ?_)
      refine r_iinc (ls' := fun q9 => [(2, .int q9), (0, .ref (gA G 0)), (1, .ref (gA G y1))]) (k := 2) (v := y2 + (1 : Int32)) F dX6_dropOldest_29 rfl rfl (by decide) (fun _ => rfl) (fun x29 => ?_)
      refine r_goto (tgt := 9) F dX6_dropOldest_32 (by decide) ?_
      refine r_sub [1, 2, 0] rfl ?_
      exact ih y1 x29 M28

def f_X6_dropOldest  (M : Mem) : Option (Unit × Mem) := chk (inb (0 : Int32) 6) <| chk (kb (sv M 1 (0 : Int32)) 1) <| bnd (sv M 1 (0 : Int32)) fun b5 => f_X6_dropOldest_9  FU b5 (1 : Int32) M

set_option maxRecDepth 100000 in
set_option maxHeartbeats 4000000 in
theorem b_X6_dropOldest {G : GM} {p : Program} {l : Launch} {e : Env} {s : State} {m : MethodId} {args : Array Value} {below : List Frame} {meth : Method} {c : Code} (F : Fx G p l s m args meth c cX6_dropOldest RX6 3 none)  (M : Mem) : Rf G p l e s m args below meth c 6 3 emV (f_X6_dropOldest  M) 0 [(0, .ref (gA G 0))] [] M := by
  unfold f_X6_dropOldest
  refine r_aload_n F 0 dX6_dropOldest_0 rfl rfl ?_
  refine gf_X6_16 F dX6_dropOldest_1 (rfl : kd 0 = 0) ?_
  refine r_iconst F dX6_dropOldest_4 (v := 0) (by decide) ?_
  refine r_chk (fun h1 => ?_)
  refine r_chk (fun h2 => ?_)
  refine r_aaldS F dX6_dropOldest_5 (rfl : kd 1 = 10) h1 ?_
  refine r_br (kb_k h2) (fun b5 k5 => ?_)
  refine r_astore_n (ls' := [(1, .ref (gA G b5)), (0, .ref (gA G 0))]) F dX6_dropOldest_6 rfl (by decide) rfl ?_
  refine r_iconst F dX6_dropOldest_7 (v := 1) (by decide) ?_
  refine r_istore_n (ls' := [(2, .int (1 : Int32)), (1, .ref (gA G b5)), (0, .ref (gA G 0))]) F dX6_dropOldest_8 rfl (by decide) rfl ?_
  refine r_sub [2, 1, 0] rfl ?_
  exact l_X6_dropOldest_9 F   FU b5 (1 : Int32) M

set_option maxRecDepth 100000 in
set_option maxHeartbeats 4000000 in
theorem c_X6_dropOldest {l : Launch} {G : GM} (hl : l.stackTraces = false) (hG : GG G)  (M : Mem) : ∀ r, f_X6_dropOldest  M = some r → Ctr l G yX6_dropOldest (.code yX6_dropOldest cX6_dropOldest 3 none :: wsA) 6 [.ref (gA G 0)] M (emV r) :=
  ctr_of (by decide) hl hG (Nat.le_of_ble_eq_true rfl) (fun p e s m args below meth c F => b_X6_dropOldest F  M)

-- ===== X6_saveState DrumTowns.saveState()V =====
theorem yv_X6_saveState : yV yX6_saveState cX6_saveState 1 none 0 := ⟨im_X6_saveState, sl_X6_saveState, ini_X6, cd_X6_saveState, ⟨by decide, by decide, by decide +kernel⟩, by decide⟩

def f_X6_saveState_13  (M : Mem) : Option (Unit × Mem) := chk (inb (M.1 0 2) 6) <| chk (kb (sv M 1 (M.1 0 2)) 1) <| bnd (sv M 1 (M.1 0 2)) fun b21 => bn (f_X0_takeFrom b21 34 M) fun _ M26 => bnd (mw M26 0 2 ((M26.1 0 2) + (1 : Int32))) fun M36 => some ((), M36)

set_option maxRecDepth 100000 in
set_option maxHeartbeats 4000000 in
theorem l_X6_saveState_13 {G : GM} {p : Program} {l : Launch} {e : Env} {s : State} {m : MethodId} {args : Array Value} {below : List Frame} {meth : Method} {c : Code} (F : Fx G p l s m args meth c cX6_saveState RX6 1 none)  (M : Mem) : Rf G p l e s m args below meth c 9 1 emV (f_X6_saveState_13   M) 13 [(0, .ref (gA G 0))] [] M := by
  unfold f_X6_saveState_13
  refine r_aload_n F 0 dX6_saveState_13 rfl rfl ?_
  refine gf_X6_16 F dX6_saveState_14 (rfl : kd 0 = 0) ?_
  refine r_aload_n F 0 dX6_saveState_17 rfl rfl ?_
  refine gf_X6_208 F dX6_saveState_18 (rfl : kd 0 = 0) ?_
  refine r_chk (fun h1 => ?_)
  refine r_chk (fun h2 => ?_)
  refine r_aaldS F dX6_saveState_21 (rfl : kd 1 = 10) h1 ?_
  refine r_br (kb_k h2) (fun b21 k21 => ?_)
  refine r_aload_n F 0 dX6_saveState_22 rfl rfl ?_
  refine gf_X6_10 F dX6_saveState_23 (rfl : kd 0 = 0) ?_
  refine r_cVN (val := vU) (As := [.ref (gA G 34)]) (rest := []) (fun _ => []) F (c_X0_takeFrom F.st F.gg b21 34 M) (fun _ _ => rfl) dX6_saveState_26 mn_X6_213 yv_X0_takeFrom k21 (by decide) rfl rfl (by decide) rfl (Nat.le_of_ble_eq_true rfl) (fun _ => rfl) (fun _ M26 => ?_)
  refine r_aload_n F 0 dX6_saveState_29 rfl rfl ?_
  refine r_dup F dX6_saveState_30 rfl ?_
  refine gf_X6_208 F dX6_saveState_31 (rfl : kd 0 = 0) ?_
  refine r_iconst F dX6_saveState_34 (v := 1) (by decide) ?_
  refine r_iadd F dX6_saveState_35 ?_
  refine pf_X6_208 F dX6_saveState_36 (rfl : kd 0 = 0) (fun M36 => ?_)
  exact r_vret F rfl dX6_saveState_39 rfl

def f_X6_saveState  (M : Mem) : Option (Unit × Mem) := if (M.1 0 2) < (6 : Int32) then (f_X6_saveState_13   M) else (bn (f_X6_dropOldest M) fun _ M10 => f_X6_saveState_13   M10)

set_option maxRecDepth 100000 in
set_option maxHeartbeats 4000000 in
theorem b_X6_saveState {G : GM} {p : Program} {l : Launch} {e : Env} {s : State} {m : MethodId} {args : Array Value} {below : List Frame} {meth : Method} {c : Code} (F : Fx G p l s m args meth c cX6_saveState RX6 1 none)  (M : Mem) : Rf G p l e s m args below meth c 9 1 emV (f_X6_saveState  M) 0 [(0, .ref (gA G 0))] [] M := by
  unfold f_X6_saveState
  refine r_aload_n F 0 dX6_saveState_0 rfl rfl ?_
  refine gf_X6_208 F dX6_saveState_1 (rfl : kd 0 = 0) ?_
  refine r_bipush F dX6_saveState_4 (v := 6) (by decide) ?_
  refine r_icmp_lt (tgt := 13) F dX6_saveState_6 (by decide) (fun c1 => ?_) (fun c1 => ?_)
  · refine r_sub [0] rfl ?_
    exact l_X6_saveState_13 F    M
  · refine r_aload_n F 0 dX6_saveState_9 rfl rfl ?_
    refine r_cV (val := vU) (As := []) (rest := []) (fun _ => []) F (c_X6_dropOldest F.st F.gg  M) (fun _ _ => rfl) dX6_saveState_10 ml_X6_372 yv_X6_dropOldest (rfl : kd 0 = 0) (by decide) rfl rfl (by decide) rfl (Nat.le_of_ble_eq_true rfl) (fun _ => rfl) (fun _ M10 => ?_)
    refine r_sub [0] rfl ?_
    exact l_X6_saveState_13 F    M10

set_option maxRecDepth 100000 in
set_option maxHeartbeats 4000000 in
theorem c_X6_saveState {l : Launch} {G : GM} (hl : l.stackTraces = false) (hG : GG G)  (M : Mem) : ∀ r, f_X6_saveState  M = some r → Ctr l G yX6_saveState (.code yX6_saveState cX6_saveState 1 none :: wsA) 9 [.ref (gA G 0)] M (emV r) :=
  ctr_of (by decide) hl hG (Nat.le_of_ble_eq_true rfl) (fun p e s m args below meth c F => b_X6_saveState F  M)

