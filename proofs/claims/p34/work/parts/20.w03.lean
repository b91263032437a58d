-- ===== X6_dullTeeth DrumTowns.dullTeeth([II)I =====
theorem ys_X6_dullTeeth : yS yX6_dullTeeth cX6_dullTeeth 7 (some .int) 2 := ⟨sc_X6_dullTeeth, ini_X6, cd_X6_dullTeeth, ⟨by decide, by decide, by decide +kernel⟩, by decide⟩

def f_X6_dullTeeth_33 (k11 : Int32 → Int32 → Nat → Int32 → Int32 → Mem → Option (Int32 × Mem)) (y1 : Int32) (y2 : Int32) (y3 : Nat) (y4 : Int32) (y5 : Int32) (M : Mem) : Option (Int32 × Mem) := bnd (y5 + (1 : Int32)) fun x33 => k11 y1 y2 y3 y4 x33 M

set_option maxRecDepth 100000 in
set_option maxHeartbeats 4000000 in
theorem l_X6_dullTeeth_33 {G : GM} {p : Program} {l : Launch} {e : Env} {s : State} {m : MethodId} {args : Array Value} {below : List Frame} {meth : Method} {c : Code} (F : Fx G p l s m args meth c cX6_dullTeeth RX6 7 (some .int)) (k11 : Int32 → Int32 → Nat → Int32 → Int32 → Mem → Option (Int32 × Mem)) (H11 : ∀ (y1 : Int32) (y2 : Int32) (y3 : Nat) (y4 : Int32) (y5 : Int32) (M : Mem), Rf G p l e s m args below meth c 6 7 emI (k11 y1 y2 y3 y4 y5 M) 11 [(1, .int y1), (2, .int y2), (3, .ref (gA G y3)), (4, .int y4), (5, .int y5)] [] M) (y1 : Int32) (y2 : Int32) (y3 : Nat) (y4 : Int32) (y5 : Int32) (M : Mem) : Rf G p l e s m args below meth c 6 7 emI (f_X6_dullTeeth_33 k11 y1 y2 y3 y4 y5 M) 33 [(1, .int y1), (2, .int y2), (3, .ref (gA G y3)), (4, .int y4), (5, .int y5)] [] M := by
  unfold f_X6_dullTeeth_33
  refine r_iinc (ls' := fun q9 => [(5, .int q9), (1, .int y1), (2, .int y2), (3, .ref (gA G y3)), (4, .int y4)]) (k := 4) (v := y5 + (1 : Int32)) F dX6_dullTeeth_33 rfl rfl (by decide) (fun _ => rfl) (fun x33 => ?_)
  refine r_goto (tgt := 11) F dX6_dullTeeth_36 (by decide) ?_
  refine r_sub [1, 2, 3, 4, 0] rfl ?_
  exact H11 y1 y2 y3 y4 x33 M

def f_X6_dullTeeth_11 : Nat → Int32 → Int32 → Nat → Int32 → Int32 → Mem → Option (Int32 × Mem)
  | 0, _, _, _, _, _, _ => none
  | n + 1, y1, y2, y3, y4, y5, M => if y4 ≤ y5 then (some (y2, M)) else (chk (kb y3 8) <| chk (inb y5 (al y3)) <| bnd (M.1 y3 y5.toNatClampNeg) fun x22 => if x22 < y1 then (f_X6_dullTeeth_33 (f_X6_dullTeeth_11  n) y1 y2 y3 y4 y5 M) else (bnd (y2 + (1 : Int32)) fun x30 => f_X6_dullTeeth_33 (f_X6_dullTeeth_11  n) y1 x30 y3 y4 y5 M))

set_option maxRecDepth 100000 in
set_option maxHeartbeats 4000000 in
theorem l_X6_dullTeeth_11 {G : GM} {p : Program} {l : Launch} {e : Env} {s : State} {m : MethodId} {args : Array Value} {below : List Frame} {meth : Method} {c : Code} (F : Fx G p l s m args meth c cX6_dullTeeth RX6 7 (some .int)) : ∀ (n : Nat) (y1 : Int32) (y2 : Int32) (y3 : Nat) (y4 : Int32) (y5 : Int32) (M : Mem), Rf G p l e s m args below meth c 6 7 emI (f_X6_dullTeeth_11  n y1 y2 y3 y4 y5 M) 11 [(1, .int y1), (2, .int y2), (3, .ref (gA G y3)), (4, .int y4), (5, .int y5)] [] M := by
  intro n
  induction n with
  | zero => intros; exact r_none
  | succ n ih =>
    intro y1 y2 y3 y4 y5 M
    rw [f_X6_dullTeeth_11]
    refine r_iload F 4 dX6_dullTeeth_11 rfl ?_
    refine r_iload F 3 dX6_dullTeeth_13 rfl ?_
    refine r_icmp_ge (tgt := 39) F dX6_dullTeeth_15 (by decide) (fun c1 => ?_) (fun c1 => ?_)
    · refine r_iload_n F 1 dX6_dullTeeth_39 rfl rfl ?_
      exact r_iret F rfl dX6_dullTeeth_40 rfl
    · refine r_aload_n F 2 dX6_dullTeeth_18 rfl rfl ?_
      refine r_iload F 4 dX6_dullTeeth_19 rfl ?_
      refine r_chk (fun h2 => ?_)
      refine r_chk (fun h3 => ?_)
      refine r_iald F dX6_dullTeeth_21 (kb_k h2) rfl h3 ?_
      refine r_bi (fun x22 => ?_)
      refine r_istore (ls' := [(6, .int x22), (1, .int y1), (2, .int y2), (3, .ref (gA G y3)), (4, .int y4), (5, .int y5)]) F dX6_dullTeeth_22 (by decide) rfl ?_
      refine r_iload F 0 dX6_dullTeeth_24 rfl ?_
      refine r_iload_n F 1 dX6_dullTeeth_26 rfl rfl ?_
      refine r_icmp_lt (tgt := 33) F dX6_dullTeeth_27 (by decide) (fun c4 => ?_) (fun c4 => ?_)
      · refine r_sub [1, 2, 3, 4, 5] rfl ?_
        exact l_X6_dullTeeth_33 F (f_X6_dullTeeth_11  n) (fun q0 q1 q2 q3 q4 M9 => ih q0 q1 q2 q3 q4 M9) y1 y2 y3 y4 y5 M
      · refine r_iinc (ls' := fun q9 => [(2, .int q9), (6, .int x22), (1, .int y1), (3, .ref (gA G y3)), (4, .int y4), (5, .int y5)]) (k := 2) (v := y2 + (1 : Int32)) F dX6_dullTeeth_30 rfl rfl (by decide) (fun _ => rfl) (fun x30 => ?_)
        refine r_sub [2, 0, 3, 4, 5] rfl ?_
        exact l_X6_dullTeeth_33 F (f_X6_dullTeeth_11  n) (fun q0 q1 q2 q3 q4 M9 => ih q0 q1 q2 q3 q4 M9) y1 x30 y3 y4 y5 M

def f_X6_dullTeeth (a0 : Nat) (a1 : Int32) (M : Mem) : Option (Int32 × Mem) := chk (kb a0 8) <| bnd (Int32.ofNat (al a0)) fun x6 => f_X6_dullTeeth_11  FU a1 (0 : Int32) a0 x6 (0 : Int32) M

set_option maxRecDepth 100000 in
set_option maxHeartbeats 4000000 in
theorem b_X6_dullTeeth {G : GM} {p : Program} {l : Launch} {e : Env} {s : State} {m : MethodId} {args : Array Value} {below : List Frame} {meth : Method} {c : Code} (F : Fx G p l s m args meth c cX6_dullTeeth RX6 7 (some .int)) (a0 : Nat) (a1 : Int32) (M : Mem) : Rf G p l e s m args below meth c 6 7 emI (f_X6_dullTeeth a0 a1 M) 0 [(0, .ref (gA G a0)), (1, .int a1)] [] M := by
  unfold f_X6_dullTeeth
  refine r_iconst F dX6_dullTeeth_0 (v := 0) (by decide) ?_
  refine r_istore_n (ls' := [(2, .int (0 : Int32)), (0, .ref (gA G a0)), (1, .int a1)]) F dX6_dullTeeth_1 rfl (by decide) rfl ?_
  refine r_aload_n F 1 dX6_dullTeeth_2 rfl rfl ?_
  refine r_astore_n (ls' := [(3, .ref (gA G a0)), (2, .int (0 : Int32)), (0, .ref (gA G a0)), (1, .int a1)]) F dX6_dullTeeth_3 rfl (by decide) rfl ?_
  refine r_aload_n F 0 dX6_dullTeeth_4 rfl rfl ?_
  refine r_chk (fun h1 => ?_)
  refine r_alen F dX6_dullTeeth_5 (kb_k h1) rfl rfl ?_
  refine r_bi (fun x6 => ?_)
  refine r_istore (ls' := [(4, .int x6), (3, .ref (gA G a0)), (2, .int (0 : Int32)), (0, .ref (gA G a0)), (1, .int a1)]) F dX6_dullTeeth_6 (by decide) rfl ?_
  refine r_iconst F dX6_dullTeeth_8 (v := 0) (by decide) ?_
  refine r_istore (ls' := [(5, .int (0 : Int32)), (4, .int x6), (3, .ref (gA G a0)), (2, .int (0 : Int32)), (0, .ref (gA G a0)), (1, .int a1)]) F dX6_dullTeeth_9 (by decide) rfl ?_
  refine r_sub [5, 3, 2, 1, 0] rfl ?_
  exact l_X6_dullTeeth_11 F   FU a1 (0 : Int32) a0 x6 (0 : Int32) M

set_option maxRecDepth 100000 in
set_option maxHeartbeats 4000000 in
theorem c_X6_dullTeeth {l : Launch} {G : GM} (hl : l.stackTraces = false) (hG : GG G) (a0 : Nat) (a1 : Int32) (M : Mem) : ∀ r, f_X6_dullTeeth a0 a1 M = some r → Ctr l G yX6_dullTeeth (.code yX6_dullTeeth cX6_dullTeeth 7 (some .int) :: wsA) 6 [.ref (gA G a0), .int a1] M (emI r) :=
  ctr_of (by decide) hl hG (Nat.le_of_ble_eq_true rfl) (fun p e s m args below meth c F => b_X6_dullTeeth F a0 a1 M)

-- ===== X1_tell DrumTowns$Playing.tell(I)I =====
theorem yv_X1_tell : yV yX1_tell cX1_tell 2 (some .int) 1 := ⟨im_X1_tell, sl_X1_tell, ini_X1, cd_X1_tell, ⟨by decide, by decide, by decide +kernel⟩, by decide⟩

def f_X1_tell (a1 : Int32) (M : Mem) : Option (Int32 × Mem) := if a1 = 0 then (some ((M.1 5 6), M)) else (if a1 = 1 then (some ((M.1 5 7), M)) else (if a1 = 2 then (some ((M.1 5 8), M)) else (if a1 = 3 then (some ((M.1 5 9), M)) else (bn (f_X6_dullTeeth 7 (M.1 5 5) M) fun r60 M60 => some (r60, M60)))))

set_option maxRecDepth 100000 in
set_option maxHeartbeats 4000000 in
theorem b_X1_tell {G : GM} {p : Program} {l : Launch} {e : Env} {s : State} {m : MethodId} {args : Array Value} {below : List Frame} {meth : Method} {c : Code} (F : Fx G p l s m args meth c cX1_tell RX1 2 (some .int)) (a1 : Int32) (M : Mem) : Rf G p l e s m args below meth c 7 2 emI (f_X1_tell a1 M) 0 [(0, .ref (gA G 5)), (1, .int a1)] [] M := by
  unfold f_X1_tell
  refine r_iload_n F 1 dX1_tell_0 rfl rfl ?_
  refine r_ite (fun c1 => ?_) (fun c1 => ?_)
  · refine r_tabIn (tgt := 32) F dX1_tell_1 c1 (by decide) (by decide) rfl (by decide) ?_
    refine r_aload_n F 0 dX1_tell_32 rfl rfl ?_
    refine gf_X1_50 F dX1_tell_33 (rfl : kd 5 = 3) ?_
    exact r_iret F rfl dX1_tell_36 rfl
  refine r_ite (fun c2 => ?_) (fun c2 => ?_)
  · refine r_tabIn (tgt := 37) F dX1_tell_1 c2 (by decide) (by decide) rfl (by decide) ?_
    refine r_aload_n F 0 dX1_tell_37 rfl rfl ?_
    refine gf_X1_53 F dX1_tell_38 (rfl : kd 5 = 3) ?_
    exact r_iret F rfl dX1_tell_41 rfl
  refine r_ite (fun c3 => ?_) (fun c3 => ?_)
  · refine r_tabIn (tgt := 42) F dX1_tell_1 c3 (by decide) (by decide) rfl (by decide) ?_
    refine r_aload_n F 0 dX1_tell_42 rfl rfl ?_
    refine gf_X1_56 F dX1_tell_43 (rfl : kd 5 = 3) ?_
    exact r_iret F rfl dX1_tell_46 rfl
  refine r_ite (fun c4 => ?_) (fun c4 => ?_)
  · refine r_tabIn (tgt := 47) F dX1_tell_1 c4 (by decide) (by decide) rfl (by decide) ?_
    refine r_aload_n F 0 dX1_tell_47 rfl rfl ?_
    refine gf_X1_59 F dX1_tell_48 (rfl : kd 5 = 3) ?_
    exact r_iret F rfl dX1_tell_51 rfl
  refine r_tabOut (tgt := 52) F dX1_tell_1 (by have n0 := lv_neT (a := 0) c1 (by decide); have n1 := lv_neT (a := 1) c2 (by decide); have n2 := lv_neT (a := 2) c3 (by decide); have n3 := lv_neT (a := 3) c4 (by decide); omega) (by decide) ?_
  refine r_aload_n F 0 dX1_tell_52 rfl rfl ?_
  refine gf_X1_15 F dX1_tell_53 (rfl : kd 5 = 3) ?_
  refine r_aload_n F 0 dX1_tell_56 rfl rfl ?_
  refine gf_X1_36 F dX1_tell_57 (rfl : kd 5 = 3) ?_
  refine r_cSN (val := vI) (As := [.ref (gA G 7), .int (M.1 5 5)]) (rest := []) (fun q9 => .int q9 :: []) F (c_X6_dullTeeth F.st F.gg 7 (M.1 5 5) M) (fun _ _ => rfl) dX1_tell_60 mn_X1_65 ys_X6_dullTeeth rfl (by decide) rfl (Nat.le_of_ble_eq_true rfl) (fun _ => rfl) (fun r60 M60 => ?_)
  exact r_iret F rfl dX1_tell_63 rfl

set_option maxRecDepth 100000 in
set_option maxHeartbeats 4000000 in
theorem c_X1_tell {l : Launch} {G : GM} (hl : l.stackTraces = false) (hG : GG G) (a1 : Int32) (M : Mem) : ∀ r, f_X1_tell a1 M = some r → Ctr l G yX1_tell (.code yX1_tell cX1_tell 2 (some .int) :: wsA) 7 [.ref (gA G 5), .int a1] M (emI r) :=
  ctr_of (by decide) hl hG (Nat.le_of_ble_eq_true rfl) (fun p e s m args below meth c F => b_X1_tell F a1 M)

-- ===== X6_lastsFor DrumTowns.lastsFor(I)I =====
theorem yv_X6_lastsFor : yV yX6_lastsFor cX6_lastsFor 4 (some .int) 1 := ⟨im_X6_lastsFor, sl_X6_lastsFor, ini_X6, cd_X6_lastsFor, ⟨by decide, by decide, by decide +kernel⟩, by decide⟩

def f_X6_lastsFor_32 : Nat → Nat → Int32 → Mem → Option ((Int32 ⊕ String) × Mem)
  | 0, _, _, _ => none
  | n + 1, y2, y3, M => if (200 : Int32) < y3 then (some (.inl (-1 : Int32), M)) else (chk (kb y2 2) <| bn (f_X1_goThrough (y2 + 2) M) fun _ M47 => if (M47.1 5 10) ≤ 0 then (if (M47.1 5 6) = 0 then (some (.inl (-1 : Int32), M47)) else (bnd (y3 + (1 : Int32)) fun x74 => f_X6_lastsFor_32  n y2 x74 M47)) else (some (.inl y3, M47)))

set_option maxRecDepth 100000 in
set_option maxHeartbeats 4000000 in
theorem l_X6_lastsFor_32 {G : GM} {p : Program} {l : Launch} {e : Env} {s : State} {m : MethodId} {args : Array Value} {below : List Frame} {meth : Method} {c : Code} (F : Fx G p l s m args meth c cX6_lastsFor RX6 4 (some .int)) : ∀ (n : Nat) (y2 : Nat) (y3 : Int32) (M : Mem), Rf G p l e s m args below meth c 9 4 (emT vI) (f_X6_lastsFor_32  n y2 y3 M) 32 [(0, .ref (gA G 0)), (2, .ref (gA G y2)), (3, .int y3)] [] M := by
  intro n
  induction n with
  | zero => intros; exact r_none
  | succ n ih =>
    intro y2 y3 M
    rw [f_X6_lastsFor_32]
    refine r_iload_n F 2 dX6_lastsFor_32 rfl rfl ?_
    refine r_sipush F dX6_lastsFor_33 (v := 200) (by decide) ?_
    refine r_icmp_gt (tgt := 80) F dX6_lastsFor_36 (by decide) (fun c1 => ?_) (fun c1 => ?_)
    · refine r_iconst F dX6_lastsFor_80 (v := -1) (by decide) ?_
      exact r_iret F rfl dX6_lastsFor_81 rfl
    · refine r_aload_n F 0 dX6_lastsFor_39 rfl rfl ?_
      refine gf_X6_30 F dX6_lastsFor_40 (rfl : kd 0 = 0) ?_
      refine r_aload_n F 1 dX6_lastsFor_43 rfl rfl ?_
      refine r_chk (fun h2 => ?_)
      refine gf_X6_207 F dX6_lastsFor_44 (kb_k h2) ?_
      refine r_cVN (val := vU) (As := [.ref (gA G (y2 + 2))]) (rest := []) (fun _ => []) F (c_X1_goThrough F.st F.gg (y2 + 2) M) (fun _ _ => rfl) dX6_lastsFor_47 mn_X6_276 yv_X1_goThrough (rfl : kd 5 = 3) (by decide) rfl rfl (by decide) rfl (Nat.le_of_ble_eq_true rfl) (fun _ => rfl) (fun _ M47 => ?_)
      refine r_aload_n F 0 dX6_lastsFor_50 rfl rfl ?_
      refine gf_X6_30 F dX6_lastsFor_51 (rfl : kd 0 = 0) ?_
      refine gf_X6_280 F dX6_lastsFor_54 (rfl : kd 5 = 3) ?_
      refine r_if_le (tgt := 62) F dX6_lastsFor_57 (by decide) (fun c3 => ?_) (fun c3 => ?_)
      · refine r_aload_n F 0 dX6_lastsFor_62 rfl rfl ?_
        refine gf_X6_30 F dX6_lastsFor_63 (rfl : kd 0 = 0) ?_
        refine gf_X6_152 F dX6_lastsFor_66 (rfl : kd 5 = 3) ?_
        refine r_if_ne (tgt := 74) F dX6_lastsFor_69 (by decide) (fun c4 => ?_) (fun c4 => ?_)
        · refine r_iconst F dX6_lastsFor_72 (v := -1) (by decide) ?_
          exact r_iret F rfl dX6_lastsFor_73 rfl
        · refine r_iinc (ls' := fun q9 => [(3, .int q9), (0, .ref (gA G 0)), (2, .ref (gA G y2))]) (k := 2) (v := y3 + (1 : Int32)) F dX6_lastsFor_74 rfl rfl (by decide) (fun _ => rfl) (fun x74 => ?_)
          refine r_goto (tgt := 32) F dX6_lastsFor_77 (by decide) ?_
          refine r_sub [1, 2, 0] rfl ?_
          exact ih y2 x74 M47
      · refine r_iload_n F 2 dX6_lastsFor_60 rfl rfl ?_
        exact r_iret F rfl dX6_lastsFor_61 rfl

def f_X6_lastsFor (a1 : Int32) (M : Mem) : Option ((Int32 ⊕ String) × Mem) := bt (f_X6_checkTown a1 M) fun _ M2 => chk (inb a1 6) <| bnd (tw 35 a1) fun b13 => bn (f_X1_begin b13 36 M2) fun _ M27 => f_X6_lastsFor_32  FU b13 (1 : Int32) M27

set_option maxRecDepth 100000 in
set_option maxHeartbeats 4000000 in
theorem b_X6_lastsFor {G : GM} {p : Program} {l : Launch} {e : Env} {s : State} {m : MethodId} {args : Array Value} {below : List Frame} {meth : Method} {c : Code} (F : Fx G p l s m args meth c cX6_lastsFor RX6 4 (some .int)) (a1 : Int32) (M : Mem) : Rf G p l e s m args below meth c 9 4 (emT vI) (f_X6_lastsFor a1 M) 0 [(0, .ref (gA G 0)), (1, .int a1)] [] M := by
  unfold f_X6_lastsFor
  refine r_aload_n F 0 dX6_lastsFor_0 rfl rfl ?_
  refine r_iload_n F 1 dX6_lastsFor_1 rfl rfl ?_
  refine r_tV (val := vU) (As := [.int a1]) (rest := []) (fun _ => []) F (c_X6_checkTown F.st F.gg a1 M) dX6_lastsFor_2 ml_X6_120 yv_X6_checkTown (rfl : kd 0 = 0) (by decide) rfl rfl (by decide) rfl (Nat.le_of_ble_eq_true rfl) (fun _ => rfl) (fun _ M2 => ?_)
  refine r_aload_n F 0 dX6_lastsFor_5 rfl rfl ?_
  refine gf_X6_10 F dX6_lastsFor_6 (rfl : kd 0 = 0) ?_
  refine gf_X6_76 F dX6_lastsFor_9 (rfl : kd 34 = 1) ?_
  refine r_iload_n F 1 dX6_lastsFor_12 rfl rfl ?_
  refine r_chk (fun h1 => ?_)
  refine r_aaldT F dX6_lastsFor_13 (rfl : kd 35 = 9) h1 ?_
  refine r_br (kTw' (rfl : kd 35 = 9) h1) (fun b13 k13 => ?_)
  refine r_astore_n (ls' := [(2, .ref (gA G b13)), (0, .ref (gA G 0)), (1, .int a1)]) F dX6_lastsFor_14 rfl (by decide) rfl ?_
  refine r_aload_n F 1 dX6_lastsFor_15 rfl rfl ?_
  refine gf_X6_30 F dX6_lastsFor_16 (rfl : kd 0 = 0) ?_
  refine r_aload_n F 0 dX6_lastsFor_19 rfl rfl ?_
  refine r_aload_n F 1 dX6_lastsFor_20 rfl rfl ?_
  refine gf_X6_10 F dX6_lastsFor_21 (rfl : kd 0 = 0) ?_
  refine gf_X6_68 F dX6_lastsFor_24 (rfl : kd 34 = 1) ?_
  refine r_cVN (val := vU) (As := [.ref (gA G b13), .ref (gA G 36)]) (rest := []) (fun _ => []) F (c_X1_begin F.st F.gg b13 36 M2) (fun _ _ => rfl) dX6_lastsFor_27 mn_X6_272 yv_X1_begin (rfl : kd 5 = 3) (by decide) rfl rfl (by decide) rfl (Nat.le_of_ble_eq_true rfl) (fun _ => rfl) (fun _ M27 => ?_)
  refine r_iconst F dX6_lastsFor_30 (v := 1) (by decide) ?_
  refine r_istore_n (ls' := [(3, .int (1 : Int32)), (2, .ref (gA G b13)), (0, .ref (gA G 0)), (1, .int a1)]) F dX6_lastsFor_31 rfl (by decide) rfl ?_
  refine r_sub [2, 1, 0] rfl ?_
  exact l_X6_lastsFor_32 F   FU b13 (1 : Int32) M27

set_option maxRecDepth 100000 in
set_option maxHeartbeats 4000000 in
theorem c_X6_lastsFor {l : Launch} {G : GM} (hl : l.stackTraces = false) (hG : GG G) (a1 : Int32) (M : Mem) : ∀ r, f_X6_lastsFor a1 M = some r → Ctr l G yX6_lastsFor (.code yX6_lastsFor cX6_lastsFor 4 (some .int) :: wsA) 9 [.ref (gA G 0), .int a1] M ((emT vI) r) :=
  ctr_of (by decide) hl hG (Nat.le_of_ble_eq_true rfl) (fun p e s m args below meth c F => b_X6_lastsFor F a1 M)

-- ===== X0_owedTo DrumTowns$Land.owedTo(I)I =====
theorem yv_X0_owedTo : yV yX0_owedTo cX0_owedTo 4 (some .int) 1 := ⟨im_X0_owedTo, sl_X0_owedTo, ini_X0, cd_X0_owedTo, ⟨by decide, by decide, by decide +kernel⟩, by decide⟩

def f_X0_owedTo_4 : Nat → Nat → Int32 → Int32 → Int32 → Mem → Option (Int32 × Mem)
  | 0, _, _, _, _, _ => none
  | n + 1, y0, y1, y2, y3, M => chk (kb y0 1) <| if (M.1 y0 1) ≤ y3 then (some (y2, M)) else (chk (inb y3 6) <| bnd (rw' (y0 + 3) y3) fun b18 => chk (inb y1 6) <| bnd (y2 + (M.1 b18 y1.toNatClampNeg)) fun x22 => bnd (y3 + (1 : Int32)) fun x23 => f_X0_owedTo_4  n y0 y1 x22 x23 M)

set_option maxRecDepth 100000 in
set_option maxHeartbeats 4000000 in
theorem l_X0_owedTo_4 {G : GM} {p : Program} {l : Launch} {e : Env} {s : State} {m : MethodId} {args : Array Value} {below : List Frame} {meth : Method} {c : Code} (F : Fx G p l s m args meth c cX0_owedTo RX0 4 (some .int)) : ∀ (n : Nat) (y0 : Nat) (y1 : Int32) (y2 : Int32) (y3 : Int32) (M : Mem), Rf G p l e s m args below meth c 6 4 emI (f_X0_owedTo_4  n y0 y1 y2 y3 M) 4 [(0, .ref (gA G y0)), (1, .int y1), (2, .int y2), (3, .int y3)] [] M := by
  intro n
  induction n with
  | zero => intros; exact r_none
  | succ n ih =>
    intro y0 y1 y2 y3 M
    rw [f_X0_owedTo_4]
    refine r_iload_n F 3 dX0_owedTo_4 rfl rfl ?_
    refine r_aload_n F 0 dX0_owedTo_5 rfl rfl ?_
    refine r_chk (fun h1 => ?_)
    refine gf_X0_38 F dX0_owedTo_6 (kb_k h1) ?_
    refine r_icmp_ge (tgt := 29) F dX0_owedTo_9 (by decide) (fun c2 => ?_) (fun c2 => ?_)
    · refine r_iload_n F 2 dX0_owedTo_29 rfl rfl ?_
      exact r_iret F rfl dX0_owedTo_30 rfl
    · refine r_iload_n F 2 dX0_owedTo_12 rfl rfl ?_
      refine r_aload_n F 0 dX0_owedTo_13 rfl rfl ?_
      refine gf_X0_23 F dX0_owedTo_14 (kb_k h1) ?_
      refine r_iload_n F 3 dX0_owedTo_17 rfl rfl ?_
      refine r_chk (fun h3 => ?_)
      refine r_aaldR F dX0_owedTo_18 (kLd (kb_k h1)) h3 ?_
      refine r_bra (kRw (kLd (kb_k h1)) h3) (aRw (kLd (kb_k h1)) h3) (fun b18 k18 k18a => ?_)
      refine r_iload_n F 1 dX0_owedTo_19 rfl rfl ?_
      refine r_chk (fun h4 => ?_)
      refine r_iald F dX0_owedTo_20 k18 k18a h4 ?_
      refine r_iadd F dX0_owedTo_21 ?_
      refine r_bi (fun x22 => ?_)
      refine r_istore_n (ls' := [(2, .int x22), (0, .ref (gA G y0)), (1, .int y1), (3, .int y3)]) F dX0_owedTo_22 rfl (by decide) rfl ?_
      refine r_iinc (ls' := fun q9 => [(3, .int q9), (2, .int x22), (0, .ref (gA G y0)), (1, .int y1)]) (k := 3) (v := y3 + (1 : Int32)) F dX0_owedTo_23 rfl rfl (by decide) (fun _ => rfl) (fun x23 => ?_)
      refine r_goto (tgt := 4) F dX0_owedTo_26 (by decide) ?_
      refine r_sub [2, 3, 1, 0] rfl ?_
      exact ih y0 y1 x22 x23 M

def f_X0_owedTo (a0 : Nat) (a1 : Int32) (M : Mem) : Option (Int32 × Mem) := f_X0_owedTo_4  FU a0 a1 (0 : Int32) (0 : Int32) M

set_option maxRecDepth 100000 in
set_option maxHeartbeats 4000000 in
theorem b_X0_owedTo {G : GM} {p : Program} {l : Launch} {e : Env} {s : State} {m : MethodId} {args : Array Value} {below : List Frame} {meth : Method} {c : Code} (F : Fx G p l s m args meth c cX0_owedTo RX0 4 (some .int)) (a0 : Nat) (a1 : Int32) (M : Mem) : Rf G p l e s m args below meth c 6 4 emI (f_X0_owedTo a0 a1 M) 0 [(0, .ref (gA G a0)), (1, .int a1)] [] M := by
  unfold f_X0_owedTo
  refine r_iconst F dX0_owedTo_0 (v := 0) (by decide) ?_
  refine r_istore_n (ls' := [(2, .int (0 : Int32)), (0, .ref (gA G a0)), (1, .int a1)]) F dX0_owedTo_1 rfl (by decide) rfl ?_
  refine r_iconst F dX0_owedTo_2 (v := 0) (by decide) ?_
  refine r_istore_n (ls' := [(3, .int (0 : Int32)), (2, .int (0 : Int32)), (0, .ref (gA G a0)), (1, .int a1)]) F dX0_owedTo_3 rfl (by decide) rfl ?_
  refine r_sub [2, 3, 1, 0] rfl ?_
  exact l_X0_owedTo_4 F   FU a0 a1 (0 : Int32) (0 : Int32) M

set_option maxRecDepth 100000 in
set_option maxHeartbeats 4000000 in
theorem c_X0_owedTo {l : Launch} {G : GM} (hl : l.stackTraces = false) (hG : GG G) (a0 : Nat) (a1 : Int32) (M : Mem) : ∀ r, f_X0_owedTo a0 a1 M = some r → Ctr l G yX0_owedTo (.code yX0_owedTo cX0_owedTo 4 (some .int) :: wsA) 6 [.ref (gA G a0), .int a1] M (emI r) :=
  ctr_of (by decide) hl hG (Nat.le_of_ble_eq_true rfl) (fun p e s m args below meth c F => b_X0_owedTo F a0 a1 M)

-- ===== X6_town DrumTowns.town(II)I =====
theorem yv_X6_town : yV yX6_town cX6_town 4 (some .int) 2 := ⟨im_X6_town, sl_X6_town, ini_X6, cd_X6_town, ⟨by decide, by decide, by decide +kernel⟩, by decide⟩

def f_X6_town (a1 : Int32) (a2 : Int32) (M : Mem) : Option ((Int32 ⊕ String) × Mem) := bt (f_X6_checkTown a1 M) fun _ M2 => chk (inb a1 6) <| bnd (tw 35 a1) fun b13 => if a2 = 0 then (some (.inl (M2.1 b13 0), M2)) else (if a2 = 1 then (bn (f_X6_sizeOf (b13 + 1) M2) fun r89 M89 => some (.inl r89, M89)) else (if a2 = 2 then (bn (f_X6_sizeOf (b13 + 2) M2) fun r97 M97 => some (.inl r97, M97)) else (if a2 = 3 then (bn (f_X3_rightPins b13 M2) fun r102 M102 => some (.inl r102, M102)) else (if a2 = 4 then (bn (f_X6_sizeOf (b13 + 1) M2) fun r110 M110 => bn (f_X3_rightPins b13 M110) fun r114 M114 => some (.inl (r110 - r114), M114)) else (if a2 = 5 then (bn (f_X6_sizeOf (b13 + 2) M2) fun r123 M123 => bn (f_X3_rightPins b13 M123) fun r127 M127 => some (.inl (r123 - r127), M127)) else (if a2 = 6 then (bn (f_X0_owedBy 34 a1 M2) fun r137 M137 => some (.inl r137, M137)) else (if a2 = 7 then (bn (f_X0_owedTo 34 a1 M2) fun r146 M146 => some (.inl r146, M146)) else (if a2 = 8 then (some (.inl (M2.1 b13 4), M2)) else (if a2 = 9 then (some (.inl (M2.1 b13 5), M2)) else (if a2 = 10 then (some (.inl (M2.1 b13 6), M2)) else (if a2 = 11 then (chk (inb (1 : Int32) 3) <| bn (f_X6_dullTeeth (b13 + 3) (M2.1 36 (1 : Int32).toNatClampNeg) M2) fun r178 M178 => some (.inl r178, M178)) else (some (.inr exA, M2)))))))))))))

set_option maxRecDepth 100000 in
set_option maxHeartbeats 4000000 in
theorem b_X6_town {G : GM} {p : Program} {l : Launch} {e : Env} {s : State} {m : MethodId} {args : Array Value} {below : List Frame} {meth : Method} {c : Code} (F : Fx G p l s m args meth c cX6_town RX6 4 (some .int)) (a1 : Int32) (a2 : Int32) (M : Mem) : Rf G p l e s m args below meth c 9 4 (emT vI) (f_X6_town a1 a2 M) 0 [(0, .ref (gA G 0)), (1, .int a1), (2, .int a2)] [] M := by
  unfold f_X6_town
  refine r_aload_n F 0 dX6_town_0 rfl rfl ?_
  refine r_iload_n F 1 dX6_town_1 rfl rfl ?_
  refine r_tV (val := vU) (As := [.int a1]) (rest := []) (fun _ => []) F (c_X6_checkTown F.st F.gg a1 M) dX6_town_2 ml_X6_120 yv_X6_checkTown (rfl : kd 0 = 0) (by decide) rfl rfl (by decide) rfl (Nat.le_of_ble_eq_true rfl) (fun _ => rfl) (fun _ M2 => ?_)
  refine r_aload_n F 0 dX6_town_5 rfl rfl ?_
  refine gf_X6_10 F dX6_town_6 (rfl : kd 0 = 0) ?_
  refine gf_X6_76 F dX6_town_9 (rfl : kd 34 = 1) ?_
  refine r_iload_n F 1 dX6_town_12 rfl rfl ?_
  refine r_chk (fun h1 => ?_)
  refine r_aaldT F dX6_town_13 (rfl : kd 35 = 9) h1 ?_
  refine r_br (kTw' (rfl : kd 35 = 9) h1) (fun b13 k13 => ?_)
  refine r_astore_n (ls' := [(3, .ref (gA G b13)), (0, .ref (gA G 0)), (1, .int a1), (2, .int a2)]) F dX6_town_14 rfl (by decide) rfl ?_
  refine r_iload_n F 3 dX6_town_15 rfl rfl ?_
  refine r_ite (fun c2 => ?_) (fun c2 => ?_)
  · refine r_tabIn (tgt := 80) F dX6_town_16 c2 (by decide) (by decide) rfl (by decide) ?_
    refine r_aload_n F 0 dX6_town_80 rfl rfl ?_
    refine gf_X6_80 F dX6_town_81 k13 ?_
    exact r_iret F rfl dX6_town_84 rfl
  refine r_ite (fun c3 => ?_) (fun c3 => ?_)
  · refine r_tabIn (tgt := 85) F dX6_town_16 c3 (by decide) (by decide) rfl (by decide) ?_
    refine r_aload_n F 0 dX6_town_85 rfl rfl ?_
    refine gf_X6_109 F dX6_town_86 k13 ?_
    refine r_cS (val := vI) (As := [.ref (gA G (b13 + 1))]) (rest := []) (fun q9 => .int q9 :: []) F (c_X6_sizeOf F.st F.gg (b13 + 1) M2) (fun _ _ => rfl) dX6_town_89 ml_X6_112 ys_X6_sizeOf rfl (by decide) rfl (Nat.le_of_ble_eq_true rfl) (fun _ => rfl) (fun r89 M89 => ?_)
    exact r_iret F rfl dX6_town_92 rfl
  refine r_ite (fun c4 => ?_) (fun c4 => ?_)
  · refine r_tabIn (tgt := 93) F dX6_town_16 c4 (by decide) (by decide) rfl (by decide) ?_
    refine r_aload_n F 0 dX6_town_93 rfl rfl ?_
    refine gf_X6_207 F dX6_town_94 k13 ?_
    refine r_cS (val := vI) (As := [.ref (gA G (b13 + 2))]) (rest := []) (fun q9 => .int q9 :: []) F (c_X6_sizeOf F.st F.gg (b13 + 2) M2) (fun _ _ => rfl) dX6_town_97 ml_X6_112 ys_X6_sizeOf rfl (by decide) rfl (Nat.le_of_ble_eq_true rfl) (fun _ => rfl) (fun r97 M97 => ?_)
    exact r_iret F rfl dX6_town_100 rfl
  refine r_ite (fun c5 => ?_) (fun c5 => ?_)
  · refine r_tabIn (tgt := 101) F dX6_town_16 c5 (by decide) (by decide) rfl (by decide) ?_
    refine r_aload_n F 0 dX6_town_101 rfl rfl ?_
    refine r_cVN (val := vI) (As := []) (rest := []) (fun q9 => .int q9 :: []) F (c_X3_rightPins F.st F.gg b13 M2) (fun _ _ => rfl) dX6_town_102 mn_X6_129 yv_X3_rightPins k13 (by decide) rfl rfl (by decide) rfl (Nat.le_of_ble_eq_true rfl) (fun _ => rfl) (fun r102 M102 => ?_)
    exact r_iret F rfl dX6_town_105 rfl
  refine r_ite (fun c6 => ?_) (fun c6 => ?_)
  · refine r_tabIn (tgt := 106) F dX6_town_16 c6 (by decide) (by decide) rfl (by decide) ?_
    refine r_aload_n F 0 dX6_town_106 rfl rfl ?_
    refine gf_X6_109 F dX6_town_107 k13 ?_
    refine r_cS (val := vI) (As := [.ref (gA G (b13 + 1))]) (rest := []) (fun q9 => .int q9 :: []) F (c_X6_sizeOf F.st F.gg (b13 + 1) M2) (fun _ _ => rfl) dX6_town_110 ml_X6_112 ys_X6_sizeOf rfl (by decide) rfl (Nat.le_of_ble_eq_true rfl) (fun _ => rfl) (fun r110 M110 => ?_)
    refine r_aload_n F 0 dX6_town_113 rfl rfl ?_
    refine r_cVN (val := vI) (As := []) (rest := [.int r110]) (fun q9 => .int q9 :: [.int r110]) F (c_X3_rightPins F.st F.gg b13 M110) (fun _ _ => rfl) dX6_town_114 mn_X6_129 yv_X3_rightPins k13 (by decide) rfl rfl (by decide) rfl (Nat.le_of_ble_eq_true rfl) (fun _ => rfl) (fun r114 M114 => ?_)
    refine r_isub F dX6_town_117 ?_
    exact r_iret F rfl dX6_town_118 rfl
  refine r_ite (fun c7 => ?_) (fun c7 => ?_)
  · refine r_tabIn (tgt := 119) F dX6_town_16 c7 (by decide) (by decide) rfl (by decide) ?_
    refine r_aload_n F 0 dX6_town_119 rfl rfl ?_
    refine gf_X6_207 F dX6_town_120 k13 ?_
    refine r_cS (val := vI) (As := [.ref (gA G (b13 + 2))]) (rest := []) (fun q9 => .int q9 :: []) F (c_X6_sizeOf F.st F.gg (b13 + 2) M2) (fun _ _ => rfl) dX6_town_123 ml_X6_112 ys_X6_sizeOf rfl (by decide) rfl (Nat.le_of_ble_eq_true rfl) (fun _ => rfl) (fun r123 M123 => ?_)
    refine r_aload_n F 0 dX6_town_126 rfl rfl ?_
    refine r_cVN (val := vI) (As := []) (rest := [.int r123]) (fun q9 => .int q9 :: [.int r123]) F (c_X3_rightPins F.st F.gg b13 M123) (fun _ _ => rfl) dX6_town_127 mn_X6_129 yv_X3_rightPins k13 (by decide) rfl rfl (by decide) rfl (Nat.le_of_ble_eq_true rfl) (fun _ => rfl) (fun r127 M127 => ?_)
    refine r_isub F dX6_town_130 ?_
    exact r_iret F rfl dX6_town_131 rfl
  refine r_ite (fun c8 => ?_) (fun c8 => ?_)
  · refine r_tabIn (tgt := 132) F dX6_town_16 c8 (by decide) (by decide) rfl (by decide) ?_
    refine r_aload_n F 1 dX6_town_132 rfl rfl ?_
    refine gf_X6_10 F dX6_town_133 (rfl : kd 0 = 0) ?_
    refine r_iload_n F 2 dX6_town_136 rfl rfl ?_
    refine r_cVN (val := vI) (As := [.int a1]) (rest := []) (fun q9 => .int q9 :: []) F (c_X0_owedBy F.st F.gg 34 a1 M2) (fun _ _ => rfl) dX6_town_137 mn_X6_216 yv_X0_owedBy (rfl : kd 34 = 1) (by decide) rfl rfl (by decide) rfl (Nat.le_of_ble_eq_true rfl) (fun _ => rfl) (fun r137 M137 => ?_)
    exact r_iret F rfl dX6_town_140 rfl
  refine r_ite (fun c9 => ?_) (fun c9 => ?_)
  · refine r_tabIn (tgt := 141) F dX6_town_16 c9 (by decide) (by decide) rfl (by decide) ?_
    refine r_aload_n F 1 dX6_town_141 rfl rfl ?_
    refine gf_X6_10 F dX6_town_142 (rfl : kd 0 = 0) ?_
    refine r_iload_n F 2 dX6_town_145 rfl rfl ?_
    refine r_cVN (val := vI) (As := [.int a1]) (rest := []) (fun q9 => .int q9 :: []) F (c_X0_owedTo F.st F.gg 34 a1 M2) (fun _ _ => rfl) dX6_town_146 mn_X6_220 yv_X0_owedTo (rfl : kd 34 = 1) (by decide) rfl rfl (by decide) rfl (Nat.le_of_ble_eq_true rfl) (fun _ => rfl) (fun r146 M146 => ?_)
    exact r_iret F rfl dX6_town_149 rfl
  refine r_ite (fun c10 => ?_) (fun c10 => ?_)
  · refine r_tabIn (tgt := 150) F dX6_town_16 c10 (by decide) (by decide) rfl (by decide) ?_
    refine r_aload_n F 0 dX6_town_150 rfl rfl ?_
    refine gf_X6_223 F dX6_town_151 k13 ?_
    exact r_iret F rfl dX6_town_154 rfl
  refine r_ite (fun c11 => ?_) (fun c11 => ?_)
  · refine r_tabIn (tgt := 155) F dX6_town_16 c11 (by decide) (by decide) rfl (by decide) ?_
    refine r_aload_n F 0 dX6_town_155 rfl rfl ?_
    refine gf_X6_226 F dX6_town_156 k13 ?_
    exact r_iret F rfl dX6_town_159 rfl
  refine r_ite (fun c12 => ?_) (fun c12 => ?_)
  · refine r_tabIn (tgt := 160) F dX6_town_16 c12 (by decide) (by decide) rfl (by decide) ?_
    refine r_aload_n F 0 dX6_town_160 rfl rfl ?_
    refine gf_X6_227 F dX6_town_161 k13 ?_
    exact r_iret F rfl dX6_town_164 rfl
  refine r_ite (fun c13 => ?_) (fun c13 => ?_)
  · refine r_tabIn (tgt := 165) F dX6_town_16 c13 (by decide) (by decide) rfl (by decide) ?_
    refine r_aload_n F 0 dX6_town_165 rfl rfl ?_
    refine gf_X6_142 F dX6_town_166 k13 ?_
    refine r_aload_n F 1 dX6_town_169 rfl rfl ?_
    refine gf_X6_10 F dX6_town_170 (rfl : kd 0 = 0) ?_
    refine gf_X6_68 F dX6_town_173 (rfl : kd 34 = 1) ?_
    refine r_iconst F dX6_town_176 (v := 1) (by decide) ?_
    refine r_chk (fun h14 => ?_)
    refine r_iald F dX6_town_177 (rfl : kd 36 = 8) (rfl : al 36 = 3) h14 ?_
    refine r_cS (val := vI) (As := [.ref (gA G (b13 + 3)), .int (M2.1 36 (1 : Int32).toNatClampNeg)]) (rest := []) (fun q9 => .int q9 :: []) F (c_X6_dullTeeth F.st F.gg (b13 + 3) (M2.1 36 (1 : Int32).toNatClampNeg) M2) (fun _ _ => rfl) dX6_town_178 ml_X6_230 ys_X6_dullTeeth rfl (by decide) rfl (Nat.le_of_ble_eq_true rfl) (fun _ => rfl) (fun r178 M178 => ?_)
    exact r_iret F rfl dX6_town_181 rfl
  refine r_tabOut (tgt := 182) F dX6_town_16 (by have n0 := lv_neT (a := 0) c2 (by decide); have n1 := lv_neT (a := 1) c3 (by decide); have n2 := lv_neT (a := 2) c4 (by decide); have n3 := lv_neT (a := 3) c5 (by decide); have n4 := lv_neT (a := 4) c6 (by decide); have n5 := lv_neT (a := 5) c7 (by decide); have n6 := lv_neT (a := 6) c8 (by decide); have n7 := lv_neT (a := 7) c9 (by decide); have n8 := lv_neT (a := 8) c10 (by decide); have n9 := lv_neT (a := 9) c11 (by decide); have n10 := lv_neT (a := 10) c12 (by decide); have n11 := lv_neT (a := 11) c13 (by decide); omega) (by decide) ?_
  exact r_throw F atA cl_X6_52 ini_IllegalArgumentException (by decide : (234, "what is not 0 to 11") ∈ strW) dX6_town_182 dX6_town_185 dX6_town_186 dX6_town_188 dX6_town_191 (by decide) (Nat.le_of_ble_eq_true rfl)

set_option maxRecDepth 100000 in
set_option maxHeartbeats 4000000 in
theorem c_X6_town {l : Launch} {G : GM} (hl : l.stackTraces = false) (hG : GG G) (a1 : Int32) (a2 : Int32) (M : Mem) : ∀ r, f_X6_town a1 a2 M = some r → Ctr l G yX6_town (.code yX6_town cX6_town 4 (some .int) :: wsA) 9 [.ref (gA G 0), .int a1, .int a2] M ((emT vI) r) :=
  ctr_of (by decide) hl hG (Nat.le_of_ble_eq_true rfl) (fun p e s m args below meth c F => b_X6_town F a1 a2 M)

-- ===== X6_mixedWithTown DrumTowns.mixedWithTown(JI)J =====
theorem yv_X6_mixedWithTown : yV yX6_mixedWithTown cX6_mixedWithTown 7 (some .long) 2 := ⟨im_X6_mixedWithTown, sl_X6_mixedWithTown, ini_X6, cd_X6_mixedWithTown, ⟨by decide, by decide, by decide +kernel⟩, by decide⟩

def f_X6_mixedWithTown_42 : Nat → Int32 → Int64 → Int32 → Mem → Option ((Int64 ⊕ String) × Mem)
  | 0, _, _, _, _ => none
  | n + 1, y3, y4, y6, M => if (5 : Int32) ≤ y6 then (bt (f_X6_lastsFor y3 M) fun r75 M75 => bn (f_X6_mixed y4 ((r75).toInt64) M75) fun r79 M79 => bt (f_X6_bestTurn y3 (0 : Int32) M79) fun r89 M89 => bn (f_X6_mixed r79 ((r89).toInt64) M89) fun r93 M93 => bt (f_X6_bestTurn y3 (1 : Int32) M93) fun r103 M103 => bn (f_X6_mixed r93 ((r103).toInt64) M103) fun r107 M107 => bt (f_X6_bestDrum y3 M107) fun r116 M116 => bn (f_X6_mixed r107 ((r116).toInt64) M116) fun r120 M120 => some (.inl r120, M120)) else (bn (f_X1_tell y6 M) fun r56 M56 => bn (f_X6_mixed y4 ((r56).toInt64) M56) fun r60 M60 => bnd (y6 + (1 : Int32)) fun x65 => f_X6_mixedWithTown_42  n y3 r60 x65 M60)

set_option maxRecDepth 100000 in
set_option maxHeartbeats 4000000 in
theorem l_X6_mixedWithTown_42 {G : GM} {p : Program} {l : Launch} {e : Env} {s : State} {m : MethodId} {args : Array Value} {below : List Frame} {meth : Method} {c : Code} (F : Fx G p l s m args meth c cX6_mixedWithTown RX6 7 (some .long)) : ∀ (n : Nat) (y3 : Int32) (y4 : Int64) (y6 : Int32) (M : Mem), Rf G p l e s m args below meth c 10 7 (emT vL) (f_X6_mixedWithTown_42  n y3 y4 y6 M) 42 [(0, .ref (gA G 0)), (3, .int y3), (4, .long y4), (6, .int y6)] [] M := by
  intro n
  induction n with
  | zero => intros; exact r_none
  | succ n ih =>
    intro y3 y4 y6 M
    rw [f_X6_mixedWithTown_42]
    refine r_iload F 3 dX6_mixedWithTown_42 rfl ?_
    refine r_iconst F dX6_mixedWithTown_44 (v := 5) (by decide) ?_
    refine r_icmp_ge (tgt := 71) F dX6_mixedWithTown_45 (by decide) (fun c1 => ?_) (fun c1 => ?_)
    · refine r_lload F 2 dX6_mixedWithTown_71 rfl ?_
      refine r_aload_n F 0 dX6_mixedWithTown_73 rfl rfl ?_
      refine r_iload_n F 1 dX6_mixedWithTown_74 rfl rfl ?_
      refine r_tV (val := vI) (As := [.int y3]) (rest := [.long y4]) (fun q9 => .int q9 :: [.long y4]) F (c_X6_lastsFor F.st F.gg y3 M) dX6_mixedWithTown_75 ml_X6_340 yv_X6_lastsFor (rfl : kd 0 = 0) (by decide) rfl rfl (by decide) rfl (Nat.le_of_ble_eq_true rfl) (fun _ => rfl) (fun r75 M75 => ?_)
      refine r_i2l F dX6_mixedWithTown_78 ?_
      refine r_cS (val := vL) (As := [.long y4, .long ((r75).toInt64)]) (rest := []) (fun q9 => .long q9 :: []) F (c_X6_mixed F.st F.gg y4 ((r75).toInt64) M75) (fun _ _ => rfl) dX6_mixedWithTown_79 ml_X6_308 ys_X6_mixed rfl (by decide) rfl (Nat.le_of_ble_eq_true rfl) (fun _ => rfl) (fun r79 M79 => ?_)
      refine r_lstore (ls' := [(4, .long r79), (0, .ref (gA G 0)), (3, .int y3), (6, .int y6)]) F dX6_mixedWithTown_82 (by decide) rfl ?_
      refine r_lload F 0 dX6_mixedWithTown_84 rfl ?_
      refine r_aload_n F 1 dX6_mixedWithTown_86 rfl rfl ?_
      refine r_iload_n F 2 dX6_mixedWithTown_87 rfl rfl ?_
      refine r_iconst F dX6_mixedWithTown_88 (v := 0) (by decide) ?_
      refine r_tV (val := vI) (As := [.int y3, .int (0 : Int32)]) (rest := [.long r79]) (fun q9 => .int q9 :: [.long r79]) F (c_X6_bestTurn F.st F.gg y3 (0 : Int32) M79) dX6_mixedWithTown_89 ml_X6_343 yv_X6_bestTurn (rfl : kd 0 = 0) (by decide) rfl rfl (by decide) rfl (Nat.le_of_ble_eq_true rfl) (fun _ => rfl) (fun r89 M89 => ?_)
      refine r_i2l F dX6_mixedWithTown_92 ?_
      refine r_cS (val := vL) (As := [.long r79, .long ((r89).toInt64)]) (rest := []) (fun q9 => .long q9 :: []) F (c_X6_mixed F.st F.gg r79 ((r89).toInt64) M89) (fun _ _ => rfl) dX6_mixedWithTown_93 ml_X6_308 ys_X6_mixed rfl (by decide) rfl (Nat.le_of_ble_eq_true rfl) (fun _ => rfl) (fun r93 M93 => ?_)
      refine r_lstore (ls' := [(4, .long r93), (0, .ref (gA G 0)), (3, .int y3), (6, .int y6)]) F dX6_mixedWithTown_96 (by decide) rfl ?_
      refine r_lload F 0 dX6_mixedWithTown_98 rfl ?_
      refine r_aload_n F 1 dX6_mixedWithTown_100 rfl rfl ?_
      refine r_iload_n F 2 dX6_mixedWithTown_101 rfl rfl ?_
      refine r_iconst F dX6_mixedWithTown_102 (v := 1) (by decide) ?_
      refine r_tV (val := vI) (As := [.int y3, .int (1 : Int32)]) (rest := [.long r93]) (fun q9 => .int q9 :: [.long r93]) F (c_X6_bestTurn F.st F.gg y3 (1 : Int32) M93) dX6_mixedWithTown_103 ml_X6_343 yv_X6_bestTurn (rfl : kd 0 = 0) (by decide) rfl rfl (by decide) rfl (Nat.le_of_ble_eq_true rfl) (fun _ => rfl) (fun r103 M103 => ?_)
      refine r_i2l F dX6_mixedWithTown_106 ?_
      refine r_cS (val := vL) (As := [.long r93, .long ((r103).toInt64)]) (rest := []) (fun q9 => .long q9 :: []) F (c_X6_mixed F.st F.gg r93 ((r103).toInt64) M103) (fun _ _ => rfl) dX6_mixedWithTown_107 ml_X6_308 ys_X6_mixed rfl (by decide) rfl (Nat.le_of_ble_eq_true rfl) (fun _ => rfl) (fun r107 M107 => ?_)
      refine r_lstore (ls' := [(4, .long r107), (0, .ref (gA G 0)), (3, .int y3), (6, .int y6)]) F dX6_mixedWithTown_110 (by decide) rfl ?_
      refine r_lload F 0 dX6_mixedWithTown_112 rfl ?_
      refine r_aload_n F 1 dX6_mixedWithTown_114 rfl rfl ?_
      refine r_iload_n F 2 dX6_mixedWithTown_115 rfl rfl ?_
      refine r_tV (val := vI) (As := [.int y3]) (rest := [.long r107]) (fun q9 => .int q9 :: [.long r107]) F (c_X6_bestDrum F.st F.gg y3 M107) dX6_mixedWithTown_116 ml_X6_346 yv_X6_bestDrum (rfl : kd 0 = 0) (by decide) rfl rfl (by decide) rfl (Nat.le_of_ble_eq_true rfl) (fun _ => rfl) (fun r116 M116 => ?_)
      refine r_i2l F dX6_mixedWithTown_119 ?_
      refine r_cS (val := vL) (As := [.long r107, .long ((r116).toInt64)]) (rest := []) (fun q9 => .long q9 :: []) F (c_X6_mixed F.st F.gg r107 ((r116).toInt64) M116) (fun _ _ => rfl) dX6_mixedWithTown_120 ml_X6_308 ys_X6_mixed rfl (by decide) rfl (Nat.le_of_ble_eq_true rfl) (fun _ => rfl) (fun r120 M120 => ?_)
      exact r_lret F rfl dX6_mixedWithTown_123 rfl
    · refine r_lload F 2 dX6_mixedWithTown_48 rfl ?_
      refine r_aload_n F 0 dX6_mixedWithTown_50 rfl rfl ?_
      refine gf_X6_30 F dX6_mixedWithTown_51 (rfl : kd 0 = 0) ?_
      refine r_iload F 3 dX6_mixedWithTown_54 rfl ?_
      refine r_cVN (val := vI) (As := [.int y6]) (rest := [.long y4]) (fun q9 => .int q9 :: [.long y4]) F (c_X1_tell F.st F.gg y6 M) (fun _ _ => rfl) dX6_mixedWithTown_56 mn_X6_269 yv_X1_tell (rfl : kd 5 = 3) (by decide) rfl rfl (by decide) rfl (Nat.le_of_ble_eq_true rfl) (fun _ => rfl) (fun r56 M56 => ?_)
      refine r_i2l F dX6_mixedWithTown_59 ?_
      refine r_cS (val := vL) (As := [.long y4, .long ((r56).toInt64)]) (rest := []) (fun q9 => .long q9 :: []) F (c_X6_mixed F.st F.gg y4 ((r56).toInt64) M56) (fun _ _ => rfl) dX6_mixedWithTown_60 ml_X6_308 ys_X6_mixed rfl (by decide) rfl (Nat.le_of_ble_eq_true rfl) (fun _ => rfl) (fun r60 M60 => ?_)
      refine r_lstore (ls' := [(4, .long r60), (0, .ref (gA G 0)), (3, .int y3), (6, .int y6)]) F dX6_mixedWithTown_63 (by decide) rfl ?_
      refine r_iinc (ls' := fun q9 => [(6, .int q9), (4, .long r60), (0, .ref (gA G 0)), (3, .int y3)]) (k := 3) (v := y6 + (1 : Int32)) F dX6_mixedWithTown_65 rfl rfl (by decide) (fun _ => rfl) (fun x65 => ?_)
      refine r_goto (tgt := 42) F dX6_mixedWithTown_68 (by decide) ?_
      refine r_sub [2, 3, 1, 0] rfl ?_
      exact ih y3 r60 x65 M60

def f_X6_mixedWithTown_6 : Nat → Int32 → Int64 → Int32 → Mem → Option ((Int64 ⊕ String) × Mem)
  | 0, _, _, _, _ => none
  | n + 1, y3, y4, y6, M => if (12 : Int32) ≤ y6 then (bn (f_X6_foresee y3 M) fun _ M36 => f_X6_mixedWithTown_42  FU y3 y4 (0 : Int32) M36) else (bt (f_X6_town y3 y6 M) fun r19 M19 => bn (f_X6_mixed y4 ((r19).toInt64) M19) fun r23 M23 => bnd (y6 + (1 : Int32)) fun x28 => f_X6_mixedWithTown_6  n y3 r23 x28 M23)

set_option maxRecDepth 100000 in
set_option maxHeartbeats 4000000 in
theorem l_X6_mixedWithTown_6 {G : GM} {p : Program} {l : Launch} {e : Env} {s : State} {m : MethodId} {args : Array Value} {below : List Frame} {meth : Method} {c : Code} (F : Fx G p l s m args meth c cX6_mixedWithTown RX6 7 (some .long)) : ∀ (n : Nat) (y3 : Int32) (y4 : Int64) (y6 : Int32) (M : Mem), Rf G p l e s m args below meth c 10 7 (emT vL) (f_X6_mixedWithTown_6  n y3 y4 y6 M) 6 [(0, .ref (gA G 0)), (3, .int y3), (4, .long y4), (6, .int y6)] [] M := by
  intro n
  induction n with
  | zero => intros; exact r_none
  | succ n ih =>
    intro y3 y4 y6 M
    rw [f_X6_mixedWithTown_6]
    refine r_iload F 3 dX6_mixedWithTown_6 rfl ?_
    refine r_bipush F dX6_mixedWithTown_8 (v := 12) (by decide) ?_
    refine r_icmp_ge (tgt := 34) F dX6_mixedWithTown_10 (by decide) (fun c1 => ?_) (fun c1 => ?_)
    · refine r_aload_n F 0 dX6_mixedWithTown_34 rfl rfl ?_
      refine r_iload_n F 1 dX6_mixedWithTown_35 rfl rfl ?_
      refine r_cV (val := vU) (As := [.int y3]) (rest := []) (fun _ => []) F (c_X6_foresee F.st F.gg y3 M) (fun _ _ => rfl) dX6_mixedWithTown_36 ml_X6_145 yv_X6_foresee (rfl : kd 0 = 0) (by decide) rfl rfl (by decide) rfl (Nat.le_of_ble_eq_true rfl) (fun _ => rfl) (fun _ M36 => ?_)
      refine r_iconst F dX6_mixedWithTown_39 (v := 0) (by decide) ?_
      refine r_istore (ls' := [(6, .int (0 : Int32)), (0, .ref (gA G 0)), (3, .int y3), (4, .long y4)]) F dX6_mixedWithTown_40 (by decide) rfl ?_
      refine r_sub [1, 2, 3, 0] rfl ?_
      exact l_X6_mixedWithTown_42 F   FU y3 y4 (0 : Int32) M36
    · refine r_lload F 2 dX6_mixedWithTown_13 rfl ?_
      refine r_aload_n F 0 dX6_mixedWithTown_15 rfl rfl ?_
      refine r_iload_n F 1 dX6_mixedWithTown_16 rfl rfl ?_
      refine r_iload F 3 dX6_mixedWithTown_17 rfl ?_
      refine r_tV (val := vI) (As := [.int y3, .int y6]) (rest := [.long y4]) (fun q9 => .int q9 :: [.long y4]) F (c_X6_town F.st F.gg y3 y6 M) dX6_mixedWithTown_19 ml_X6_336 yv_X6_town (rfl : kd 0 = 0) (by decide) rfl rfl (by decide) rfl (Nat.le_of_ble_eq_true rfl) (fun _ => rfl) (fun r19 M19 => ?_)
      refine r_i2l F dX6_mixedWithTown_22 ?_
      refine r_cS (val := vL) (As := [.long y4, .long ((r19).toInt64)]) (rest := []) (fun q9 => .long q9 :: []) F (c_X6_mixed F.st F.gg y4 ((r19).toInt64) M19) (fun _ _ => rfl) dX6_mixedWithTown_23 ml_X6_308 ys_X6_mixed rfl (by decide) rfl (Nat.le_of_ble_eq_true rfl) (fun _ => rfl) (fun r23 M23 => ?_)
      refine r_lstore (ls' := [(4, .long r23), (0, .ref (gA G 0)), (3, .int y3), (6, .int y6)]) F dX6_mixedWithTown_26 (by decide) rfl ?_
      refine r_iinc (ls' := fun q9 => [(6, .int q9), (4, .long r23), (0, .ref (gA G 0)), (3, .int y3)]) (k := 3) (v := y6 + (1 : Int32)) F dX6_mixedWithTown_28 rfl rfl (by decide) (fun _ => rfl) (fun x28 => ?_)
      refine r_goto (tgt := 6) F dX6_mixedWithTown_31 (by decide) ?_
      refine r_sub [2, 3, 1, 0] rfl ?_
      exact ih y3 r23 x28 M23

def f_X6_mixedWithTown (a1 : Int64) (a3 : Int32) (M : Mem) : Option ((Int64 ⊕ String) × Mem) := f_X6_mixedWithTown_6  FU a3 a1 (0 : Int32) M

set_option maxRecDepth 100000 in
set_option maxHeartbeats 4000000 in
theorem b_X6_mixedWithTown {G : GM} {p : Program} {l : Launch} {e : Env} {s : State} {m : MethodId} {args : Array Value} {below : List Frame} {meth : Method} {c : Code} (F : Fx G p l s m args meth c cX6_mixedWithTown RX6 7 (some .long)) (a1 : Int64) (a3 : Int32) (M : Mem) : Rf G p l e s m args below meth c 10 7 (emT vL) (f_X6_mixedWithTown a1 a3 M) 0 [(0, .ref (gA G 0)), (1, .long a1), (3, .int a3)] [] M := by
  unfold f_X6_mixedWithTown
  refine r_lload_n F 1 dX6_mixedWithTown_0 rfl rfl ?_
  refine r_lstore (ls' := [(4, .long a1), (0, .ref (gA G 0)), (1, .long a1), (3, .int a3)]) F dX6_mixedWithTown_1 (by decide) rfl ?_
  refine r_iconst F dX6_mixedWithTown_3 (v := 0) (by decide) ?_
  refine r_istore (ls' := [(6, .int (0 : Int32)), (4, .long a1), (0, .ref (gA G 0)), (1, .long a1), (3, .int a3)]) F dX6_mixedWithTown_4 (by decide) rfl ?_
  refine r_sub [2, 4, 1, 0] rfl ?_
  exact l_X6_mixedWithTown_6 F   FU a3 a1 (0 : Int32) M

set_option maxRecDepth 100000 in
set_option maxHeartbeats 4000000 in
theorem c_X6_mixedWithTown {l : Launch} {G : GM} (hl : l.stackTraces = false) (hG : GG G) (a1 : Int64) (a3 : Int32) (M : Mem) : ∀ r, f_X6_mixedWithTown a1 a3 M = some r → Ctr l G yX6_mixedWithTown (.code yX6_mixedWithTown cX6_mixedWithTown 7 (some .long) :: wsA) 10 [.ref (gA G 0), .long a1, .int a3] M ((emT vL) r) :=
  ctr_of (by decide) hl hG (Nat.le_of_ble_eq_true rfl) (fun p e s m args below meth c F => b_X6_mixedWithTown F a1 a3 M)

-- ===== X4_broughtBy DrumTowns$Trades.broughtBy(III)I =====
theorem yv_X4_broughtBy : yV yX4_broughtBy cX4_broughtBy 4 (some .int) 3 := ⟨im_X4_broughtBy, sl_X4_broughtBy, ini_X4, cd_X4_broughtBy, ⟨by decide, by decide, by decide +kernel⟩, by decide⟩

def f_X4_broughtBy (a1 : Int32) (a2 : Int32) (a3 : Int32) (M : Mem) : Option (Int32 × Mem) := chk (inb a1 6) <| bnd (rw' 13 a1) fun b5 => chk (inb a2 6) <| chk (inb (a3 ||| ((1 : Int32) <<< (a2 &&& 31))) 64) <| some (((M.1 b5 a2.toNatClampNeg) + (M.1 20 (a3 ||| ((1 : Int32) <<< (a2 &&& 31))).toNatClampNeg)), M)

set_option maxRecDepth 100000 in
set_option maxHeartbeats 4000000 in
theorem b_X4_broughtBy {G : GM} {p : Program} {l : Launch} {e : Env} {s : State} {m : MethodId} {args : Array Value} {below : List Frame} {meth : Method} {c : Code} (F : Fx G p l s m args meth c cX4_broughtBy RX4 4 (some .int)) (a1 : Int32) (a2 : Int32) (a3 : Int32) (M : Mem) : Rf G p l e s m args below meth c 6 4 emI (f_X4_broughtBy a1 a2 a3 M) 0 [(0, .ref (gA G 12)), (1, .int a1), (2, .int a2), (3, .int a3)] [] M := by
  unfold f_X4_broughtBy
  refine r_aload_n F 0 dX4_broughtBy_0 rfl rfl ?_
  refine gf_X4_11 F dX4_broughtBy_1 (rfl : kd 12 = 5) ?_
  refine r_iload_n F 1 dX4_broughtBy_4 rfl rfl ?_
  refine r_chk (fun h1 => ?_)
  refine r_aaldR F dX4_broughtBy_5 (rfl : kd 13 = 11) h1 ?_
  refine r_bra (kRw (rfl : kd 13 = 11) h1) (aRw (rfl : kd 13 = 11) h1) (fun b5 k5 k5a => ?_)
  refine r_iload_n F 2 dX4_broughtBy_6 rfl rfl ?_
  refine r_chk (fun h2 => ?_)
  refine r_iald F dX4_broughtBy_7 k5 k5a h2 ?_
  refine r_aload_n F 0 dX4_broughtBy_8 rfl rfl ?_
  refine gf_X4_16 F dX4_broughtBy_9 (rfl : kd 12 = 5) ?_
  refine r_iload_n F 3 dX4_broughtBy_12 rfl rfl ?_
  refine r_iconst F dX4_broughtBy_13 (v := 1) (by decide) ?_
  refine r_iload_n F 2 dX4_broughtBy_14 rfl rfl ?_
  refine r_ishl F dX4_broughtBy_15 ?_
  refine r_ior F dX4_broughtBy_16 ?_
  refine r_chk (fun h3 => ?_)
  refine r_iald F dX4_broughtBy_17 (rfl : kd 20 = 8) (rfl : al 20 = 64) h3 ?_
  refine r_iadd F dX4_broughtBy_18 ?_
  exact r_iret F rfl dX4_broughtBy_19 rfl

set_option maxRecDepth 100000 in
set_option maxHeartbeats 4000000 in
theorem c_X4_broughtBy {l : Launch} {G : GM} (hl : l.stackTraces = false) (hG : GG G) (a1 : Int32) (a2 : Int32) (a3 : Int32) (M : Mem) : ∀ r, f_X4_broughtBy a1 a2 a3 M = some r → Ctr l G yX4_broughtBy (.code yX4_broughtBy cX4_broughtBy 4 (some .int) :: wsA) 6 [.ref (gA G 12), .int a1, .int a2, .int a3] M (emI r) :=
  ctr_of (by decide) hl hG (Nat.le_of_ble_eq_true rfl) (fun p e s m args below meth c F => b_X4_broughtBy F a1 a2 a3 M)

-- ===== X4_firstBest DrumTowns$Trades.firstBest(I)I =====
theorem yv_X4_firstBest : yV yX4_firstBest cX4_firstBest 6 (some .int) 1 := ⟨im_X4_firstBest, sl_X4_firstBest, ini_X4, cd_X4_firstBest, ⟨by decide, by decide, by decide +kernel⟩, by decide⟩

def f_X4_firstBest_57 (k13 : Int32 → Int32 → Int32 → Int32 → Int32 → Mem → Option (Int32 × Mem)) (y1 : Int32) (y2 : Int32) (y3 : Int32) (y4 : Int32) (y5 : Int32) (M : Mem) : Option (Int32 × Mem) := bnd (y5 + (1 : Int32)) fun x57 => k13 y1 y2 y3 y4 x57 M

set_option maxRecDepth 100000 in
set_option maxHeartbeats 4000000 in
theorem l_X4_firstBest_57 {G : GM} {p : Program} {l : Launch} {e : Env} {s : State} {m : MethodId} {args : Array Value} {below : List Frame} {meth : Method} {c : Code} (F : Fx G p l s m args meth c cX4_firstBest RX4 6 (some .int)) (k13 : Int32 → Int32 → Int32 → Int32 → Int32 → Mem → Option (Int32 × Mem)) (H13 : ∀ (y1 : Int32) (y2 : Int32) (y3 : Int32) (y4 : Int32) (y5 : Int32) (M : Mem), Rf G p l e s m args below meth c 7 6 emI (k13 y1 y2 y3 y4 y5 M) 13 [(0, .ref (gA G 12)), (1, .int y1), (2, .int y2), (3, .int y3), (4, .int y4), (5, .int y5)] [] M) (y1 : Int32) (y2 : Int32) (y3 : Int32) (y4 : Int32) (y5 : Int32) (M : Mem) : Rf G p l e s m args below meth c 7 6 emI (f_X4_firstBest_57 k13 y1 y2 y3 y4 y5 M) 57 [(0, .ref (gA G 12)), (1, .int y1), (2, .int y2), (3, .int y3), (4, .int y4), (5, .int y5)] [] M := by
  unfold f_X4_firstBest_57
  refine r_iinc (ls' := fun q9 => [(5, .int q9), (0, .ref (gA G 12)), (1, .int y1), (2, .int y2), (3, .int y3), (4, .int y4)]) (k := 5) (v := y5 + (1 : Int32)) F dX4_firstBest_57 rfl rfl (by decide) (fun _ => rfl) (fun x57 => ?_)
  refine r_goto (tgt := 13) F dX4_firstBest_60 (by decide) ?_
  refine r_sub [1, 2, 3, 4, 5, 0] rfl ?_
  exact H13 y1 y2 y3 y4 x57 M

def f_X4_firstBest_13 : Nat → Int32 → Int32 → Int32 → Int32 → Int32 → Mem → Option (Int32 × Mem)
  | 0, _, _, _, _, _, _ => none
  | n + 1, y1, y2, y3, y4, y5, M => if (M.1 12 3) ≤ y5 then (some (y3, M)) else (if (y1 &&& ((1 : Int32) <<< (y5 &&& 31))) = 0 then (bn (f_X4_broughtBy y2 y5 y1 M) fun r36 M36 => if r36 ≤ y4 then (f_X4_firstBest_57 (f_X4_firstBest_13  n) y1 y2 y3 y4 y5 M36) else (bn (f_X4_broughtBy y2 y5 y1 M36) fun r52 M52 => f_X4_firstBest_57 (f_X4_firstBest_13  n) y1 y2 y5 r52 y5 M52)) else (f_X4_firstBest_57 (f_X4_firstBest_13  n) y1 y2 y3 y4 y5 M))

set_option maxRecDepth 100000 in
set_option maxHeartbeats 4000000 in
theorem l_X4_firstBest_13 {G : GM} {p : Program} {l : Launch} {e : Env} {s : State} {m : MethodId} {args : Array Value} {below : List Frame} {meth : Method} {c : Code} (F : Fx G p l s m args meth c cX4_firstBest RX4 6 (some .int)) : ∀ (n : Nat) (y1 : Int32) (y2 : Int32) (y3 : Int32) (y4 : Int32) (y5 : Int32) (M : Mem), Rf G p l e s m args below meth c 7 6 emI (f_X4_firstBest_13  n y1 y2 y3 y4 y5 M) 13 [(0, .ref (gA G 12)), (1, .int y1), (2, .int y2), (3, .int y3), (4, .int y4), (5, .int y5)] [] M := by
  intro n
  induction n with
  | zero => intros; exact r_none
  | succ n ih =>
    intro y1 y2 y3 y4 y5 M
    rw [f_X4_firstBest_13]
    refine r_iload F 5 dX4_firstBest_13 rfl ?_
    refine r_aload_n F 0 dX4_firstBest_15 rfl rfl ?_
    refine gf_X4_29 F dX4_firstBest_16 (rfl : kd 12 = 5) ?_
    refine r_icmp_ge (tgt := 63) F dX4_firstBest_19 (by decide) (fun c1 => ?_) (fun c1 => ?_)
    · refine r_iload_n F 3 dX4_firstBest_63 rfl rfl ?_
      exact r_iret F rfl dX4_firstBest_64 rfl
    · refine r_iload_n F 1 dX4_firstBest_22 rfl rfl ?_
      refine r_iconst F dX4_firstBest_23 (v := 1) (by decide) ?_
      refine r_iload F 5 dX4_firstBest_24 rfl ?_
      refine r_ishl F dX4_firstBest_26 ?_
      refine r_iand F dX4_firstBest_27 ?_
      refine r_if_ne (tgt := 57) F dX4_firstBest_28 (by decide) (fun c2 => ?_) (fun c2 => ?_)
      · refine r_aload_n F 0 dX4_firstBest_31 rfl rfl ?_
        refine r_iload_n F 2 dX4_firstBest_32 rfl rfl ?_
        refine r_iload F 5 dX4_firstBest_33 rfl ?_
        refine r_iload_n F 1 dX4_firstBest_35 rfl rfl ?_
        refine r_cV (val := vI) (As := [.int y2, .int y5, .int y1]) (rest := []) (fun q9 => .int q9 :: []) F (c_X4_broughtBy F.st F.gg y2 y5 y1 M) (fun _ _ => rfl) dX4_firstBest_36 ml_X4_55 yv_X4_broughtBy (rfl : kd 12 = 5) (by decide) rfl rfl (by decide) rfl (Nat.le_of_ble_eq_true rfl) (fun _ => rfl) (fun r36 M36 => ?_)
        refine r_iload F 4 dX4_firstBest_39 rfl ?_
        refine r_icmp_le (tgt := 57) F dX4_firstBest_41 (by decide) (fun c3 => ?_) (fun c3 => ?_)
        · refine r_sub [0, 1, 2, 3, 4, 5] rfl ?_
          exact l_X4_firstBest_57 F (f_X4_firstBest_13  n) (fun q0 q1 q2 q3 q4 M9 => ih q0 q1 q2 q3 q4 M9) y1 y2 y3 y4 y5 M36
        · refine r_iload F 5 dX4_firstBest_44 rfl ?_
          refine r_istore_n (ls' := [(3, .int y5), (0, .ref (gA G 12)), (1, .int y1), (2, .int y2), (4, .int y4), (5, .int y5)]) F dX4_firstBest_46 rfl (by decide) rfl ?_
          refine r_aload_n F 1 dX4_firstBest_47 rfl rfl ?_
          refine r_iload_n F 3 dX4_firstBest_48 rfl rfl ?_
          refine r_iload F 5 dX4_firstBest_49 rfl ?_
          refine r_iload_n F 2 dX4_firstBest_51 rfl rfl ?_
          refine r_cV (val := vI) (As := [.int y2, .int y5, .int y1]) (rest := []) (fun q9 => .int q9 :: []) F (c_X4_broughtBy F.st F.gg y2 y5 y1 M36) (fun _ _ => rfl) dX4_firstBest_52 ml_X4_55 yv_X4_broughtBy (rfl : kd 12 = 5) (by decide) rfl rfl (by decide) rfl (Nat.le_of_ble_eq_true rfl) (fun _ => rfl) (fun r52 M52 => ?_)
          refine r_istore (ls' := [(4, .int r52), (3, .int y5), (0, .ref (gA G 12)), (1, .int y1), (2, .int y2), (5, .int y5)]) F dX4_firstBest_55 (by decide) rfl ?_
          refine r_sub [2, 3, 4, 1, 0, 5] rfl ?_
          exact l_X4_firstBest_57 F (f_X4_firstBest_13  n) (fun q0 q1 q2 q3 q4 M9 => ih q0 q1 q2 q3 q4 M9) y1 y2 y5 r52 y5 M52
      · refine r_sub [0, 1, 2, 3, 4, 5] rfl ?_
        exact l_X4_firstBest_57 F (f_X4_firstBest_13  n) (fun q0 q1 q2 q3 q4 M9 => ih q0 q1 q2 q3 q4 M9) y1 y2 y3 y4 y5 M

def f_X4_firstBest (a1 : Int32) (M : Mem) : Option (Int32 × Mem) := bn (f_J6_bitCount_0f7a4 a1 M) fun r1 M1 => f_X4_firstBest_13  FU a1 r1 (0 : Int32) (-1 : Int32) (0 : Int32) M1

set_option maxRecDepth 100000 in
set_option maxHeartbeats 4000000 in
theorem b_X4_firstBest {G : GM} {p : Program} {l : Launch} {e : Env} {s : State} {m : MethodId} {args : Array Value} {below : List Frame} {meth : Method} {c : Code} (F : Fx G p l s m args meth c cX4_firstBest RX4 6 (some .int)) (a1 : Int32) (M : Mem) : Rf G p l e s m args below meth c 7 6 emI (f_X4_firstBest a1 M) 0 [(0, .ref (gA G 12)), (1, .int a1)] [] M := by
  unfold f_X4_firstBest
  refine r_iload_n F 1 dX4_firstBest_0 rfl rfl ?_
  refine r_cS (val := vI) (As := [.int a1]) (rest := []) (fun q9 => .int q9 :: []) F (c_J6_bitCount_0f7a4 F.st F.gg a1 M) (fun _ _ => rfl) dX4_firstBest_1 ml_X4_46 ys_J6_bitCount_0f7a4 rfl (by decide) rfl (Nat.le_of_ble_eq_true rfl) (fun _ => rfl) (fun r1 M1 => ?_)
  refine r_istore_n (ls' := [(2, .int r1), (0, .ref (gA G 12)), (1, .int a1)]) F dX4_firstBest_4 rfl (by decide) rfl ?_
  refine r_iconst F dX4_firstBest_5 (v := 0) (by decide) ?_
  refine r_istore_n (ls' := [(3, .int (0 : Int32)), (2, .int r1), (0, .ref (gA G 12)), (1, .int a1)]) F dX4_firstBest_6 rfl (by decide) rfl ?_
  refine r_iconst F dX4_firstBest_7 (v := -1) (by decide) ?_
  refine r_istore (ls' := [(4, .int (-1 : Int32)), (3, .int (0 : Int32)), (2, .int r1), (0, .ref (gA G 12)), (1, .int a1)]) F dX4_firstBest_8 (by decide) rfl ?_
  refine r_iconst F dX4_firstBest_10 (v := 0) (by decide) ?_
  refine r_istore (ls' := [(5, .int (0 : Int32)), (4, .int (-1 : Int32)), (3, .int (0 : Int32)), (2, .int r1), (0, .ref (gA G 12)), (1, .int a1)]) F dX4_firstBest_11 (by decide) rfl ?_
  refine r_sub [4, 5, 3, 2, 1, 0] rfl ?_
  exact l_X4_firstBest_13 F   FU a1 r1 (0 : Int32) (-1 : Int32) (0 : Int32) M1

set_option maxRecDepth 100000 in
set_option maxHeartbeats 4000000 in
theorem c_X4_firstBest {l : Launch} {G : GM} (hl : l.stackTraces = false) (hG : GG G) (a1 : Int32) (M : Mem) : ∀ r, f_X4_firstBest a1 M = some r → Ctr l G yX4_firstBest (.code yX4_firstBest cX4_firstBest 6 (some .int) :: wsA) 7 [.ref (gA G 12), .int a1] M (emI r) :=
  ctr_of (by decide) hl hG (Nat.le_of_ble_eq_true rfl) (fun p e s m args below meth c F => b_X4_firstBest F a1 M)

-- ===== X4_choose DrumTowns$Trades.choose()V =====
theorem yv_X4_choose : yV yX4_choose cX4_choose 4 none 0 := ⟨im_X4_choose, sl_X4_choose, ini_X4, cd_X4_choose, ⟨by decide, by decide, by decide +kernel⟩, by decide⟩

def f_X4_choose_4 : Nat → Int32 → Int32 → Mem → Option (Unit × Mem)
  | 0, _, _, _ => none
  | n + 1, y1, y2, M => if (M.1 12 3) ≤ y2 then (some ((), M)) else (bn (f_X4_firstBest y1 M) fun r14 M14 => chk (inb y2 6) <| bnd (mw M14 21 y2.toNatClampNeg r14) fun M24 => bnd (y1 ||| ((1 : Int32) <<< (r14 &&& 31))) fun x30 => bnd (y2 + (1 : Int32)) fun x31 => f_X4_choose_4  n x30 x31 M24)

set_option maxRecDepth 100000 in
set_option maxHeartbeats 4000000 in
theorem l_X4_choose_4 {G : GM} {p : Program} {l : Launch} {e : Env} {s : State} {m : MethodId} {args : Array Value} {below : List Frame} {meth : Method} {c : Code} (F : Fx G p l s m args meth c cX4_choose RX4 4 none) : ∀ (n : Nat) (y1 : Int32) (y2 : Int32) (M : Mem), Rf G p l e s m args below meth c 8 4 emV (f_X4_choose_4  n y1 y2 M) 4 [(0, .ref (gA G 12)), (1, .int y1), (2, .int y2)] [] M := by
  intro n
  induction n with
  | zero => intros; exact r_none
  | succ n ih =>
    intro y1 y2 M
    rw [f_X4_choose_4]
    refine r_iload_n F 2 dX4_choose_4 rfl rfl ?_
    refine r_aload_n F 0 dX4_choose_5 rfl rfl ?_
    refine gf_X4_29 F dX4_choose_6 (rfl : kd 12 = 5) ?_
    refine r_icmp_ge (tgt := 37) F dX4_choose_9 (by decide) (fun c1 => ?_) (fun c1 => ?_)
    · exact r_vret F rfl dX4_choose_37 rfl
    · refine r_aload_n F 0 dX4_choose_12 rfl rfl ?_
      refine r_iload_n F 1 dX4_choose_13 rfl rfl ?_
      refine r_cV (val := vI) (As := [.int y1]) (rest := []) (fun q9 => .int q9 :: []) F (c_X4_firstBest F.st F.gg y1 M) (fun _ _ => rfl) dX4_choose_14 ml_X4_52 yv_X4_firstBest (rfl : kd 12 = 5) (by decide) rfl rfl (by decide) rfl (Nat.le_of_ble_eq_true rfl) (fun _ => rfl) (fun r14 M14 => ?_)
      refine r_istore_n (ls' := [(3, .int r14), (0, .ref (gA G 12)), (1, .int y1), (2, .int y2)]) F dX4_choose_17 rfl (by decide) rfl ?_
      refine r_aload_n F 1 dX4_choose_18 rfl rfl ?_
      refine gf_X4_20 F dX4_choose_19 (rfl : kd 12 = 5) ?_
      refine r_iload_n F 3 dX4_choose_22 rfl rfl ?_
      refine r_iload_n F 0 dX4_choose_23 rfl rfl ?_
      refine r_chk (fun h2 => ?_)
      refine r_iast F dX4_choose_24 (rfl : kd 21 = 8) (rfl : al 21 = 6) h2 (fun M24 => ?_)
      refine r_iload_n F 2 dX4_choose_25 rfl rfl ?_
      refine r_iconst F dX4_choose_26 (v := 1) (by decide) ?_
      refine r_iload_n F 0 dX4_choose_27 rfl rfl ?_
      refine r_ishl F dX4_choose_28 ?_
      refine r_ior F dX4_choose_29 ?_
      refine r_bi (fun x30 => ?_)
      refine r_istore_n (ls' := [(1, .int x30), (3, .int r14), (0, .ref (gA G 12)), (2, .int y2)]) F dX4_choose_30 rfl (by decide) rfl ?_
      refine r_iinc (ls' := fun q9 => [(2, .int q9), (1, .int x30), (3, .int r14), (0, .ref (gA G 12))]) (k := 3) (v := y2 + (1 : Int32)) F dX4_choose_31 rfl rfl (by decide) (fun _ => rfl) (fun x31 => ?_)
      refine r_goto (tgt := 4) F dX4_choose_34 (by decide) ?_
      refine r_sub [3, 1, 0] rfl ?_
      exact ih x30 x31 M24

def f_X4_choose  (M : Mem) : Option (Unit × Mem) := f_X4_choose_4  FU (0 : Int32) (0 : Int32) M

set_option maxRecDepth 100000 in
set_option maxHeartbeats 4000000 in
theorem b_X4_choose {G : GM} {p : Program} {l : Launch} {e : Env} {s : State} {m : MethodId} {args : Array Value} {below : List Frame} {meth : Method} {c : Code} (F : Fx G p l s m args meth c cX4_choose RX4 4 none)  (M : Mem) : Rf G p l e s m args below meth c 8 4 emV (f_X4_choose  M) 0 [(0, .ref (gA G 12))] [] M := by
  unfold f_X4_choose
  refine r_iconst F dX4_choose_0 (v := 0) (by decide) ?_
  refine r_istore_n (ls' := [(1, .int (0 : Int32)), (0, .ref (gA G 12))]) F dX4_choose_1 rfl (by decide) rfl ?_
  refine r_iconst F dX4_choose_2 (v := 0) (by decide) ?_
  refine r_istore_n (ls' := [(2, .int (0 : Int32)), (1, .int (0 : Int32)), (0, .ref (gA G 12))]) F dX4_choose_3 rfl (by decide) rfl ?_
  refine r_sub [2, 1, 0] rfl ?_
  exact l_X4_choose_4 F   FU (0 : Int32) (0 : Int32) M

set_option maxRecDepth 100000 in
set_option maxHeartbeats 4000000 in
theorem c_X4_choose {l : Launch} {G : GM} (hl : l.stackTraces = false) (hG : GG G)  (M : Mem) : ∀ r, f_X4_choose  M = some r → Ctr l G yX4_choose (.code yX4_choose cX4_choose 4 none :: wsA) 8 [.ref (gA G 12)] M (emV r) :=
  ctr_of (by decide) hl hG (Nat.le_of_ble_eq_true rfl) (fun p e s m args below meth c F => b_X4_choose F  M)

-- ===== X4_find DrumTowns$Trades.find(LDrumTowns$Land;)V =====
theorem yv_X4_find : yV yX4_find cX4_find 5 none 1 := ⟨im_X4_find, sl_X4_find, ini_X4, cd_X4_find, ⟨by decide, by decide, by decide +kernel⟩, by decide⟩

def f_X4_find_20 (k10 : Nat → Int32 → Mem → Option (Unit × Mem)) : Nat → Nat → Int32 → Int32 → Mem → Option (Unit × Mem)
  | 0, _, _, _, _ => none
  | n + 1, y1, y2, y3, M => if (M.1 12 3) ≤ y3 then (bnd (y2 + (1 : Int32)) fun x63 => k10 y1 x63 M) else (chk (inb y2 6) <| bnd (rw' 13 y2) fun b33 => chk (kb y1 1) <| chk (inb y3 6) <| bnd (tw (y1 + 1) y3) fun b40 => chk (inb y2 6) <| bnd (tw (y1 + 1) y2) fun b49 => bn (f_X6_sharedBy (b40 + 1) (b49 + 2) M) fun r53 M53 => chk (inb y3 6) <| bnd (mw M53 b33 y3.toNatClampNeg r53) fun M56 => bnd (y3 + (1 : Int32)) fun x57 => f_X4_find_20 k10 n y1 y2 x57 M56)

set_option maxRecDepth 100000 in
set_option maxHeartbeats 4000000 in
theorem l_X4_find_20 {G : GM} {p : Program} {l : Launch} {e : Env} {s : State} {m : MethodId} {args : Array Value} {below : List Frame} {meth : Method} {c : Code} (F : Fx G p l s m args meth c cX4_find RX4 5 none) (k10 : Nat → Int32 → Mem → Option (Unit × Mem)) (H10 : ∀ (y1 : Nat) (y2 : Int32) (M : Mem), Rf G p l e s m args below meth c 9 5 emV (k10 y1 y2 M) 10 [(0, .ref (gA G 12)), (1, .ref (gA G y1)), (2, .int y2)] [] M) : ∀ (n : Nat) (y1 : Nat) (y2 : Int32) (y3 : Int32) (M : Mem), Rf G p l e s m args below meth c 9 5 emV (f_X4_find_20 k10 n y1 y2 y3 M) 20 [(0, .ref (gA G 12)), (1, .ref (gA G y1)), (2, .int y2), (3, .int y3)] [] M := by
  intro n
  induction n with
  | zero => intros; exact r_none
  | succ n ih =>
    intro y1 y2 y3 M
    rw [f_X4_find_20]
    refine r_iload_n F 3 dX4_find_20 rfl rfl ?_
    refine r_aload_n F 0 dX4_find_21 rfl rfl ?_
    refine gf_X4_29 F dX4_find_22 (rfl : kd 12 = 5) ?_
    refine r_icmp_ge (tgt := 63) F dX4_find_25 (by decide) (fun c1 => ?_) (fun c1 => ?_)
    · refine r_iinc (ls' := fun q9 => [(2, .int q9), (0, .ref (gA G 12)), (1, .ref (gA G y1)), (3, .int y3)]) (k := 2) (v := y2 + (1 : Int32)) F dX4_find_63 rfl rfl (by decide) (fun _ => rfl) (fun x63 => ?_)
      refine r_goto (tgt := 10) F dX4_find_66 (by decide) ?_
      refine r_sub [1, 2, 0] rfl ?_
      exact H10 y1 x63 M
    · refine r_aload_n F 0 dX4_find_28 rfl rfl ?_
      refine gf_X4_11 F dX4_find_29 (rfl : kd 12 = 5) ?_
      refine r_iload_n F 2 dX4_find_32 rfl rfl ?_
      refine r_chk (fun h2 => ?_)
      refine r_aaldR F dX4_find_33 (rfl : kd 13 = 11) h2 ?_
      refine r_bra (kRw (rfl : kd 13 = 11) h2) (aRw (rfl : kd 13 = 11) h2) (fun b33 k33 k33a => ?_)
      refine r_iload_n F 3 dX4_find_34 rfl rfl ?_
      refine r_aload_n F 1 dX4_find_35 rfl rfl ?_
      refine r_chk (fun h3 => ?_)
      refine gf_X4_30 F dX4_find_36 (kb_k h3) ?_
      refine r_iload_n F 3 dX4_find_39 rfl rfl ?_
      refine r_chk (fun h4 => ?_)
      refine r_aaldT F dX4_find_40 (kLs (kb_k h3)) h4 ?_
      refine r_br (kTw' (kLs (kb_k h3)) h4) (fun b40 k40 => ?_)
      refine gf_X4_34 F dX4_find_41 k40 ?_
      refine r_aload_n F 1 dX4_find_44 rfl rfl ?_
      refine gf_X4_30 F dX4_find_45 (kb_k h3) ?_
      refine r_iload_n F 2 dX4_find_48 rfl rfl ?_
      refine r_chk (fun h5 => ?_)
      refine r_aaldT F dX4_find_49 (kLs (kb_k h3)) h5 ?_
      refine r_br (kTw' (kLs (kb_k h3)) h5) (fun b49 k49 => ?_)
      refine gf_X4_39 F dX4_find_50 k49 ?_
      refine r_cSN (val := vI) (As := [.ref (gA G (b40 + 1)), .ref (gA G (b49 + 2))]) (rest := [.int y3, .ref (gA G b33)]) (fun q9 => .int q9 :: [.int y3, .ref (gA G b33)]) F (c_X6_sharedBy F.st F.gg (b40 + 1) (b49 + 2) M) (fun _ _ => rfl) dX4_find_53 mn_X4_42 ys_X6_sharedBy rfl (by decide) rfl (Nat.le_of_ble_eq_true rfl) (fun _ => rfl) (fun r53 M53 => ?_)
      refine r_chk (fun h6 => ?_)
      refine r_iast F dX4_find_56 k33 k33a h6 (fun M56 => ?_)
      refine r_iinc (ls' := fun q9 => [(3, .int q9), (0, .ref (gA G 12)), (1, .ref (gA G y1)), (2, .int y2)]) (k := 3) (v := y3 + (1 : Int32)) F dX4_find_57 rfl rfl (by decide) (fun _ => rfl) (fun x57 => ?_)
      refine r_goto (tgt := 20) F dX4_find_60 (by decide) ?_
      refine r_sub [1, 2, 3, 0] rfl ?_
      exact ih y1 y2 x57 M56

def f_X4_find_89 : Nat → Int32 → Mem → Option (Unit × Mem)
  | 0, _, _ => none
  | n + 1, y3, M => if y3 < 0 then (chk (inb (0 : Int32) 64) <| bnd (mw M 12 4 (M.1 20 (0 : Int32).toNatClampNeg)) fun M130 => bn (f_X4_choose M130) fun _ M134 => some ((), M134)) else (bn (f_J6_bitCount_0f7a4 y3 M) fun r94 M94 => bn (f_X4_firstBest y3 M94) fun r109 M109 => bn (f_X4_broughtBy r94 r109 y3 M109) fun r113 M113 => chk (inb y3 64) <| bnd (mw M113 20 y3.toNatClampNeg r113) fun M116 => bnd (y3 + (-1 : Int32)) fun x117 => f_X4_find_89  n x117 M116)

set_option maxRecDepth 100000 in
set_option maxHeartbeats 4000000 in
theorem l_X4_find_89 {G : GM} {p : Program} {l : Launch} {e : Env} {s : State} {m : MethodId} {args : Array Value} {below : List Frame} {meth : Method} {c : Code} (F : Fx G p l s m args meth c cX4_find RX4 5 none) : ∀ (n : Nat) (y3 : Int32) (M : Mem), Rf G p l e s m args below meth c 9 5 emV (f_X4_find_89  n y3 M) 89 [(0, .ref (gA G 12)), (3, .int y3)] [] M := by
  intro n
  induction n with
  | zero => intros; exact r_none
  | succ n ih =>
    intro y3 M
    rw [f_X4_find_89]
    refine r_iload_n F 1 dX4_find_89 rfl rfl ?_
    refine r_if_lt (tgt := 123) F dX4_find_90 (by decide) (fun c1 => ?_) (fun c1 => ?_)
    · refine r_aload_n F 0 dX4_find_123 rfl rfl ?_
      refine r_aload_n F 0 dX4_find_124 rfl rfl ?_
      refine gf_X4_16 F dX4_find_125 (rfl : kd 12 = 5) ?_
      refine r_iconst F dX4_find_128 (v := 0) (by decide) ?_
      refine r_chk (fun h2 => ?_)
      refine r_iald F dX4_find_129 (rfl : kd 20 = 8) (rfl : al 20 = 64) h2 ?_
      refine pf_X4_59 F dX4_find_130 (rfl : kd 12 = 5) (fun M130 => ?_)
      refine r_aload_n F 0 dX4_find_133 rfl rfl ?_
      refine r_cV (val := vU) (As := []) (rest := []) (fun _ => []) F (c_X4_choose F.st F.gg  M130) (fun _ _ => rfl) dX4_find_134 ml_X4_62 yv_X4_choose (rfl : kd 12 = 5) (by decide) rfl rfl (by decide) rfl (Nat.le_of_ble_eq_true rfl) (fun _ => rfl) (fun _ M134 => ?_)
      exact r_vret F rfl dX4_find_137 rfl
    · refine r_iload_n F 1 dX4_find_93 rfl rfl ?_
      refine r_cS (val := vI) (As := [.int y3]) (rest := []) (fun q9 => .int q9 :: []) F (c_J6_bitCount_0f7a4 F.st F.gg y3 M) (fun _ _ => rfl) dX4_find_94 ml_X4_46 ys_J6_bitCount_0f7a4 rfl (by decide) rfl (Nat.le_of_ble_eq_true rfl) (fun _ => rfl) (fun r94 M94 => ?_)
      refine r_istore (ls' := [(4, .int r94), (0, .ref (gA G 12)), (3, .int y3)]) F dX4_find_97 (by decide) rfl ?_
      refine r_aload_n F 1 dX4_find_99 rfl rfl ?_
      refine gf_X4_16 F dX4_find_100 (rfl : kd 12 = 5) ?_
      refine r_iload_n F 2 dX4_find_103 rfl rfl ?_
      refine r_aload_n F 1 dX4_find_104 rfl rfl ?_
      refine r_iload F 0 dX4_find_105 rfl ?_
      refine r_aload_n F 1 dX4_find_107 rfl rfl ?_
      refine r_iload_n F 2 dX4_find_108 rfl rfl ?_
      refine r_cV (val := vI) (As := [.int y3]) (rest := [.int r94, .ref (gA G 12), .int y3, .ref (gA G 20)]) (fun q9 => .int q9 :: [.int r94, .ref (gA G 12), .int y3, .ref (gA G 20)]) F (c_X4_firstBest F.st F.gg y3 M94) (fun _ _ => rfl) dX4_find_109 ml_X4_52 yv_X4_firstBest (rfl : kd 12 = 5) (by decide) rfl rfl (by decide) rfl (Nat.le_of_ble_eq_true rfl) (fun _ => rfl) (fun r109 M109 => ?_)
      refine r_iload_n F 2 dX4_find_112 rfl rfl ?_
      refine r_cV (val := vI) (As := [.int r94, .int r109, .int y3]) (rest := [.int y3, .ref (gA G 20)]) (fun q9 => .int q9 :: [.int y3, .ref (gA G 20)]) F (c_X4_broughtBy F.st F.gg r94 r109 y3 M109) (fun _ _ => rfl) dX4_find_113 ml_X4_55 yv_X4_broughtBy (rfl : kd 12 = 5) (by decide) rfl rfl (by decide) rfl (Nat.le_of_ble_eq_true rfl) (fun _ => rfl) (fun r113 M113 => ?_)
      refine r_chk (fun h3 => ?_)
      refine r_iast F dX4_find_116 (rfl : kd 20 = 8) (rfl : al 20 = 64) h3 (fun M116 => ?_)
      refine r_iinc (ls' := fun q9 => [(3, .int q9), (4, .int r94), (0, .ref (gA G 12))]) (k := 2) (v := y3 + (-1 : Int32)) F dX4_find_117 rfl rfl (by decide) (fun _ => rfl) (fun x117 => ?_)
      refine r_goto (tgt := 89) F dX4_find_120 (by decide) ?_
      refine r_sub [2, 0] rfl ?_
      exact ih x117 M116

def f_X4_find_10 : Nat → Nat → Int32 → Mem → Option (Unit × Mem)
  | 0, _, _, _ => none
  | n + 1, y1, y2, M => if (M.1 12 3) ≤ y2 then (bnd (((1 : Int32) <<< ((M.1 12 3) &&& 31)) - (1 : Int32)) fun x77 => chk (inb x77 64) <| bnd (mw M 20 x77.toNatClampNeg (0 : Int32)) fun M84 => bnd (x77 - (1 : Int32)) fun x88 => f_X4_find_89  FU x88 M84) else (f_X4_find_20 (f_X4_find_10  n) FU y1 y2 (0 : Int32) M)

set_option maxRecDepth 100000 in
set_option maxHeartbeats 4000000 in
theorem l_X4_find_10 {G : GM} {p : Program} {l : Launch} {e : Env} {s : State} {m : MethodId} {args : Array Value} {below : List Frame} {meth : Method} {c : Code} (F : Fx G p l s m args meth c cX4_find RX4 5 none) : ∀ (n : Nat) (y1 : Nat) (y2 : Int32) (M : Mem), Rf G p l e s m args below meth c 9 5 emV (f_X4_find_10  n y1 y2 M) 10 [(0, .ref (gA G 12)), (1, .ref (gA G y1)), (2, .int y2)] [] M := by
  intro n
  induction n with
  | zero => intros; exact r_none
  | succ n ih =>
    intro y1 y2 M
    rw [f_X4_find_10]
    refine r_iload_n F 2 dX4_find_10 rfl rfl ?_
    refine r_aload_n F 0 dX4_find_11 rfl rfl ?_
    refine gf_X4_29 F dX4_find_12 (rfl : kd 12 = 5) ?_
    refine r_icmp_ge (tgt := 69) F dX4_find_15 (by decide) (fun c1 => ?_) (fun c1 => ?_)
    · refine r_iconst F dX4_find_69 (v := 1) (by decide) ?_
      refine r_aload_n F 0 dX4_find_70 rfl rfl ?_
      refine gf_X4_29 F dX4_find_71 (rfl : kd 12 = 5) ?_
      refine r_ishl F dX4_find_74 ?_
      refine r_iconst F dX4_find_75 (v := 1) (by decide) ?_
      refine r_isub F dX4_find_76 ?_
      refine r_bi (fun x77 => ?_)
      refine r_istore_n (ls' := [(2, .int x77), (0, .ref (gA G 12)), (1, .ref (gA G y1))]) F dX4_find_77 rfl (by decide) rfl ?_
      refine r_aload_n F 1 dX4_find_78 rfl rfl ?_
      refine gf_X4_16 F dX4_find_79 (rfl : kd 12 = 5) ?_
      refine r_iload_n F 0 dX4_find_82 rfl rfl ?_
      refine r_iconst F dX4_find_83 (v := 0) (by decide) ?_
      refine r_chk (fun h2 => ?_)
      refine r_iast F dX4_find_84 (rfl : kd 20 = 8) (rfl : al 20 = 64) h2 (fun M84 => ?_)
      refine r_iload_n F 0 dX4_find_85 rfl rfl ?_
      refine r_iconst F dX4_find_86 (v := 1) (by decide) ?_
      refine r_isub F dX4_find_87 ?_
      refine r_bi (fun x88 => ?_)
      refine r_istore_n (ls' := [(3, .int x88), (2, .int x77), (0, .ref (gA G 12)), (1, .ref (gA G y1))]) F dX4_find_88 rfl (by decide) rfl ?_
      refine r_sub [2, 0] rfl ?_
      exact l_X4_find_89 F   FU x88 M84
    · refine r_iconst F dX4_find_18 (v := 0) (by decide) ?_
      refine r_istore_n (ls' := [(3, .int (0 : Int32)), (0, .ref (gA G 12)), (1, .ref (gA G y1)), (2, .int y2)]) F dX4_find_19 rfl (by decide) rfl ?_
      refine r_sub [1, 2, 3, 0] rfl ?_
      exact l_X4_find_20 F (f_X4_find_10  n) (fun q0 q1 M9 => ih q0 q1 M9) FU y1 y2 (0 : Int32) M

def f_X4_find (a1 : Nat) (M : Mem) : Option (Unit × Mem) := chk (kb a1 1) <| bnd (mw M 12 3 (M.1 a1 1)) fun M5 => f_X4_find_10  FU a1 (0 : Int32) M5

set_option maxRecDepth 100000 in
set_option maxHeartbeats 4000000 in
theorem b_X4_find {G : GM} {p : Program} {l : Launch} {e : Env} {s : State} {m : MethodId} {args : Array Value} {below : List Frame} {meth : Method} {c : Code} (F : Fx G p l s m args meth c cX4_find RX4 5 none) (a1 : Nat) (M : Mem) : Rf G p l e s m args below meth c 9 5 emV (f_X4_find a1 M) 0 [(0, .ref (gA G 12)), (1, .ref (gA G a1))] [] M := by
  unfold f_X4_find
  refine r_aload_n F 0 dX4_find_0 rfl rfl ?_
  refine r_aload_n F 1 dX4_find_1 rfl rfl ?_
  refine r_chk (fun h1 => ?_)
  refine gf_X4_23 F dX4_find_2 (kb_k h1) ?_
  refine pf_X4_29 F dX4_find_5 (rfl : kd 12 = 5) (fun M5 => ?_)
  refine r_iconst F dX4_find_8 (v := 0) (by decide) ?_
  refine r_istore_n (ls' := [(2, .int (0 : Int32)), (0, .ref (gA G 12)), (1, .ref (gA G a1))]) F dX4_find_9 rfl (by decide) rfl ?_
  refine r_sub [1, 2, 0] rfl ?_
  exact l_X4_find_10 F   FU a1 (0 : Int32) M5

set_option maxRecDepth 100000 in
set_option maxHeartbeats 4000000 in
theorem c_X4_find {l : Launch} {G : GM} (hl : l.stackTraces = false) (hG : GG G) (a1 : Nat) (M : Mem) : ∀ r, f_X4_find a1 M = some r → Ctr l G yX4_find (.code yX4_find cX4_find 5 none :: wsA) 9 [.ref (gA G 12), .ref (gA G a1)] M (emV r) :=
  ctr_of (by decide) hl hG (Nat.le_of_ble_eq_true rfl) (fun p e s m args below meth c F => b_X4_find F a1 M)

