-- ===== X6_turn DrumTowns.turn(II)I =====
theorem yv_X6_turn : yV yX6_turn cX6_turn 5 (some .int) 2 := ⟨im_X6_turn, sl_X6_turn, ini_X6, cd_X6_turn, ⟨by decide, by decide, by decide +kernel⟩, by decide⟩

def f_X6_turn_15  (M : Mem) : Option ((Int32 ⊕ String) × Mem) := some (.inr exA, M)

set_option maxRecDepth 100000 in
set_option maxHeartbeats 4000000 in
theorem l_X6_turn_15 {G : GM} {p : Program} {l : Launch} {e : Env} {s : State} {m : MethodId} {args : Array Value} {below : List Frame} {meth : Method} {c : Code} (F : Fx G p l s m args meth c cX6_turn RX6 5 (some .int))  (M : Mem) : Rf G p l e s m args below meth c 10 5 (emT vI) (f_X6_turn_15   M) 15 [] [] M := by
  unfold f_X6_turn_15
  exact r_throw F atA cl_X6_52 ini_IllegalArgumentException (by decide : (133, "by is out of range") ∈ strW) dX6_turn_15 dX6_turn_18 dX6_turn_19 dX6_turn_21 dX6_turn_24 (by decide) (Nat.le_of_ble_eq_true rfl)

def f_X6_turn_42 : Nat → Int32 → Nat → Int32 → Mem → Option ((Int32 ⊕ String) × Mem)
  | 0, _, _, _, _ => none
  | n + 1, y2, y3, y4, M => if (24 : Int32) ≤ y4 then (chk (kb y3 2) <| bn (f_X6_copyRow 22 (y3 + 1) M) fun _ M82 => bn (f_X3_rightPins y3 M82) fun r86 M86 => some (.inl r86, M86)) else (chk (kb y3 2) <| chk (inb y4 24) <| chk (inb ((y4 + y2) - (y4 + y2) / (24 : Int32) * (24 : Int32)) 24) <| bnd (mw M 22 ((y4 + y2) - (y4 + y2) / (24 : Int32) * (24 : Int32)).toNatClampNeg (M.1 (y3 + 1) y4.toNatClampNeg)) fun M67 => bnd (y4 + (1 : Int32)) fun x68 => f_X6_turn_42  n y2 y3 x68 M67)

set_option maxRecDepth 100000 in
set_option maxHeartbeats 4000000 in
theorem l_X6_turn_42 {G : GM} {p : Program} {l : Launch} {e : Env} {s : State} {m : MethodId} {args : Array Value} {below : List Frame} {meth : Method} {c : Code} (F : Fx G p l s m args meth c cX6_turn RX6 5 (some .int)) : ∀ (n : Nat) (y2 : Int32) (y3 : Nat) (y4 : Int32) (M : Mem), Rf G p l e s m args below meth c 10 5 (emT vI) (f_X6_turn_42  n y2 y3 y4 M) 42 [(0, .ref (gA G 0)), (2, .int y2), (3, .ref (gA G y3)), (4, .int y4)] [] M := by
  intro n
  induction n with
  | zero => intros; exact r_none
  | succ n ih =>
    intro y2 y3 y4 M
    rw [f_X6_turn_42]
    refine r_iload F 3 dX6_turn_42 rfl ?_
    refine r_bipush F dX6_turn_44 (v := 24) (by decide) ?_
    refine r_icmp_ge (tgt := 74) F dX6_turn_46 (by decide) (fun c1 => ?_) (fun c1 => ?_)
    · refine r_aload_n F 0 dX6_turn_74 rfl rfl ?_
      refine gf_X6_48 F dX6_turn_75 (rfl : kd 0 = 0) ?_
      refine r_aload_n F 2 dX6_turn_78 rfl rfl ?_
      refine r_chk (fun h2 => ?_)
      refine gf_X6_109 F dX6_turn_79 (kb_k h2) ?_
      refine r_cS (val := vU) (As := [.ref (gA G 22), .ref (gA G (y3 + 1))]) (rest := []) (fun _ => []) F (c_X6_copyRow F.st F.gg 22 (y3 + 1) M) (fun _ _ => rfl) dX6_turn_82 ml_X6_135 ys_X6_copyRow rfl (by decide) rfl (Nat.le_of_ble_eq_true rfl) (fun _ => rfl) (fun _ M82 => ?_)
      refine r_aload_n F 2 dX6_turn_85 rfl rfl ?_
      refine r_cVN (val := vI) (As := []) (rest := []) (fun q9 => .int q9 :: []) F (c_X3_rightPins F.st F.gg y3 M82) (fun _ _ => rfl) dX6_turn_86 mn_X6_129 yv_X3_rightPins (kb_k h2) (by decide) rfl rfl (by decide) rfl (Nat.le_of_ble_eq_true rfl) (fun _ => rfl) (fun r86 M86 => ?_)
      exact r_iret F rfl dX6_turn_89 rfl
    · refine r_aload_n F 0 dX6_turn_49 rfl rfl ?_
      refine gf_X6_48 F dX6_turn_50 (rfl : kd 0 = 0) ?_
      refine r_iload F 3 dX6_turn_53 rfl ?_
      refine r_iload_n F 1 dX6_turn_55 rfl rfl ?_
      refine r_iadd F dX6_turn_56 ?_
      refine r_bipush F dX6_turn_57 (v := 24) (by decide) ?_
      refine r_irem F dX6_turn_59 (by decide) ?_
      refine r_aload_n F 2 dX6_turn_60 rfl rfl ?_
      refine r_chk (fun h3 => ?_)
      refine gf_X6_109 F dX6_turn_61 (kb_k h3) ?_
      refine r_iload F 3 dX6_turn_64 rfl ?_
      refine r_chk (fun h4 => ?_)
      refine r_iald F dX6_turn_66 (kTd (kb_k h3)) (aTd (kb_k h3)) h4 ?_
      refine r_chk (fun h5 => ?_)
      refine r_iast F dX6_turn_67 (rfl : kd 22 = 8) (rfl : al 22 = 24) h5 (fun M67 => ?_)
      refine r_iinc (ls' := fun q9 => [(4, .int q9), (0, .ref (gA G 0)), (2, .int y2), (3, .ref (gA G y3))]) (k := 3) (v := y4 + (1 : Int32)) F dX6_turn_68 rfl rfl (by decide) (fun _ => rfl) (fun x68 => ?_)
      refine r_goto (tgt := 42) F dX6_turn_71 (by decide) ?_
      refine r_sub [1, 2, 3, 0] rfl ?_
      exact ih y2 y3 x68 M67

def f_X6_turn (a1 : Int32) (a2 : Int32) (M : Mem) : Option ((Int32 ⊕ String) × Mem) := bt (f_X6_checkTown a1 M) fun _ M2 => if a2 < 0 then (f_X6_turn_15   M2) else (if a2 < (24 : Int32) then (bn (f_X6_saveState M2) fun _ M26 => chk (inb a1 6) <| bnd (tw 35 a1) fun b37 => f_X6_turn_42  FU a2 b37 (0 : Int32) M26) else (f_X6_turn_15   M2))

set_option maxRecDepth 100000 in
set_option maxHeartbeats 4000000 in
theorem b_X6_turn {G : GM} {p : Program} {l : Launch} {e : Env} {s : State} {m : MethodId} {args : Array Value} {below : List Frame} {meth : Method} {c : Code} (F : Fx G p l s m args meth c cX6_turn RX6 5 (some .int)) (a1 : Int32) (a2 : Int32) (M : Mem) : Rf G p l e s m args below meth c 10 5 (emT vI) (f_X6_turn a1 a2 M) 0 [(0, .ref (gA G 0)), (1, .int a1), (2, .int a2)] [] M := by
  unfold f_X6_turn
  refine r_aload_n F 0 dX6_turn_0 rfl rfl ?_
  refine r_iload_n F 1 dX6_turn_1 rfl rfl ?_
  refine r_tV (val := vU) (As := [.int a1]) (rest := []) (fun _ => []) F (c_X6_checkTown F.st F.gg a1 M) dX6_turn_2 ml_X6_120 yv_X6_checkTown (rfl : kd 0 = 0) (by decide) rfl rfl (by decide) rfl (Nat.le_of_ble_eq_true rfl) (fun _ => rfl) (fun _ M2 => ?_)
  refine r_iload_n F 2 dX6_turn_5 rfl rfl ?_
  refine r_if_lt (tgt := 15) F dX6_turn_6 (by decide) (fun c1 => ?_) (fun c1 => ?_)
  · refine r_sub [] rfl ?_
    exact l_X6_turn_15 F    M2
  · refine r_iload_n F 2 dX6_turn_9 rfl rfl ?_
    refine r_bipush F dX6_turn_10 (v := 24) (by decide) ?_
    refine r_icmp_lt (tgt := 25) F dX6_turn_12 (by decide) (fun c2 => ?_) (fun c2 => ?_)
    · refine r_aload_n F 0 dX6_turn_25 rfl rfl ?_
      refine r_cV (val := vU) (As := []) (rest := []) (fun _ => []) F (c_X6_saveState F.st F.gg  M2) (fun _ _ => rfl) dX6_turn_26 ml_X6_73 yv_X6_saveState (rfl : kd 0 = 0) (by decide) rfl rfl (by decide) rfl (Nat.le_of_ble_eq_true rfl) (fun _ => rfl) (fun _ M26 => ?_)
      refine r_aload_n F 0 dX6_turn_29 rfl rfl ?_
      refine gf_X6_10 F dX6_turn_30 (rfl : kd 0 = 0) ?_
      refine gf_X6_76 F dX6_turn_33 (rfl : kd 34 = 1) ?_
      refine r_iload_n F 1 dX6_turn_36 rfl rfl ?_
      refine r_chk (fun h3 => ?_)
      refine r_aaldT F dX6_turn_37 (rfl : kd 35 = 9) h3 ?_
      refine r_br (kTw' (rfl : kd 35 = 9) h3) (fun b37 k37 => ?_)
      refine r_astore_n (ls' := [(3, .ref (gA G b37)), (0, .ref (gA G 0)), (1, .int a1), (2, .int a2)]) F dX6_turn_38 rfl (by decide) rfl ?_
      refine r_iconst F dX6_turn_39 (v := 0) (by decide) ?_
      refine r_istore (ls' := [(4, .int (0 : Int32)), (3, .ref (gA G b37)), (0, .ref (gA G 0)), (1, .int a1), (2, .int a2)]) F dX6_turn_40 (by decide) rfl ?_
      refine r_sub [2, 4, 1, 0] rfl ?_
      exact l_X6_turn_42 F   FU a2 b37 (0 : Int32) M26
    · refine r_sub [] rfl ?_
      exact l_X6_turn_15 F    M2

set_option maxRecDepth 100000 in
set_option maxHeartbeats 4000000 in
theorem c_X6_turn {l : Launch} {G : GM} (hl : l.stackTraces = false) (hG : GG G) (a1 : Int32) (a2 : Int32) (M : Mem) : ∀ r, f_X6_turn a1 a2 M = some r → Ctr l G yX6_turn (.code yX6_turn cX6_turn 5 (some .int) :: wsA) 10 [.ref (gA G 0), .int a1, .int a2] M ((emT vI) r) :=
  ctr_of (by decide) hl hG (Nat.le_of_ble_eq_true rfl) (fun p e s m args below meth c F => b_X6_turn F a1 a2 M)

-- ===== X6_undo DrumTowns.undo()I =====
theorem yv_X6_undo : yV yX6_undo cX6_undo 1 (some .int) 0 := ⟨im_X6_undo, sl_X6_undo, ini_X6, cd_X6_undo, ⟨by decide, by decide, by decide +kernel⟩, by decide⟩

def f_X6_undo  (M : Mem) : Option ((Int32 ⊕ String) × Mem) := if 0 < (M.1 0 2) then (bnd (mw M 0 2 ((M.1 0 2) - (1 : Int32))) fun M24 => chk (inb (M24.1 0 2) 6) <| chk (kb (sv M24 1 (M24.1 0 2)) 1) <| bnd (sv M24 1 (M24.1 0 2)) fun b39 => bn (f_X0_takeFrom 34 b39 M24) fun _ M40 => some (.inl (M40.1 0 2), M40)) else (some (.inr exS, M))

set_option maxRecDepth 100000 in
set_option maxHeartbeats 4000000 in
theorem b_X6_undo {G : GM} {p : Program} {l : Launch} {e : Env} {s : State} {m : MethodId} {args : Array Value} {below : List Frame} {meth : Method} {c : Code} (F : Fx G p l s m args meth c cX6_undo RX6 1 (some .int))  (M : Mem) : Rf G p l e s m args below meth c 9 1 (emT vI) (f_X6_undo  M) 0 [(0, .ref (gA G 0))] [] M := by
  unfold f_X6_undo
  refine r_aload_n F 0 dX6_undo_0 rfl rfl ?_
  refine gf_X6_208 F dX6_undo_1 (rfl : kd 0 = 0) ?_
  refine r_if_gt (tgt := 17) F dX6_undo_4 (by decide) (fun c1 => ?_) (fun c1 => ?_)
  · refine r_aload_n F 0 dX6_undo_17 rfl rfl ?_
    refine r_dup F dX6_undo_18 rfl ?_
    refine gf_X6_208 F dX6_undo_19 (rfl : kd 0 = 0) ?_
    refine r_iconst F dX6_undo_22 (v := 1) (by decide) ?_
    refine r_isub F dX6_undo_23 ?_
    refine pf_X6_208 F dX6_undo_24 (rfl : kd 0 = 0) (fun M24 => ?_)
    refine r_aload_n F 0 dX6_undo_27 rfl rfl ?_
    refine gf_X6_10 F dX6_undo_28 (rfl : kd 0 = 0) ?_
    refine r_aload_n F 0 dX6_undo_31 rfl rfl ?_
    refine gf_X6_16 F dX6_undo_32 (rfl : kd 0 = 0) ?_
    refine r_aload_n F 0 dX6_undo_35 rfl rfl ?_
    refine gf_X6_208 F dX6_undo_36 (rfl : kd 0 = 0) ?_
    refine r_chk (fun h2 => ?_)
    refine r_chk (fun h3 => ?_)
    refine r_aaldS F dX6_undo_39 (rfl : kd 1 = 10) h2 ?_
    refine r_br (kb_k h3) (fun b39 k39 => ?_)
    refine r_cVN (val := vU) (As := [.ref (gA G b39)]) (rest := []) (fun _ => []) F (c_X0_takeFrom F.st F.gg 34 b39 M24) (fun _ _ => rfl) dX6_undo_40 mn_X6_213 yv_X0_takeFrom (rfl : kd 34 = 1) (by decide) rfl rfl (by decide) rfl (Nat.le_of_ble_eq_true rfl) (fun _ => rfl) (fun _ M40 => ?_)
    refine r_aload_n F 0 dX6_undo_43 rfl rfl ?_
    refine gf_X6_208 F dX6_undo_44 (rfl : kd 0 = 0) ?_
    exact r_iret F rfl dX6_undo_47 rfl
  · exact r_throw F atS cl_X6_63 ini_IllegalStateException (by decide : (211, "there is no saved state") ∈ strW) dX6_undo_7 dX6_undo_10 dX6_undo_11 dX6_undo_13 dX6_undo_16 (by decide) (Nat.le_of_ble_eq_true rfl)

set_option maxRecDepth 100000 in
set_option maxHeartbeats 4000000 in
theorem c_X6_undo {l : Launch} {G : GM} (hl : l.stackTraces = false) (hG : GG G)  (M : Mem) : ∀ r, f_X6_undo  M = some r → Ctr l G yX6_undo (.code yX6_undo cX6_undo 1 (some .int) :: wsA) 9 [.ref (gA G 0)] M ((emT vI) r) :=
  ctr_of (by decide) hl hG (Nat.le_of_ble_eq_true rfl) (fun p e s m args below meth c F => b_X6_undo F  M)

-- ===== L_isBest DrumTownsLaw.isBest(LDrumTowns;II)Z =====
theorem ys_L_isBest : yS yL_isBest cL_isBest 13 (some .boolean) 3 := ⟨sc_L_isBest, ini_L, cd_L_isBest, ⟨by decide, by decide, by decide +kernel⟩, by decide⟩

def f_L_isBest_92  (M : Mem) : Option ((Int32 ⊕ String) × Mem) := some (.inl (0 : Int32), M)

set_option maxRecDepth 100000 in
set_option maxHeartbeats 4000000 in
theorem l_L_isBest_92 {G : GM} {p : Program} {l : Launch} {e : Env} {s : State} {m : MethodId} {args : Array Value} {below : List Frame} {meth : Method} {c : Code} (F : Fx G p l s m args meth c cL_isBest RL 13 (some .boolean))  (M : Mem) : Rf G p l e s m args below meth c 19 13 (emT vI) (f_L_isBest_92   M) 92 [] [] M := by
  unfold f_L_isBest_92
  refine r_iconst F dL_isBest_92 (v := 0) (by decide) ?_
  exact r_zret F rfl dL_isBest_93 rfl (by decide)

def f_L_isBest_188  (M : Mem) : Option ((Int32 ⊕ String) × Mem) := some (.inl (0 : Int32), M)

set_option maxRecDepth 100000 in
set_option maxHeartbeats 4000000 in
theorem l_L_isBest_188 {G : GM} {p : Program} {l : Launch} {e : Env} {s : State} {m : MethodId} {args : Array Value} {below : List Frame} {meth : Method} {c : Code} (F : Fx G p l s m args meth c cL_isBest RL 13 (some .boolean))  (M : Mem) : Rf G p l e s m args below meth c 19 13 (emT vI) (f_L_isBest_188   M) 188 [] [] M := by
  unfold f_L_isBest_188
  refine r_iconst F dL_isBest_188 (v := 0) (by decide) ?_
  exact r_zret F rfl dL_isBest_189 rfl (by decide)

def f_L_isBest_210 (z0 : Int32) (M : Mem) : Option ((Int32 ⊕ String) × Mem) := chk (isb z0) <| some (.inl z0, M)

set_option maxRecDepth 100000 in
set_option maxHeartbeats 4000000 in
theorem l_L_isBest_210 {G : GM} {p : Program} {l : Launch} {e : Env} {s : State} {m : MethodId} {args : Array Value} {below : List Frame} {meth : Method} {c : Code} (F : Fx G p l s m args meth c cL_isBest RL 13 (some .boolean)) (z0 : Int32) (M : Mem) : Rf G p l e s m args below meth c 19 13 (emT vI) (f_L_isBest_210  z0 M) 210 [] [.int z0] M := by
  unfold f_L_isBest_210
  refine r_chk (fun h1 => ?_)
  exact r_zret F rfl dL_isBest_210 rfl (isb_or h1)

def f_L_isBest_209  (M : Mem) : Option ((Int32 ⊕ String) × Mem) := f_L_isBest_210  (0 : Int32) M

set_option maxRecDepth 100000 in
set_option maxHeartbeats 4000000 in
theorem l_L_isBest_209 {G : GM} {p : Program} {l : Launch} {e : Env} {s : State} {m : MethodId} {args : Array Value} {below : List Frame} {meth : Method} {c : Code} (F : Fx G p l s m args meth c cL_isBest RL 13 (some .boolean))  (M : Mem) : Rf G p l e s m args below meth c 19 13 (emT vI) (f_L_isBest_209   M) 209 [] [] M := by
  unfold f_L_isBest_209
  refine r_iconst F dL_isBest_209 (v := 0) (by decide) ?_
  refine r_sub [] rfl ?_
  exact l_L_isBest_210 F   (0 : Int32) M

def f_L_isBest_190 (y1 : Int32) (y3 : Int64) (y10 : Int32) (M : Mem) : Option ((Int32 ⊕ String) × Mem) := if y10 = y1 then (f_L_isBest_209   M) else (bt (f_X6_digest M) fun r197 M197 => if (lg_cmp r197 y3) = 0 then (f_L_isBest_210  (1 : Int32) M197) else (f_L_isBest_209   M197))

set_option maxRecDepth 100000 in
set_option maxHeartbeats 4000000 in
theorem l_L_isBest_190 {G : GM} {p : Program} {l : Launch} {e : Env} {s : State} {m : MethodId} {args : Array Value} {below : List Frame} {meth : Method} {c : Code} (F : Fx G p l s m args meth c cL_isBest RL 13 (some .boolean)) (y1 : Int32) (y3 : Int64) (y10 : Int32) (M : Mem) : Rf G p l e s m args below meth c 19 13 (emT vI) (f_L_isBest_190  y1 y3 y10 M) 190 [(0, .ref (gA G 0)), (1, .int y1), (3, .long y3), (10, .int y10)] [] M := by
  unfold f_L_isBest_190
  refine r_iload F 3 dL_isBest_190 rfl ?_
  refine r_iload_n F 1 dL_isBest_192 rfl rfl ?_
  refine r_icmp_eq (tgt := 209) F dL_isBest_193 (by decide) (fun c1 => ?_) (fun c1 => ?_)
  · refine r_sub [] rfl ?_
    exact l_L_isBest_209 F    M
  · refine r_aload_n F 0 dL_isBest_196 rfl rfl ?_
    refine r_tV (val := vL) (As := []) (rest := []) (fun q9 => .long q9 :: []) F (c_X6_digest F.st F.gg  M) dL_isBest_197 ml_L_113 yv_X6_digest (rfl : kd 0 = 0) (by decide) rfl rfl (by decide) rfl (Nat.le_of_ble_eq_true rfl) (fun _ => rfl) (fun r197 M197 => ?_)
    refine r_lload_n F 2 dL_isBest_200 rfl rfl ?_
    refine r_lcmp F dL_isBest_201 ?_
    refine r_if_ne (tgt := 209) F dL_isBest_202 (by decide) (fun c2 => ?_) (fun c2 => ?_)
    · refine r_iconst F dL_isBest_205 (v := 1) (by decide) ?_
      refine r_goto (tgt := 210) F dL_isBest_206 (by decide) ?_
      refine r_sub [] rfl ?_
      exact l_L_isBest_210 F   (1 : Int32) M197
    · refine r_sub [] rfl ?_
      exact l_L_isBest_209 F    M197

def f_L_isBest_80 (y1 : Int32) (y2 : Int32) (y3 : Int64) (y5 : Int32) (y6 : Int32) (M : Mem) : Option ((Int32 ⊕ String) × Mem) := bt (f_X6_turn y1 y6 M) fun r84 M84 => if r84 = y5 then (bt (f_X6_undo M84) fun r95 M95 => bt (f_X6_count (0 : Int32) M95) fun r104 M104 => bn (f_L_low (y2 >>> ((5 : Int32) &&& 31)) r104 M104) fun r107 M107 => bt (f_X6_bestDrum y1 M107) fun r114 M114 => if r107 = y1 then (f_L_isBest_190  y1 y3 r114 M114) else (bt (f_X6_trade y1 r114 M114) fun r129 M129 => bt (f_X6_town y1 (3 : Int32) M129) fun r136 M136 => bt (f_X6_undo M136) fun r142 M142 => bt (f_X6_trade y1 r107 M142) fun r150 M150 => bt (f_X6_town y1 (3 : Int32) M150) fun r157 M157 => bt (f_X6_undo M157) fun r163 M163 => if r136 < r157 then (f_L_isBest_188   M163) else (if r157 = r136 then (if r114 ≤ r107 then (f_L_isBest_190  y1 y3 r114 M163) else (f_L_isBest_188   M163)) else (f_L_isBest_190  y1 y3 r114 M163)))) else (f_L_isBest_92   M84)

set_option maxRecDepth 100000 in
set_option maxHeartbeats 4000000 in
theorem l_L_isBest_80 {G : GM} {p : Program} {l : Launch} {e : Env} {s : State} {m : MethodId} {args : Array Value} {below : List Frame} {meth : Method} {c : Code} (F : Fx G p l s m args meth c cL_isBest RL 13 (some .boolean)) (y1 : Int32) (y2 : Int32) (y3 : Int64) (y5 : Int32) (y6 : Int32) (M : Mem) : Rf G p l e s m args below meth c 19 13 (emT vI) (f_L_isBest_80  y1 y2 y3 y5 y6 M) 80 [(0, .ref (gA G 0)), (1, .int y1), (2, .int y2), (3, .long y3), (5, .int y5), (6, .int y6)] [] M := by
  unfold f_L_isBest_80
  refine r_aload_n F 0 dL_isBest_80 rfl rfl ?_
  refine r_iload_n F 1 dL_isBest_81 rfl rfl ?_
  refine r_iload F 5 dL_isBest_82 rfl ?_
  refine r_tV (val := vI) (As := [.int y1, .int y6]) (rest := []) (fun q9 => .int q9 :: []) F (c_X6_turn F.st F.gg y1 y6 M) dL_isBest_84 ml_L_41 yv_X6_turn (rfl : kd 0 = 0) (by decide) rfl rfl (by decide) rfl (Nat.le_of_ble_eq_true rfl) (fun _ => rfl) (fun r84 M84 => ?_)
  refine r_iload F 4 dL_isBest_87 rfl ?_
  refine r_icmp_eq (tgt := 94) F dL_isBest_89 (by decide) (fun c1 => ?_) (fun c1 => ?_)
  · refine r_aload_n F 0 dL_isBest_94 rfl rfl ?_
    refine r_tV (val := vI) (As := []) (rest := []) (fun q9 => .int q9 :: []) F (c_X6_undo F.st F.gg  M84) dL_isBest_95 ml_L_107 yv_X6_undo (rfl : kd 0 = 0) (by decide) rfl rfl (by decide) rfl (Nat.le_of_ble_eq_true rfl) (fun _ => rfl) (fun r95 M95 => ?_)
    refine r_pop F dL_isBest_98 rfl ?_
    refine r_iload_n F 2 dL_isBest_99 rfl rfl ?_
    refine r_iconst F dL_isBest_100 (v := 5) (by decide) ?_
    refine r_ishr F dL_isBest_101 ?_
    refine r_aload_n F 0 dL_isBest_102 rfl rfl ?_
    refine r_iconst F dL_isBest_103 (v := 0) (by decide) ?_
    refine r_tV (val := vI) (As := [.int (0 : Int32)]) (rest := [.int (y2 >>> ((5 : Int32) &&& 31))]) (fun q9 => .int q9 :: [.int (y2 >>> ((5 : Int32) &&& 31))]) F (c_X6_count F.st F.gg (0 : Int32) M95) dL_isBest_104 ml_L_53 yv_X6_count (rfl : kd 0 = 0) (by decide) rfl rfl (by decide) rfl (Nat.le_of_ble_eq_true rfl) (fun _ => rfl) (fun r104 M104 => ?_)
    refine r_cS (val := vI) (As := [.int (y2 >>> ((5 : Int32) &&& 31)), .int r104]) (rest := []) (fun q9 => .int q9 :: []) F (c_L_low F.st F.gg (y2 >>> ((5 : Int32) &&& 31)) r104 M104) (fun _ _ => rfl) dL_isBest_107 ml_L_56 ys_L_low rfl (by decide) rfl (Nat.le_of_ble_eq_true rfl) (fun _ => rfl) (fun r107 M107 => ?_)
    refine r_istore (ls' := [(9, .int r107), (0, .ref (gA G 0)), (1, .int y1), (2, .int y2), (3, .long y3), (5, .int y5), (6, .int y6)]) F dL_isBest_110 (by decide) rfl ?_
    refine r_aload_n F 1 dL_isBest_112 rfl rfl ?_
    refine r_iload_n F 2 dL_isBest_113 rfl rfl ?_
    refine r_tV (val := vI) (As := [.int y1]) (rest := []) (fun q9 => .int q9 :: []) F (c_X6_bestDrum F.st F.gg y1 M107) dL_isBest_114 ml_L_117 yv_X6_bestDrum (rfl : kd 0 = 0) (by decide) rfl rfl (by decide) rfl (Nat.le_of_ble_eq_true rfl) (fun _ => rfl) (fun r114 M114 => ?_)
    refine r_istore (ls' := [(10, .int r114), (9, .int r107), (0, .ref (gA G 0)), (1, .int y1), (2, .int y2), (3, .long y3), (5, .int y5), (6, .int y6)]) F dL_isBest_117 (by decide) rfl ?_
    refine r_iload F 1 dL_isBest_119 rfl ?_
    refine r_iload_n F 3 dL_isBest_121 rfl rfl ?_
    refine r_icmp_eq (tgt := 190) F dL_isBest_122 (by decide) (fun c2 => ?_) (fun c2 => ?_)
    · refine r_sub [2, 3, 5, 0] rfl ?_
      exact l_L_isBest_190 F   y1 y3 r114 M114
    · refine r_aload_n F 2 dL_isBest_125 rfl rfl ?_
      refine r_iload_n F 3 dL_isBest_126 rfl rfl ?_
      refine r_iload F 0 dL_isBest_127 rfl ?_
      refine r_tV (val := vI) (As := [.int y1, .int r114]) (rest := []) (fun q9 => .int q9 :: []) F (c_X6_trade F.st F.gg y1 r114 M114) dL_isBest_129 ml_L_27 yv_X6_trade (rfl : kd 0 = 0) (by decide) rfl rfl (by decide) rfl (Nat.le_of_ble_eq_true rfl) (fun _ => rfl) (fun r129 M129 => ?_)
      refine r_pop F dL_isBest_132 rfl ?_
      refine r_aload_n F 2 dL_isBest_133 rfl rfl ?_
      refine r_iload_n F 3 dL_isBest_134 rfl rfl ?_
      refine r_iconst F dL_isBest_135 (v := 3) (by decide) ?_
      refine r_tV (val := vI) (As := [.int y1, .int (3 : Int32)]) (rest := []) (fun q9 => .int q9 :: []) F (c_X6_town F.st F.gg y1 (3 : Int32) M129) dL_isBest_136 ml_L_89 yv_X6_town (rfl : kd 0 = 0) (by decide) rfl rfl (by decide) rfl (Nat.le_of_ble_eq_true rfl) (fun _ => rfl) (fun r136 M136 => ?_)
      refine r_istore (ls' := [(11, .int r136), (10, .int r114), (9, .int r107), (0, .ref (gA G 0)), (1, .int y1), (2, .int y2), (3, .long y3), (5, .int y5), (6, .int y6)]) F dL_isBest_139 (by decide) rfl ?_
      refine r_aload_n F 3 dL_isBest_141 rfl rfl ?_
      refine r_tV (val := vI) (As := []) (rest := []) (fun q9 => .int q9 :: []) F (c_X6_undo F.st F.gg  M136) dL_isBest_142 ml_L_107 yv_X6_undo (rfl : kd 0 = 0) (by decide) rfl rfl (by decide) rfl (Nat.le_of_ble_eq_true rfl) (fun _ => rfl) (fun r142 M142 => ?_)
      refine r_pop F dL_isBest_145 rfl ?_
      refine r_aload_n F 3 dL_isBest_146 rfl rfl ?_
      refine r_iload_n F 4 dL_isBest_147 rfl rfl ?_
      refine r_iload F 2 dL_isBest_148 rfl ?_
      refine r_tV (val := vI) (As := [.int y1, .int r107]) (rest := []) (fun q9 => .int q9 :: []) F (c_X6_trade F.st F.gg y1 r107 M142) dL_isBest_150 ml_L_27 yv_X6_trade (rfl : kd 0 = 0) (by decide) rfl rfl (by decide) rfl (Nat.le_of_ble_eq_true rfl) (fun _ => rfl) (fun r150 M150 => ?_)
      refine r_pop F dL_isBest_153 rfl ?_
      refine r_aload_n F 3 dL_isBest_154 rfl rfl ?_
      refine r_iload_n F 4 dL_isBest_155 rfl rfl ?_
      refine r_iconst F dL_isBest_156 (v := 3) (by decide) ?_
      refine r_tV (val := vI) (As := [.int y1, .int (3 : Int32)]) (rest := []) (fun q9 => .int q9 :: []) F (c_X6_town F.st F.gg y1 (3 : Int32) M150) dL_isBest_157 ml_L_89 yv_X6_town (rfl : kd 0 = 0) (by decide) rfl rfl (by decide) rfl (Nat.le_of_ble_eq_true rfl) (fun _ => rfl) (fun r157 M157 => ?_)
      refine r_istore (ls' := [(12, .int r157), (11, .int r136), (10, .int r114), (9, .int r107), (0, .ref (gA G 0)), (1, .int y1), (2, .int y2), (3, .long y3), (5, .int y5), (6, .int y6)]) F dL_isBest_160 (by decide) rfl ?_
      refine r_aload_n F 4 dL_isBest_162 rfl rfl ?_
      refine r_tV (val := vI) (As := []) (rest := []) (fun q9 => .int q9 :: []) F (c_X6_undo F.st F.gg  M157) dL_isBest_163 ml_L_107 yv_X6_undo (rfl : kd 0 = 0) (by decide) rfl rfl (by decide) rfl (Nat.le_of_ble_eq_true rfl) (fun _ => rfl) (fun r163 M163 => ?_)
      refine r_pop F dL_isBest_166 rfl ?_
      refine r_iload F 0 dL_isBest_167 rfl ?_
      refine r_iload F 1 dL_isBest_169 rfl ?_
      refine r_icmp_gt (tgt := 188) F dL_isBest_171 (by decide) (fun c3 => ?_) (fun c3 => ?_)
      · refine r_sub [] rfl ?_
        exact l_L_isBest_188 F    M163
      · refine r_iload F 0 dL_isBest_174 rfl ?_
        refine r_iload F 1 dL_isBest_176 rfl ?_
        refine r_icmp_ne (tgt := 190) F dL_isBest_178 (by decide) (fun c4 => ?_) (fun c4 => ?_)
        · refine r_iload F 3 dL_isBest_181 rfl ?_
          refine r_iload F 2 dL_isBest_183 rfl ?_
          refine r_icmp_ge (tgt := 190) F dL_isBest_185 (by decide) (fun c5 => ?_) (fun c5 => ?_)
          · refine r_sub [4, 5, 7, 2] rfl ?_
            exact l_L_isBest_190 F   y1 y3 r114 M163
          · refine r_sub [] rfl ?_
            exact l_L_isBest_188 F    M163
        · refine r_sub [4, 5, 7, 2] rfl ?_
          exact l_L_isBest_190 F   y1 y3 r114 M163
  · refine r_sub [] rfl ?_
    exact l_L_isBest_92 F    M84

def f_L_isBest_16 (y1 : Int32) (y2 : Int32) (M : Mem) : Option ((Int32 ⊕ String) × Mem) := bt (f_X6_digest M) fun r17 M17 => bt (f_X6_bestTurn y1 (1 : Int32) M17) fun r24 M24 => bt (f_X6_bestTurn y1 (0 : Int32) M24) fun r32 M32 => bn (f_L_low y2 (24 : Int32) M32) fun r40 M40 => bt (f_X6_turn y1 r40 M40) fun r49 M49 => bt (f_X6_undo M49) fun r55 M55 => if r24 < r49 then (f_L_isBest_92   M55) else (if r49 = r24 then (if r40 < r32 then (f_L_isBest_92   M55) else (f_L_isBest_80  y1 y2 r17 r24 r32 M55)) else (f_L_isBest_80  y1 y2 r17 r24 r32 M55))

set_option maxRecDepth 100000 in
set_option maxHeartbeats 4000000 in
theorem l_L_isBest_16 {G : GM} {p : Program} {l : Launch} {e : Env} {s : State} {m : MethodId} {args : Array Value} {below : List Frame} {meth : Method} {c : Code} (F : Fx G p l s m args meth c cL_isBest RL 13 (some .boolean)) (y1 : Int32) (y2 : Int32) (M : Mem) : Rf G p l e s m args below meth c 19 13 (emT vI) (f_L_isBest_16  y1 y2 M) 16 [(0, .ref (gA G 0)), (1, .int y1), (2, .int y2)] [] M := by
  unfold f_L_isBest_16
  refine r_aload_n F 0 dL_isBest_16 rfl rfl ?_
  refine r_tV (val := vL) (As := []) (rest := []) (fun q9 => .long q9 :: []) F (c_X6_digest F.st F.gg  M) dL_isBest_17 ml_L_113 yv_X6_digest (rfl : kd 0 = 0) (by decide) rfl rfl (by decide) rfl (Nat.le_of_ble_eq_true rfl) (fun _ => rfl) (fun r17 M17 => ?_)
  refine r_lstore_n (ls' := [(3, .long r17), (0, .ref (gA G 0)), (1, .int y1), (2, .int y2)]) F dL_isBest_20 rfl (by decide) rfl ?_
  refine r_aload_n F 1 dL_isBest_21 rfl rfl ?_
  refine r_iload_n F 2 dL_isBest_22 rfl rfl ?_
  refine r_iconst F dL_isBest_23 (v := 1) (by decide) ?_
  refine r_tV (val := vI) (As := [.int y1, .int (1 : Int32)]) (rest := []) (fun q9 => .int q9 :: []) F (c_X6_bestTurn F.st F.gg y1 (1 : Int32) M17) dL_isBest_24 ml_L_98 yv_X6_bestTurn (rfl : kd 0 = 0) (by decide) rfl rfl (by decide) rfl (Nat.le_of_ble_eq_true rfl) (fun _ => rfl) (fun r24 M24 => ?_)
  refine r_istore (ls' := [(5, .int r24), (3, .long r17), (0, .ref (gA G 0)), (1, .int y1), (2, .int y2)]) F dL_isBest_27 (by decide) rfl ?_
  refine r_aload_n F 2 dL_isBest_29 rfl rfl ?_
  refine r_iload_n F 3 dL_isBest_30 rfl rfl ?_
  refine r_iconst F dL_isBest_31 (v := 0) (by decide) ?_
  refine r_tV (val := vI) (As := [.int y1, .int (0 : Int32)]) (rest := []) (fun q9 => .int q9 :: []) F (c_X6_bestTurn F.st F.gg y1 (0 : Int32) M24) dL_isBest_32 ml_L_98 yv_X6_bestTurn (rfl : kd 0 = 0) (by decide) rfl rfl (by decide) rfl (Nat.le_of_ble_eq_true rfl) (fun _ => rfl) (fun r32 M32 => ?_)
  refine r_istore (ls' := [(6, .int r32), (5, .int r24), (3, .long r17), (0, .ref (gA G 0)), (1, .int y1), (2, .int y2)]) F dL_isBest_35 (by decide) rfl ?_
  refine r_iload_n F 5 dL_isBest_37 rfl rfl ?_
  refine r_bipush F dL_isBest_38 (v := 24) (by decide) ?_
  refine r_cS (val := vI) (As := [.int y2, .int (24 : Int32)]) (rest := []) (fun q9 => .int q9 :: []) F (c_L_low F.st F.gg y2 (24 : Int32) M32) (fun _ _ => rfl) dL_isBest_40 ml_L_56 ys_L_low rfl (by decide) rfl (Nat.le_of_ble_eq_true rfl) (fun _ => rfl) (fun r40 M40 => ?_)
  refine r_istore (ls' := [(7, .int r40), (6, .int r32), (5, .int r24), (3, .long r17), (0, .ref (gA G 0)), (1, .int y1), (2, .int y2)]) F dL_isBest_43 (by decide) rfl ?_
  refine r_aload_n F 4 dL_isBest_45 rfl rfl ?_
  refine r_iload_n F 5 dL_isBest_46 rfl rfl ?_
  refine r_iload F 0 dL_isBest_47 rfl ?_
  refine r_tV (val := vI) (As := [.int y1, .int r40]) (rest := []) (fun q9 => .int q9 :: []) F (c_X6_turn F.st F.gg y1 r40 M40) dL_isBest_49 ml_L_41 yv_X6_turn (rfl : kd 0 = 0) (by decide) rfl rfl (by decide) rfl (Nat.le_of_ble_eq_true rfl) (fun _ => rfl) (fun r49 M49 => ?_)
  refine r_istore (ls' := [(8, .int r49), (7, .int r40), (6, .int r32), (5, .int r24), (3, .long r17), (0, .ref (gA G 0)), (1, .int y1), (2, .int y2)]) F dL_isBest_52 (by decide) rfl ?_
  refine r_aload_n F 5 dL_isBest_54 rfl rfl ?_
  refine r_tV (val := vI) (As := []) (rest := []) (fun q9 => .int q9 :: []) F (c_X6_undo F.st F.gg  M49) dL_isBest_55 ml_L_107 yv_X6_undo (rfl : kd 0 = 0) (by decide) rfl rfl (by decide) rfl (Nat.le_of_ble_eq_true rfl) (fun _ => rfl) (fun r55 M55 => ?_)
  refine r_pop F dL_isBest_58 rfl ?_
  refine r_iload F 0 dL_isBest_59 rfl ?_
  refine r_iload F 3 dL_isBest_61 rfl ?_
  refine r_icmp_gt (tgt := 92) F dL_isBest_63 (by decide) (fun c1 => ?_) (fun c1 => ?_)
  · refine r_sub [] rfl ?_
    exact l_L_isBest_92 F    M55
  · refine r_iload F 0 dL_isBest_66 rfl ?_
    refine r_iload F 3 dL_isBest_68 rfl ?_
    refine r_icmp_ne (tgt := 80) F dL_isBest_70 (by decide) (fun c2 => ?_) (fun c2 => ?_)
    · refine r_iload F 1 dL_isBest_73 rfl ?_
      refine r_iload F 2 dL_isBest_75 rfl ?_
      refine r_icmp_lt (tgt := 92) F dL_isBest_77 (by decide) (fun c3 => ?_) (fun c3 => ?_)
      · refine r_sub [] rfl ?_
        exact l_L_isBest_92 F    M55
      · refine r_sub [5, 6, 7, 4, 3, 2] rfl ?_
        exact l_L_isBest_80 F   y1 y2 r17 r24 r32 M55
    · refine r_sub [5, 6, 7, 4, 3, 2] rfl ?_
      exact l_L_isBest_80 F   y1 y2 r17 r24 r32 M55

def f_L_isBest (a1 : Int32) (a2 : Int32) (M : Mem) : Option ((Int32 ⊕ String) × Mem) := bt (f_X6_count (10 : Int32) M) fun r3 M3 => if r3 = (6 : Int32) then (bt (f_X6_undo M3) fun r12 M12 => f_L_isBest_16  a1 a2 M12) else (f_L_isBest_16  a1 a2 M3)

set_option maxRecDepth 100000 in
set_option maxHeartbeats 4000000 in
theorem b_L_isBest {G : GM} {p : Program} {l : Launch} {e : Env} {s : State} {m : MethodId} {args : Array Value} {below : List Frame} {meth : Method} {c : Code} (F : Fx G p l s m args meth c cL_isBest RL 13 (some .boolean)) (a1 : Int32) (a2 : Int32) (M : Mem) : Rf G p l e s m args below meth c 19 13 (emT vI) (f_L_isBest a1 a2 M) 0 [(0, .ref (gA G 0)), (1, .int a1), (2, .int a2)] [] M := by
  unfold f_L_isBest
  refine r_aload_n F 0 dL_isBest_0 rfl rfl ?_
  refine r_bipush F dL_isBest_1 (v := 10) (by decide) ?_
  refine r_tV (val := vI) (As := [.int (10 : Int32)]) (rest := []) (fun q9 => .int q9 :: []) F (c_X6_count F.st F.gg (10 : Int32) M) dL_isBest_3 ml_L_53 yv_X6_count (rfl : kd 0 = 0) (by decide) rfl rfl (by decide) rfl (Nat.le_of_ble_eq_true rfl) (fun _ => rfl) (fun r3 M3 => ?_)
  refine r_bipush F dL_isBest_6 (v := 6) (by decide) ?_
  refine r_icmp_ne (tgt := 16) F dL_isBest_8 (by decide) (fun c1 => ?_) (fun c1 => ?_)
  · refine r_aload_n F 0 dL_isBest_11 rfl rfl ?_
    refine r_tV (val := vI) (As := []) (rest := []) (fun q9 => .int q9 :: []) F (c_X6_undo F.st F.gg  M3) dL_isBest_12 ml_L_107 yv_X6_undo (rfl : kd 0 = 0) (by decide) rfl rfl (by decide) rfl (Nat.le_of_ble_eq_true rfl) (fun _ => rfl) (fun r12 M12 => ?_)
    refine r_pop F dL_isBest_15 rfl ?_
    refine r_sub [0, 1, 2] rfl ?_
    exact l_L_isBest_16 F   a1 a2 M12
  · refine r_sub [0, 1, 2] rfl ?_
    exact l_L_isBest_16 F   a1 a2 M3

set_option maxRecDepth 100000 in
set_option maxHeartbeats 4000000 in
theorem c_L_isBest {l : Launch} {G : GM} (hl : l.stackTraces = false) (hG : GG G) (a1 : Int32) (a2 : Int32) (M : Mem) : ∀ r, f_L_isBest a1 a2 M = some r → Ctr l G yL_isBest (.code yL_isBest cL_isBest 13 (some .boolean) :: wsA) 19 [.ref (gA G 0), .int a1, .int a2] M ((emT vI) r) :=
  ctr_of (by decide) hl hG (Nat.le_of_ble_eq_true rfl) (fun p e s m args below meth c F => b_L_isBest F a1 a2 M)

-- ===== X6_ifPlayed DrumTowns.ifPlayed(II)I =====
theorem yv_X6_ifPlayed : yV yX6_ifPlayed cX6_ifPlayed 3 (some .int) 2 := ⟨im_X6_ifPlayed, sl_X6_ifPlayed, ini_X6, cd_X6_ifPlayed, ⟨by decide, by decide, by decide +kernel⟩, by decide⟩

def f_X6_ifPlayed_14  (M : Mem) : Option ((Int32 ⊕ String) × Mem) := some (.inr exA, M)

set_option maxRecDepth 100000 in
set_option maxHeartbeats 4000000 in
theorem l_X6_ifPlayed_14 {G : GM} {p : Program} {l : Launch} {e : Env} {s : State} {m : MethodId} {args : Array Value} {below : List Frame} {meth : Method} {c : Code} (F : Fx G p l s m args meth c cX6_ifPlayed RX6 3 (some .int))  (M : Mem) : Rf G p l e s m args below meth c 10 3 (emT vI) (f_X6_ifPlayed_14   M) 14 [] [] M := by
  unfold f_X6_ifPlayed_14
  exact r_throwW F atA cl_X6_52 ini_IllegalArgumentException (by decide : (267, "what is not 0 to 4") ∈ strW) dX6_ifPlayed_14 dX6_ifPlayed_17 dX6_ifPlayed_18 dX6_ifPlayed_21 dX6_ifPlayed_24 (by decide) (Nat.le_of_ble_eq_true rfl)

def f_X6_ifPlayed (a1 : Int32) (a2 : Int32) (M : Mem) : Option ((Int32 ⊕ String) × Mem) := bt (f_X6_checkTown a1 M) fun _ M2 => if a2 < 0 then (f_X6_ifPlayed_14   M2) else (if a2 < (5 : Int32) then (bn (f_X6_foresee a1 M2) fun _ M27 => bn (f_X1_tell a2 M27) fun r35 M35 => some (.inl r35, M35)) else (f_X6_ifPlayed_14   M2))

set_option maxRecDepth 100000 in
set_option maxHeartbeats 4000000 in
theorem b_X6_ifPlayed {G : GM} {p : Program} {l : Launch} {e : Env} {s : State} {m : MethodId} {args : Array Value} {below : List Frame} {meth : Method} {c : Code} (F : Fx G p l s m args meth c cX6_ifPlayed RX6 3 (some .int)) (a1 : Int32) (a2 : Int32) (M : Mem) : Rf G p l e s m args below meth c 10 3 (emT vI) (f_X6_ifPlayed a1 a2 M) 0 [(0, .ref (gA G 0)), (1, .int a1), (2, .int a2)] [] M := by
  unfold f_X6_ifPlayed
  refine r_aload_n F 0 dX6_ifPlayed_0 rfl rfl ?_
  refine r_iload_n F 1 dX6_ifPlayed_1 rfl rfl ?_
  refine r_tV (val := vU) (As := [.int a1]) (rest := []) (fun _ => []) F (c_X6_checkTown F.st F.gg a1 M) dX6_ifPlayed_2 ml_X6_120 yv_X6_checkTown (rfl : kd 0 = 0) (by decide) rfl rfl (by decide) rfl (Nat.le_of_ble_eq_true rfl) (fun _ => rfl) (fun _ M2 => ?_)
  refine r_iload_n F 2 dX6_ifPlayed_5 rfl rfl ?_
  refine r_if_lt (tgt := 14) F dX6_ifPlayed_6 (by decide) (fun c1 => ?_) (fun c1 => ?_)
  · refine r_sub [] rfl ?_
    exact l_X6_ifPlayed_14 F    M2
  · refine r_iload_n F 2 dX6_ifPlayed_9 rfl rfl ?_
    refine r_iconst F dX6_ifPlayed_10 (v := 5) (by decide) ?_
    refine r_icmp_lt (tgt := 25) F dX6_ifPlayed_11 (by decide) (fun c2 => ?_) (fun c2 => ?_)
    · refine r_aload_n F 0 dX6_ifPlayed_25 rfl rfl ?_
      refine r_iload_n F 1 dX6_ifPlayed_26 rfl rfl ?_
      refine r_cV (val := vU) (As := [.int a1]) (rest := []) (fun _ => []) F (c_X6_foresee F.st F.gg a1 M2) (fun _ _ => rfl) dX6_ifPlayed_27 ml_X6_145 yv_X6_foresee (rfl : kd 0 = 0) (by decide) rfl rfl (by decide) rfl (Nat.le_of_ble_eq_true rfl) (fun _ => rfl) (fun _ M27 => ?_)
      refine r_aload_n F 0 dX6_ifPlayed_30 rfl rfl ?_
      refine gf_X6_30 F dX6_ifPlayed_31 (rfl : kd 0 = 0) ?_
      refine r_iload_n F 2 dX6_ifPlayed_34 rfl rfl ?_
      refine r_cVN (val := vI) (As := [.int a2]) (rest := []) (fun q9 => .int q9 :: []) F (c_X1_tell F.st F.gg a2 M27) (fun _ _ => rfl) dX6_ifPlayed_35 mn_X6_269 yv_X1_tell (rfl : kd 5 = 3) (by decide) rfl rfl (by decide) rfl (Nat.le_of_ble_eq_true rfl) (fun _ => rfl) (fun r35 M35 => ?_)
      exact r_iret F rfl dX6_ifPlayed_38 rfl
    · refine r_sub [] rfl ?_
      exact l_X6_ifPlayed_14 F    M2

set_option maxRecDepth 100000 in
set_option maxHeartbeats 4000000 in
theorem c_X6_ifPlayed {l : Launch} {G : GM} (hl : l.stackTraces = false) (hG : GG G) (a1 : Int32) (a2 : Int32) (M : Mem) : ∀ r, f_X6_ifPlayed a1 a2 M = some r → Ctr l G yX6_ifPlayed (.code yX6_ifPlayed cX6_ifPlayed 3 (some .int) :: wsA) 10 [.ref (gA G 0), .int a1, .int a2] M ((emT vI) r) :=
  ctr_of (by decide) hl hG (Nat.le_of_ble_eq_true rfl) (fun p e s m args below meth c F => b_X6_ifPlayed F a1 a2 M)

-- ===== X3_takeOver DrumTowns$Town.takeOver(LDrumTowns$Playing;)V =====
theorem yv_X3_takeOver : yV yX3_takeOver cX3_takeOver 2 none 1 := ⟨im_X3_takeOver, sl_X3_takeOver, ini_X3, cd_X3_takeOver, ⟨by decide, by decide, by decide +kernel⟩, by decide⟩

def f_X3_takeOver (a0 : Nat) (M : Mem) : Option (Unit × Mem) := chk (kb a0 2) <| bn (f_X6_copyRow 6 (a0 + 1) M) fun _ M8 => bn (f_X6_copyRow 7 (a0 + 3) M8) fun _ M19 => bnd (mw M19 a0 0 ((M19.1 a0 0) + (M19.1 5 8))) fun M32 => bnd (mw M32 a0 4 ((M32.1 a0 4) + (1 : Int32))) fun M42 => bnd (mw M42 a0 5 ((M42.1 a0 5) + (M42.1 5 6))) fun M55 => bnd (mw M55 a0 6 ((M55.1 a0 6) + (M55.1 5 8))) fun M68 => some ((), M68)

set_option maxRecDepth 100000 in
set_option maxHeartbeats 4000000 in
theorem b_X3_takeOver {G : GM} {p : Program} {l : Launch} {e : Env} {s : State} {m : MethodId} {args : Array Value} {below : List Frame} {meth : Method} {c : Code} (F : Fx G p l s m args meth c cX3_takeOver RX3 2 none) (a0 : Nat) (M : Mem) : Rf G p l e s m args below meth c 7 2 emV (f_X3_takeOver a0 M) 0 [(0, .ref (gA G a0)), (1, .ref (gA G 5))] [] M := by
  unfold f_X3_takeOver
  refine r_aload_n F 1 dX3_takeOver_0 rfl rfl ?_
  refine gf_X3_31 F dX3_takeOver_1 (rfl : kd 5 = 3) ?_
  refine r_aload_n F 0 dX3_takeOver_4 rfl rfl ?_
  refine r_chk (fun h1 => ?_)
  refine gf_X3_9 F dX3_takeOver_5 (kb_k h1) ?_
  refine r_cSN (val := vU) (As := [.ref (gA G 6), .ref (gA G (a0 + 1))]) (rest := []) (fun _ => []) F (c_X6_copyRow F.st F.gg 6 (a0 + 1) M) (fun _ _ => rfl) dX3_takeOver_8 mn_X3_34 ys_X6_copyRow rfl (by decide) rfl (Nat.le_of_ble_eq_true rfl) (fun _ => rfl) (fun _ M8 => ?_)
  refine r_aload_n F 1 dX3_takeOver_11 rfl rfl ?_
  refine gf_X3_38 F dX3_takeOver_12 (rfl : kd 5 = 3) ?_
  refine r_aload_n F 0 dX3_takeOver_15 rfl rfl ?_
  refine gf_X3_18 F dX3_takeOver_16 (kb_k h1) ?_
  refine r_cSN (val := vU) (As := [.ref (gA G 7), .ref (gA G (a0 + 3))]) (rest := []) (fun _ => []) F (c_X6_copyRow F.st F.gg 7 (a0 + 3) M8) (fun _ _ => rfl) dX3_takeOver_19 mn_X3_34 ys_X6_copyRow rfl (by decide) rfl (Nat.le_of_ble_eq_true rfl) (fun _ => rfl) (fun _ M19 => ?_)
  refine r_aload_n F 0 dX3_takeOver_22 rfl rfl ?_
  refine r_dup F dX3_takeOver_23 rfl ?_
  refine gf_X3_39 F dX3_takeOver_24 (kb_k h1) ?_
  refine r_aload_n F 1 dX3_takeOver_27 rfl rfl ?_
  refine gf_X3_43 F dX3_takeOver_28 (rfl : kd 5 = 3) ?_
  refine r_iadd F dX3_takeOver_31 ?_
  refine pf_X3_39 F dX3_takeOver_32 (kb_k h1) (fun M32 => ?_)
  refine r_aload_n F 0 dX3_takeOver_35 rfl rfl ?_
  refine r_dup F dX3_takeOver_36 rfl ?_
  refine gf_X3_46 F dX3_takeOver_37 (kb_k h1) ?_
  refine r_iconst F dX3_takeOver_40 (v := 1) (by decide) ?_
  refine r_iadd F dX3_takeOver_41 ?_
  refine pf_X3_46 F dX3_takeOver_42 (kb_k h1) (fun M42 => ?_)
  refine r_aload_n F 0 dX3_takeOver_45 rfl rfl ?_
  refine r_dup F dX3_takeOver_46 rfl ?_
  refine gf_X3_49 F dX3_takeOver_47 (kb_k h1) ?_
  refine r_aload_n F 1 dX3_takeOver_50 rfl rfl ?_
  refine gf_X3_52 F dX3_takeOver_51 (rfl : kd 5 = 3) ?_
  refine r_iadd F dX3_takeOver_54 ?_
  refine pf_X3_49 F dX3_takeOver_55 (kb_k h1) (fun M55 => ?_)
  refine r_aload_n F 0 dX3_takeOver_58 rfl rfl ?_
  refine r_dup F dX3_takeOver_59 rfl ?_
  refine gf_X3_53 F dX3_takeOver_60 (kb_k h1) ?_
  refine r_aload_n F 1 dX3_takeOver_63 rfl rfl ?_
  refine gf_X3_43 F dX3_takeOver_64 (rfl : kd 5 = 3) ?_
  refine r_iadd F dX3_takeOver_67 ?_
  refine pf_X3_53 F dX3_takeOver_68 (kb_k h1) (fun M68 => ?_)
  exact r_vret F rfl dX3_takeOver_71 rfl

set_option maxRecDepth 100000 in
set_option maxHeartbeats 4000000 in
theorem c_X3_takeOver {l : Launch} {G : GM} (hl : l.stackTraces = false) (hG : GG G) (a0 : Nat) (M : Mem) : ∀ r, f_X3_takeOver a0 M = some r → Ctr l G yX3_takeOver (.code yX3_takeOver cX3_takeOver 2 none :: wsA) 7 [.ref (gA G a0), .ref (gA G 5)] M (emV r) :=
  ctr_of (by decide) hl hG (Nat.le_of_ble_eq_true rfl) (fun p e s m args below meth c F => b_X3_takeOver F a0 M)

-- ===== X6_play DrumTowns.play(I)I =====
theorem yv_X6_play : yV yX6_play cX6_play 2 (some .int) 1 := ⟨im_X6_play, sl_X6_play, ini_X6, cd_X6_play, ⟨by decide, by decide, by decide +kernel⟩, by decide⟩

def f_X6_play (a1 : Int32) (M : Mem) : Option ((Int32 ⊕ String) × Mem) := bt (f_X6_checkTown a1 M) fun _ M2 => bn (f_X6_saveState M2) fun _ M6 => bn (f_X6_foresee a1 M6) fun _ M11 => chk (inb a1 6) <| bnd (tw 35 a1) fun b22 => bn (f_X3_takeOver b22 M11) fun _ M27 => some (.inl (M27.1 5 6), M27)

set_option maxRecDepth 100000 in
set_option maxHeartbeats 4000000 in
theorem b_X6_play {G : GM} {p : Program} {l : Launch} {e : Env} {s : State} {m : MethodId} {args : Array Value} {below : List Frame} {meth : Method} {c : Code} (F : Fx G p l s m args meth c cX6_play RX6 2 (some .int)) (a1 : Int32) (M : Mem) : Rf G p l e s m args below meth c 10 2 (emT vI) (f_X6_play a1 M) 0 [(0, .ref (gA G 0)), (1, .int a1)] [] M := by
  unfold f_X6_play
  refine r_aload_n F 0 dX6_play_0 rfl rfl ?_
  refine r_iload_n F 1 dX6_play_1 rfl rfl ?_
  refine r_tV (val := vU) (As := [.int a1]) (rest := []) (fun _ => []) F (c_X6_checkTown F.st F.gg a1 M) dX6_play_2 ml_X6_120 yv_X6_checkTown (rfl : kd 0 = 0) (by decide) rfl rfl (by decide) rfl (Nat.le_of_ble_eq_true rfl) (fun _ => rfl) (fun _ M2 => ?_)
  refine r_aload_n F 0 dX6_play_5 rfl rfl ?_
  refine r_cV (val := vU) (As := []) (rest := []) (fun _ => []) F (c_X6_saveState F.st F.gg  M2) (fun _ _ => rfl) dX6_play_6 ml_X6_73 yv_X6_saveState (rfl : kd 0 = 0) (by decide) rfl rfl (by decide) rfl (Nat.le_of_ble_eq_true rfl) (fun _ => rfl) (fun _ M6 => ?_)
  refine r_aload_n F 0 dX6_play_9 rfl rfl ?_
  refine r_iload_n F 1 dX6_play_10 rfl rfl ?_
  refine r_cV (val := vU) (As := [.int a1]) (rest := []) (fun _ => []) F (c_X6_foresee F.st F.gg a1 M6) (fun _ _ => rfl) dX6_play_11 ml_X6_145 yv_X6_foresee (rfl : kd 0 = 0) (by decide) rfl rfl (by decide) rfl (Nat.le_of_ble_eq_true rfl) (fun _ => rfl) (fun _ M11 => ?_)
  refine r_aload_n F 0 dX6_play_14 rfl rfl ?_
  refine gf_X6_10 F dX6_play_15 (rfl : kd 0 = 0) ?_
  refine gf_X6_76 F dX6_play_18 (rfl : kd 34 = 1) ?_
  refine r_iload_n F 1 dX6_play_21 rfl rfl ?_
  refine r_chk (fun h1 => ?_)
  refine r_aaldT F dX6_play_22 (rfl : kd 35 = 9) h1 ?_
  refine r_br (kTw' (rfl : kd 35 = 9) h1) (fun b22 k22 => ?_)
  refine r_aload_n F 0 dX6_play_23 rfl rfl ?_
  refine gf_X6_30 F dX6_play_24 (rfl : kd 0 = 0) ?_
  refine r_cVN (val := vU) (As := [.ref (gA G 5)]) (rest := []) (fun _ => []) F (c_X3_takeOver F.st F.gg b22 M11) (fun _ _ => rfl) dX6_play_27 mn_X6_148 yv_X3_takeOver k22 (by decide) rfl rfl (by decide) rfl (Nat.le_of_ble_eq_true rfl) (fun _ => rfl) (fun _ M27 => ?_)
  refine r_aload_n F 0 dX6_play_30 rfl rfl ?_
  refine gf_X6_30 F dX6_play_31 (rfl : kd 0 = 0) ?_
  refine gf_X6_152 F dX6_play_34 (rfl : kd 5 = 3) ?_
  exact r_iret F rfl dX6_play_37 rfl

set_option maxRecDepth 100000 in
set_option maxHeartbeats 4000000 in
theorem c_X6_play {l : Launch} {G : GM} (hl : l.stackTraces = false) (hG : GG G) (a1 : Int32) (M : Mem) : ∀ r, f_X6_play a1 M = some r → Ctr l G yX6_play (.code yX6_play cX6_play 2 (some .int) :: wsA) 10 [.ref (gA G 0), .int a1] M ((emT vI) r) :=
  ctr_of (by decide) hl hG (Nat.le_of_ble_eq_true rfl) (fun p e s m args below meth c F => b_X6_play F a1 M)

-- ===== L_isPlayed DrumTownsLaw.isPlayed(LDrumTowns;I)Z =====
theorem ys_L_isPlayed : yS yL_isPlayed cL_isPlayed 10 (some .boolean) 2 := ⟨sc_L_isPlayed, ini_L, cd_L_isPlayed, ⟨by decide, by decide, by decide +kernel⟩, by decide⟩

def f_L_isPlayed_136  (M : Mem) : Option ((Int32 ⊕ String) × Mem) := some (.inl (0 : Int32), M)

set_option maxRecDepth 100000 in
set_option maxHeartbeats 4000000 in
theorem l_L_isPlayed_136 {G : GM} {p : Program} {l : Launch} {e : Env} {s : State} {m : MethodId} {args : Array Value} {below : List Frame} {meth : Method} {c : Code} (F : Fx G p l s m args meth c cL_isPlayed RL 10 (some .boolean))  (M : Mem) : Rf G p l e s m args below meth c 11 10 (emT vI) (f_L_isPlayed_136   M) 136 [] [] M := by
  unfold f_L_isPlayed_136
  refine r_iconst F dL_isPlayed_136 (v := 0) (by decide) ?_
  exact r_zret F rfl dL_isPlayed_137 rfl (by decide)

def f_L_isPlayed_133 (k32 : Int32 → Int32 → Int32 → Int32 → Int32 → Mem → Option ((Int32 ⊕ String) × Mem)) (y1 : Int32) (y2 : Int32) (y3 : Int32) (y4 : Int32) (y5 : Int32) (z0 : Int32) (z1 : Int32) (M : Mem) : Option ((Int32 ⊕ String) × Mem) := if z0 = z1 then (bnd (y5 + (1 : Int32)) fun x138 => k32 y1 y2 y3 y4 x138 M) else (f_L_isPlayed_136   M)

set_option maxRecDepth 100000 in
set_option maxHeartbeats 4000000 in
theorem l_L_isPlayed_133 {G : GM} {p : Program} {l : Launch} {e : Env} {s : State} {m : MethodId} {args : Array Value} {below : List Frame} {meth : Method} {c : Code} (F : Fx G p l s m args meth c cL_isPlayed RL 10 (some .boolean)) (k32 : Int32 → Int32 → Int32 → Int32 → Int32 → Mem → Option ((Int32 ⊕ String) × Mem)) (H32 : ∀ (y1 : Int32) (y2 : Int32) (y3 : Int32) (y4 : Int32) (y5 : Int32) (M : Mem), Rf G p l e s m args below meth c 11 10 (emT vI) (k32 y1 y2 y3 y4 y5 M) 32 [(0, .ref (gA G 0)), (1, .int y1), (2, .int y2), (3, .int y3), (4, .int y4), (5, .int y5)] [] M) (y1 : Int32) (y2 : Int32) (y3 : Int32) (y4 : Int32) (y5 : Int32) (z0 : Int32) (z1 : Int32) (M : Mem) : Rf G p l e s m args below meth c 11 10 (emT vI) (f_L_isPlayed_133 k32 y1 y2 y3 y4 y5 z0 z1 M) 133 [(0, .ref (gA G 0)), (1, .int y1), (2, .int y2), (3, .int y3), (4, .int y4), (5, .int y5)] [.int z1, .int z0] M := by
  unfold f_L_isPlayed_133
  refine r_icmp_eq (tgt := 138) F dL_isPlayed_133 (by decide) (fun c1 => ?_) (fun c1 => ?_)
  · refine r_iinc (ls' := fun q9 => [(5, .int q9), (0, .ref (gA G 0)), (1, .int y1), (2, .int y2), (3, .int y3), (4, .int y4)]) (k := 5) (v := y5 + (1 : Int32)) F dL_isPlayed_138 rfl rfl (by decide) (fun _ => rfl) (fun x138 => ?_)
    refine r_goto (tgt := 32) F dL_isPlayed_141 (by decide) ?_
    refine r_sub [1, 2, 3, 4, 5, 0] rfl ?_
    exact H32 y1 y2 y3 y4 x138 M
  · refine r_sub [] rfl ?_
    exact l_L_isPlayed_136 F    M

def f_L_isPlayed_122 (k32 : Int32 → Int32 → Int32 → Int32 → Int32 → Mem → Option ((Int32 ⊕ String) × Mem)) (y1 : Int32) (y2 : Int32) (y3 : Int32) (y4 : Int32) (y5 : Int32) (z0 : Int32) (M : Mem) : Option ((Int32 ⊕ String) × Mem) := if y5 = y2 then (f_L_isPlayed_133 k32 y1 y2 y3 y4 y5 z0 (1 : Int32) M) else (f_L_isPlayed_133 k32 y1 y2 y3 y4 y5 z0 (0 : Int32) M)

set_option maxRecDepth 100000 in
set_option maxHeartbeats 4000000 in
theorem l_L_isPlayed_122 {G : GM} {p : Program} {l : Launch} {e : Env} {s : State} {m : MethodId} {args : Array Value} {below : List Frame} {meth : Method} {c : Code} (F : Fx G p l s m args meth c cL_isPlayed RL 10 (some .boolean)) (k32 : Int32 → Int32 → Int32 → Int32 → Int32 → Mem → Option ((Int32 ⊕ String) × Mem)) (H32 : ∀ (y1 : Int32) (y2 : Int32) (y3 : Int32) (y4 : Int32) (y5 : Int32) (M : Mem), Rf G p l e s m args below meth c 11 10 (emT vI) (k32 y1 y2 y3 y4 y5 M) 32 [(0, .ref (gA G 0)), (1, .int y1), (2, .int y2), (3, .int y3), (4, .int y4), (5, .int y5)] [] M) (y1 : Int32) (y2 : Int32) (y3 : Int32) (y4 : Int32) (y5 : Int32) (z0 : Int32) (M : Mem) : Rf G p l e s m args below meth c 11 10 (emT vI) (f_L_isPlayed_122 k32 y1 y2 y3 y4 y5 z0 M) 122 [(0, .ref (gA G 0)), (1, .int y1), (2, .int y2), (3, .int y3), (4, .int y4), (5, .int y5)] [.int z0] M := by
  unfold f_L_isPlayed_122
  refine r_iload F 5 dL_isPlayed_122 rfl ?_
  refine r_iload_n F 2 dL_isPlayed_124 rfl rfl ?_
  refine r_icmp_ne (tgt := 132) F dL_isPlayed_125 (by decide) (fun c1 => ?_) (fun c1 => ?_)
  · refine r_iconst F dL_isPlayed_128 (v := 1) (by decide) ?_
    refine r_goto (tgt := 133) F dL_isPlayed_129 (by decide) ?_
    refine r_sub [0, 1, 2, 3, 4, 5] rfl ?_
    exact l_L_isPlayed_133 F k32 H32 y1 y2 y3 y4 y5 z0 (1 : Int32) M
  · refine r_iconst F dL_isPlayed_132 (v := 0) (by decide) ?_
    refine r_sub [0, 1, 2, 3, 4, 5] rfl ?_
    exact l_L_isPlayed_133 F k32 H32 y1 y2 y3 y4 y5 z0 (0 : Int32) M

def f_L_isPlayed_147 : Nat → Int32 → Int32 → Mem → Option ((Int32 ⊕ String) × Mem)
  | 0, _, _, _ => none
  | n + 1, y4, y5, M => if y4 ≤ y5 then (some (.inl (1 : Int32), M)) else (bt (f_X6_undo M) fun r155 M155 => bnd (y5 + (1 : Int32)) fun x159 => f_L_isPlayed_147  n y4 x159 M155)

set_option maxRecDepth 100000 in
set_option maxHeartbeats 4000000 in
theorem l_L_isPlayed_147 {G : GM} {p : Program} {l : Launch} {e : Env} {s : State} {m : MethodId} {args : Array Value} {below : List Frame} {meth : Method} {c : Code} (F : Fx G p l s m args meth c cL_isPlayed RL 10 (some .boolean)) : ∀ (n : Nat) (y4 : Int32) (y5 : Int32) (M : Mem), Rf G p l e s m args below meth c 11 10 (emT vI) (f_L_isPlayed_147  n y4 y5 M) 147 [(0, .ref (gA G 0)), (4, .int y4), (5, .int y5)] [] M := by
  intro n
  induction n with
  | zero => intros; exact r_none
  | succ n ih =>
    intro y4 y5 M
    rw [f_L_isPlayed_147]
    refine r_iload F 2 dL_isPlayed_147 rfl ?_
    refine r_iload F 1 dL_isPlayed_149 rfl ?_
    refine r_icmp_ge (tgt := 165) F dL_isPlayed_151 (by decide) (fun c1 => ?_) (fun c1 => ?_)
    · refine r_iconst F dL_isPlayed_165 (v := 1) (by decide) ?_
      exact r_zret F rfl dL_isPlayed_166 rfl (by decide)
    · refine r_aload_n F 0 dL_isPlayed_154 rfl rfl ?_
      refine r_tV (val := vI) (As := []) (rest := []) (fun q9 => .int q9 :: []) F (c_X6_undo F.st F.gg  M) dL_isPlayed_155 ml_L_107 yv_X6_undo (rfl : kd 0 = 0) (by decide) rfl rfl (by decide) rfl (Nat.le_of_ble_eq_true rfl) (fun _ => rfl) (fun r155 M155 => ?_)
      refine r_pop F dL_isPlayed_158 rfl ?_
      refine r_iinc (ls' := fun q9 => [(5, .int q9), (0, .ref (gA G 0)), (4, .int y4)]) (k := 2) (v := y5 + (1 : Int32)) F dL_isPlayed_159 rfl rfl (by decide) (fun _ => rfl) (fun x159 => ?_)
      refine r_goto (tgt := 147) F dL_isPlayed_162 (by decide) ?_
      refine r_sub [1, 2, 0] rfl ?_
      exact ih y4 x159 M155

def f_L_isPlayed_32 : Nat → Int32 → Int32 → Int32 → Int32 → Int32 → Mem → Option ((Int32 ⊕ String) × Mem)
  | 0, _, _, _, _, _, _ => none
  | n + 1, y1, y2, y3, y4, y5, M => if y4 < y5 then (f_L_isPlayed_147  FU y4 (0 : Int32) M) else (bt (f_X6_town y1 (0 : Int32) M) fun r42 M42 => bt (f_X6_ifPlayed y1 (2 : Int32) M42) fun r50 M50 => bt (f_X6_ifPlayed y1 (4 : Int32) M50) fun r58 M58 => bt (f_X6_ifPlayed y1 (0 : Int32) M58) fun r66 M66 => bt (f_X6_play y1 M66) fun r73 M73 => if r73 = r66 then (bt (f_X6_town y1 (0 : Int32) M73) fun r84 M84 => if r84 = (r42 + r50) then (bt (f_X6_town y1 (11 : Int32) M84) fun r99 M99 => if r99 = r58 then (bt (f_X6_town y1 (3 : Int32) M99) fun r110 M110 => if y3 ≤ r110 then (f_L_isPlayed_122 (f_L_isPlayed_32  n) y1 y2 y3 y4 y5 (0 : Int32) M110) else (f_L_isPlayed_122 (f_L_isPlayed_32  n) y1 y2 y3 y4 y5 (1 : Int32) M110)) else (f_L_isPlayed_136   M99)) else (f_L_isPlayed_136   M84)) else (f_L_isPlayed_136   M73))

set_option maxRecDepth 100000 in
set_option maxHeartbeats 4000000 in
theorem l_L_isPlayed_32 {G : GM} {p : Program} {l : Launch} {e : Env} {s : State} {m : MethodId} {args : Array Value} {below : List Frame} {meth : Method} {c : Code} (F : Fx G p l s m args meth c cL_isPlayed RL 10 (some .boolean)) : ∀ (n : Nat) (y1 : Int32) (y2 : Int32) (y3 : Int32) (y4 : Int32) (y5 : Int32) (M : Mem), Rf G p l e s m args below meth c 11 10 (emT vI) (f_L_isPlayed_32  n y1 y2 y3 y4 y5 M) 32 [(0, .ref (gA G 0)), (1, .int y1), (2, .int y2), (3, .int y3), (4, .int y4), (5, .int y5)] [] M := by
  intro n
  induction n with
  | zero => intros; exact r_none
  | succ n ih =>
    intro y1 y2 y3 y4 y5 M
    rw [f_L_isPlayed_32]
    refine r_iload F 5 dL_isPlayed_32 rfl ?_
    refine r_iload F 4 dL_isPlayed_34 rfl ?_
    refine r_icmp_gt (tgt := 144) F dL_isPlayed_36 (by decide) (fun c1 => ?_) (fun c1 => ?_)
    · refine r_iconst F dL_isPlayed_144 (v := 0) (by decide) ?_
      refine r_istore (ls' := [(5, .int (0 : Int32)), (0, .ref (gA G 0)), (1, .int y1), (2, .int y2), (3, .int y3), (4, .int y4)]) F dL_isPlayed_145 (by decide) rfl ?_
      refine r_sub [1, 5, 0] rfl ?_
      exact l_L_isPlayed_147 F   FU y4 (0 : Int32) M
    · refine r_aload_n F 0 dL_isPlayed_39 rfl rfl ?_
      refine r_iload_n F 1 dL_isPlayed_40 rfl rfl ?_
      refine r_iconst F dL_isPlayed_41 (v := 0) (by decide) ?_
      refine r_tV (val := vI) (As := [.int y1, .int (0 : Int32)]) (rest := []) (fun q9 => .int q9 :: []) F (c_X6_town F.st F.gg y1 (0 : Int32) M) dL_isPlayed_42 ml_L_89 yv_X6_town (rfl : kd 0 = 0) (by decide) rfl rfl (by decide) rfl (Nat.le_of_ble_eq_true rfl) (fun _ => rfl) (fun r42 M42 => ?_)
      refine r_istore (ls' := [(6, .int r42), (0, .ref (gA G 0)), (1, .int y1), (2, .int y2), (3, .int y3), (4, .int y4), (5, .int y5)]) F dL_isPlayed_45 (by decide) rfl ?_
      refine r_aload_n F 1 dL_isPlayed_47 rfl rfl ?_
      refine r_iload_n F 2 dL_isPlayed_48 rfl rfl ?_
      refine r_iconst F dL_isPlayed_49 (v := 2) (by decide) ?_
      refine r_tV (val := vI) (As := [.int y1, .int (2 : Int32)]) (rest := []) (fun q9 => .int q9 :: []) F (c_X6_ifPlayed F.st F.gg y1 (2 : Int32) M42) dL_isPlayed_50 ml_L_92 yv_X6_ifPlayed (rfl : kd 0 = 0) (by decide) rfl rfl (by decide) rfl (Nat.le_of_ble_eq_true rfl) (fun _ => rfl) (fun r50 M50 => ?_)
      refine r_istore (ls' := [(7, .int r50), (6, .int r42), (0, .ref (gA G 0)), (1, .int y1), (2, .int y2), (3, .int y3), (4, .int y4), (5, .int y5)]) F dL_isPlayed_53 (by decide) rfl ?_
      refine r_aload_n F 2 dL_isPlayed_55 rfl rfl ?_
      refine r_iload_n F 3 dL_isPlayed_56 rfl rfl ?_
      refine r_iconst F dL_isPlayed_57 (v := 4) (by decide) ?_
      refine r_tV (val := vI) (As := [.int y1, .int (4 : Int32)]) (rest := []) (fun q9 => .int q9 :: []) F (c_X6_ifPlayed F.st F.gg y1 (4 : Int32) M50) dL_isPlayed_58 ml_L_92 yv_X6_ifPlayed (rfl : kd 0 = 0) (by decide) rfl rfl (by decide) rfl (Nat.le_of_ble_eq_true rfl) (fun _ => rfl) (fun r58 M58 => ?_)
      refine r_istore (ls' := [(8, .int r58), (7, .int r50), (6, .int r42), (0, .ref (gA G 0)), (1, .int y1), (2, .int y2), (3, .int y3), (4, .int y4), (5, .int y5)]) F dL_isPlayed_61 (by decide) rfl ?_
      refine r_aload_n F 3 dL_isPlayed_63 rfl rfl ?_
      refine r_iload_n F 4 dL_isPlayed_64 rfl rfl ?_
      refine r_iconst F dL_isPlayed_65 (v := 0) (by decide) ?_
      refine r_tV (val := vI) (As := [.int y1, .int (0 : Int32)]) (rest := []) (fun q9 => .int q9 :: []) F (c_X6_ifPlayed F.st F.gg y1 (0 : Int32) M58) dL_isPlayed_66 ml_L_92 yv_X6_ifPlayed (rfl : kd 0 = 0) (by decide) rfl rfl (by decide) rfl (Nat.le_of_ble_eq_true rfl) (fun _ => rfl) (fun r66 M66 => ?_)
      refine r_istore (ls' := [(9, .int r66), (8, .int r58), (7, .int r50), (6, .int r42), (0, .ref (gA G 0)), (1, .int y1), (2, .int y2), (3, .int y3), (4, .int y4), (5, .int y5)]) F dL_isPlayed_69 (by decide) rfl ?_
      refine r_aload_n F 4 dL_isPlayed_71 rfl rfl ?_
      refine r_iload_n F 5 dL_isPlayed_72 rfl rfl ?_
      refine r_tV (val := vI) (As := [.int y1]) (rest := []) (fun q9 => .int q9 :: []) F (c_X6_play F.st F.gg y1 M66) dL_isPlayed_73 ml_L_74 yv_X6_play (rfl : kd 0 = 0) (by decide) rfl rfl (by decide) rfl (Nat.le_of_ble_eq_true rfl) (fun _ => rfl) (fun r73 M73 => ?_)
      refine r_iload F 0 dL_isPlayed_76 rfl ?_
      refine r_icmp_ne (tgt := 136) F dL_isPlayed_78 (by decide) (fun c2 => ?_) (fun c2 => ?_)
      · refine r_aload_n F 4 dL_isPlayed_81 rfl rfl ?_
        refine r_iload_n F 5 dL_isPlayed_82 rfl rfl ?_
        refine r_iconst F dL_isPlayed_83 (v := 0) (by decide) ?_
        refine r_tV (val := vI) (As := [.int y1, .int (0 : Int32)]) (rest := []) (fun q9 => .int q9 :: []) F (c_X6_town F.st F.gg y1 (0 : Int32) M73) dL_isPlayed_84 ml_L_89 yv_X6_town (rfl : kd 0 = 0) (by decide) rfl rfl (by decide) rfl (Nat.le_of_ble_eq_true rfl) (fun _ => rfl) (fun r84 M84 => ?_)
        refine r_iload F 3 dL_isPlayed_87 rfl ?_
        refine r_iload F 2 dL_isPlayed_89 rfl ?_
        refine r_iadd F dL_isPlayed_91 ?_
        refine r_icmp_ne (tgt := 136) F dL_isPlayed_92 (by decide) (fun c3 => ?_) (fun c3 => ?_)
        · refine r_aload_n F 4 dL_isPlayed_95 rfl rfl ?_
          refine r_iload_n F 5 dL_isPlayed_96 rfl rfl ?_
          refine r_bipush F dL_isPlayed_97 (v := 11) (by decide) ?_
          refine r_tV (val := vI) (As := [.int y1, .int (11 : Int32)]) (rest := []) (fun q9 => .int q9 :: []) F (c_X6_town F.st F.gg y1 (11 : Int32) M84) dL_isPlayed_99 ml_L_89 yv_X6_town (rfl : kd 0 = 0) (by decide) rfl rfl (by decide) rfl (Nat.le_of_ble_eq_true rfl) (fun _ => rfl) (fun r99 M99 => ?_)
          refine r_iload F 1 dL_isPlayed_102 rfl ?_
          refine r_icmp_ne (tgt := 136) F dL_isPlayed_104 (by decide) (fun c4 => ?_) (fun c4 => ?_)
          · refine r_aload_n F 4 dL_isPlayed_107 rfl rfl ?_
            refine r_iload_n F 5 dL_isPlayed_108 rfl rfl ?_
            refine r_iconst F dL_isPlayed_109 (v := 3) (by decide) ?_
            refine r_tV (val := vI) (As := [.int y1, .int (3 : Int32)]) (rest := []) (fun q9 => .int q9 :: []) F (c_X6_town F.st F.gg y1 (3 : Int32) M99) dL_isPlayed_110 ml_L_89 yv_X6_town (rfl : kd 0 = 0) (by decide) rfl rfl (by decide) rfl (Nat.le_of_ble_eq_true rfl) (fun _ => rfl) (fun r110 M110 => ?_)
            refine r_iload_n F 7 dL_isPlayed_113 rfl rfl ?_
            refine r_icmp_ge (tgt := 121) F dL_isPlayed_114 (by decide) (fun c5 => ?_) (fun c5 => ?_)
            · refine r_iconst F dL_isPlayed_121 (v := 0) (by decide) ?_
              refine r_sub [4, 5, 6, 7, 8, 9] rfl ?_
              exact l_L_isPlayed_122 F (f_L_isPlayed_32  n) (fun q0 q1 q2 q3 q4 M9 => ih q0 q1 q2 q3 q4 M9) y1 y2 y3 y4 y5 (0 : Int32) M110
            · refine r_iconst F dL_isPlayed_117 (v := 1) (by decide) ?_
              refine r_goto (tgt := 122) F dL_isPlayed_118 (by decide) ?_
              refine r_sub [4, 5, 6, 7, 8, 9] rfl ?_
              exact l_L_isPlayed_122 F (f_L_isPlayed_32  n) (fun q0 q1 q2 q3 q4 M9 => ih q0 q1 q2 q3 q4 M9) y1 y2 y3 y4 y5 (1 : Int32) M110
          · refine r_sub [] rfl ?_
            exact l_L_isPlayed_136 F    M99
        · refine r_sub [] rfl ?_
          exact l_L_isPlayed_136 F    M84
      · refine r_sub [] rfl ?_
        exact l_L_isPlayed_136 F    M73

def f_L_isPlayed_27 (y1 : Int32) (y2 : Int32) (y3 : Int32) (z0 : Int32) (M : Mem) : Option ((Int32 ⊕ String) × Mem) := f_L_isPlayed_32  FU y1 y2 y3 z0 (1 : Int32) M

set_option maxRecDepth 100000 in
set_option maxHeartbeats 4000000 in
theorem l_L_isPlayed_27 {G : GM} {p : Program} {l : Launch} {e : Env} {s : State} {m : MethodId} {args : Array Value} {below : List Frame} {meth : Method} {c : Code} (F : Fx G p l s m args meth c cL_isPlayed RL 10 (some .boolean)) (y1 : Int32) (y2 : Int32) (y3 : Int32) (z0 : Int32) (M : Mem) : Rf G p l e s m args below meth c 11 10 (emT vI) (f_L_isPlayed_27  y1 y2 y3 z0 M) 27 [(0, .ref (gA G 0)), (1, .int y1), (2, .int y2), (3, .int y3)] [.int z0] M := by
  unfold f_L_isPlayed_27
  refine r_istore (ls' := [(4, .int z0), (0, .ref (gA G 0)), (1, .int y1), (2, .int y2), (3, .int y3)]) F dL_isPlayed_27 (by decide) rfl ?_
  refine r_iconst F dL_isPlayed_29 (v := 1) (by decide) ?_
  refine r_istore (ls' := [(5, .int (1 : Int32)), (4, .int z0), (0, .ref (gA G 0)), (1, .int y1), (2, .int y2), (3, .int y3)]) F dL_isPlayed_30 (by decide) rfl ?_
  refine r_sub [2, 3, 4, 5, 1, 0] rfl ?_
  exact l_L_isPlayed_32 F   FU y1 y2 y3 z0 (1 : Int32) M

def f_L_isPlayed_22 (y1 : Int32) (y2 : Int32) (y3 : Int32) (M : Mem) : Option ((Int32 ⊕ String) × Mem) := f_L_isPlayed_27  y1 y2 y3 (2 : Int32) M

set_option maxRecDepth 100000 in
set_option maxHeartbeats 4000000 in
theorem l_L_isPlayed_22 {G : GM} {p : Program} {l : Launch} {e : Env} {s : State} {m : MethodId} {args : Array Value} {below : List Frame} {meth : Method} {c : Code} (F : Fx G p l s m args meth c cL_isPlayed RL 10 (some .boolean)) (y1 : Int32) (y2 : Int32) (y3 : Int32) (M : Mem) : Rf G p l e s m args below meth c 11 10 (emT vI) (f_L_isPlayed_22  y1 y2 y3 M) 22 [(0, .ref (gA G 0)), (1, .int y1), (2, .int y2), (3, .int y3)] [] M := by
  unfold f_L_isPlayed_22
  refine r_iconst F dL_isPlayed_22 (v := 2) (by decide) ?_
  refine r_goto (tgt := 27) F dL_isPlayed_23 (by decide) ?_
  refine r_sub [0, 1, 2, 3] rfl ?_
  exact l_L_isPlayed_27 F   y1 y2 y3 (2 : Int32) M

def f_L_isPlayed (a1 : Int32) (M : Mem) : Option ((Int32 ⊕ String) × Mem) := bt (f_X6_lastsFor a1 M) fun r2 M2 => bt (f_X6_town a1 (3 : Int32) M2) fun r9 M9 => if r2 < 0 then (f_L_isPlayed_22  a1 r2 r9 M9) else (if r2 ≤ (5 : Int32) then (f_L_isPlayed_27  a1 r2 r9 r2 M9) else (f_L_isPlayed_22  a1 r2 r9 M9))

set_option maxRecDepth 100000 in
set_option maxHeartbeats 4000000 in
theorem b_L_isPlayed {G : GM} {p : Program} {l : Launch} {e : Env} {s : State} {m : MethodId} {args : Array Value} {below : List Frame} {meth : Method} {c : Code} (F : Fx G p l s m args meth c cL_isPlayed RL 10 (some .boolean)) (a1 : Int32) (M : Mem) : Rf G p l e s m args below meth c 11 10 (emT vI) (f_L_isPlayed a1 M) 0 [(0, .ref (gA G 0)), (1, .int a1)] [] M := by
  unfold f_L_isPlayed
  refine r_aload_n F 0 dL_isPlayed_0 rfl rfl ?_
  refine r_iload_n F 1 dL_isPlayed_1 rfl rfl ?_
  refine r_tV (val := vI) (As := [.int a1]) (rest := []) (fun q9 => .int q9 :: []) F (c_X6_lastsFor F.st F.gg a1 M) dL_isPlayed_2 ml_L_104 yv_X6_lastsFor (rfl : kd 0 = 0) (by decide) rfl rfl (by decide) rfl (Nat.le_of_ble_eq_true rfl) (fun _ => rfl) (fun r2 M2 => ?_)
  refine r_istore_n (ls' := [(2, .int r2), (0, .ref (gA G 0)), (1, .int a1)]) F dL_isPlayed_5 rfl (by decide) rfl ?_
  refine r_aload_n F 1 dL_isPlayed_6 rfl rfl ?_
  refine r_iload_n F 2 dL_isPlayed_7 rfl rfl ?_
  refine r_iconst F dL_isPlayed_8 (v := 3) (by decide) ?_
  refine r_tV (val := vI) (As := [.int a1, .int (3 : Int32)]) (rest := []) (fun q9 => .int q9 :: []) F (c_X6_town F.st F.gg a1 (3 : Int32) M2) dL_isPlayed_9 ml_L_89 yv_X6_town (rfl : kd 0 = 0) (by decide) rfl rfl (by decide) rfl (Nat.le_of_ble_eq_true rfl) (fun _ => rfl) (fun r9 M9 => ?_)
  refine r_istore_n (ls' := [(3, .int r9), (2, .int r2), (0, .ref (gA G 0)), (1, .int a1)]) F dL_isPlayed_12 rfl (by decide) rfl ?_
  refine r_iload_n F 1 dL_isPlayed_13 rfl rfl ?_
  refine r_if_lt (tgt := 22) F dL_isPlayed_14 (by decide) (fun c1 => ?_) (fun c1 => ?_)
  · refine r_sub [2, 3, 1, 0] rfl ?_
    exact l_L_isPlayed_22 F   a1 r2 r9 M9
  · refine r_iload_n F 1 dL_isPlayed_17 rfl rfl ?_
    refine r_iconst F dL_isPlayed_18 (v := 5) (by decide) ?_
    refine r_icmp_le (tgt := 26) F dL_isPlayed_19 (by decide) (fun c2 => ?_) (fun c2 => ?_)
    · refine r_iload_n F 1 dL_isPlayed_26 rfl rfl ?_
      refine r_sub [2, 3, 1, 0] rfl ?_
      exact l_L_isPlayed_27 F   a1 r2 r9 r2 M9
    · refine r_sub [2, 3, 1, 0] rfl ?_
      exact l_L_isPlayed_22 F   a1 r2 r9 M9

set_option maxRecDepth 100000 in
set_option maxHeartbeats 4000000 in
theorem c_L_isPlayed {l : Launch} {G : GM} (hl : l.stackTraces = false) (hG : GG G) (a1 : Int32) (M : Mem) : ∀ r, f_L_isPlayed a1 M = some r → Ctr l G yL_isPlayed (.code yL_isPlayed cL_isPlayed 10 (some .boolean) :: wsA) 11 [.ref (gA G 0), .int a1] M ((emT vI) r) :=
  ctr_of (by decide) hl hG (Nat.le_of_ble_eq_true rfl) (fun p e s m args below meth c F => b_L_isPlayed F a1 M)

