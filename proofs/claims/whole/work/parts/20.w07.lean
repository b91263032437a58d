-- ===== X6_pull DrumTowns.pull(III)I =====
theorem yv_X6_pull : yV yX6_pull cX6_pull 5 (some .int) 3 := ⟨im_X6_pull, sl_X6_pull, ini_X6, cd_X6_pull, ⟨by decide, by decide, by decide +kernel⟩, by decide⟩

def f_X6_pull (a1 : Int32) (a2 : Int32) (a3 : Int32) (M : Mem) : Option ((Int32 ⊕ String) × Mem) := bt (f_X6_checkPlace a1 a2 a3 M) fun _ M4 => chk (inb a1 6) <| bnd (tw 35 a1) fun b15 => bn (f_X3_hasPin b15 a2 a3 M4) fun r22 M22 => if r22 = 0 then (some (.inr exS, M22)) else (chk (inb (2 : Int32) 3) <| if (M22.1 b15 0) < (M22.1 36 (2 : Int32).toNatClampNeg) then (bn (f_X6_saveState M22) fun _ M66 => chk (inb a2 24) <| chk (inb a2 24) <| bnd (mw M66 (b15 + 1) a2.toNatClampNeg ((M66.1 (b15 + 1) a2.toNatClampNeg) &&& (((1 : Int32) <<< (a3 &&& 31)) ^^^ (-1 : Int32)))) fun M83 => bnd (mw M83 b15 0 ((M83.1 b15 0) + (1 : Int32))) fun M92 => some (.inl (M92.1 b15 0), M92)) else (some (.inr exS, M22)))

set_option maxRecDepth 100000 in
set_option maxHeartbeats 4000000 in
theorem b_X6_pull {G : GM} {p : Program} {l : Launch} {e : Env} {s : State} {m : MethodId} {args : Array Value} {below : List Frame} {meth : Method} {c : Code} (F : Fx G p l s m args meth c cX6_pull RX6 5 (some .int)) (a1 : Int32) (a2 : Int32) (a3 : Int32) (M : Mem) : Rf G p l e s m args below meth c 10 5 (emT vI) (f_X6_pull a1 a2 a3 M) 0 [(0, .ref (gA G 0)), (1, .int a1), (2, .int a2), (3, .int a3)] [] M := by
  unfold f_X6_pull
  refine r_aload_n F 0 dX6_pull_0 rfl rfl ?_
  refine r_iload_n F 1 dX6_pull_1 rfl rfl ?_
  refine r_iload_n F 2 dX6_pull_2 rfl rfl ?_
  refine r_iload_n F 3 dX6_pull_3 rfl rfl ?_
  refine r_tV (val := vU) (As := [.int a1, .int a2, .int a3]) (rest := []) (fun _ => []) F (c_X6_checkPlace F.st F.gg a1 a2 a3 M) dX6_pull_4 ml_X6_97 yv_X6_checkPlace (rfl : kd 0 = 0) (by decide) rfl rfl (by decide) rfl (Nat.le_of_ble_eq_true rfl) (fun _ => rfl) (fun _ M4 => ?_)
  refine r_aload_n F 0 dX6_pull_7 rfl rfl ?_
  refine gf_X6_10 F dX6_pull_8 (rfl : kd 0 = 0) ?_
  refine gf_X6_76 F dX6_pull_11 (rfl : kd 34 = 1) ?_
  refine r_iload_n F 1 dX6_pull_14 rfl rfl ?_
  refine r_chk (fun h1 => ?_)
  refine r_aaldT F dX6_pull_15 (rfl : kd 35 = 9) h1 ?_
  refine r_br (kTw' (rfl : kd 35 = 9) h1) (fun b15 k15 => ?_)
  refine r_astore (ls' := [(4, .ref (gA G b15)), (0, .ref (gA G 0)), (1, .int a1), (2, .int a2), (3, .int a3)]) F dX6_pull_16 (by decide) rfl ?_
  refine r_aload F 0 dX6_pull_18 rfl ?_
  refine r_iload_n F 3 dX6_pull_20 rfl rfl ?_
  refine r_iload_n F 4 dX6_pull_21 rfl rfl ?_
  refine r_cVN (val := vI) (As := [.int a2, .int a3]) (rest := []) (fun q9 => .int q9 :: []) F (c_X3_hasPin F.st F.gg b15 a2 a3 M4) (fun _ _ => rfl) dX6_pull_22 mn_X6_101 yv_X3_hasPin k15 (by decide) rfl rfl (by decide) rfl (Nat.le_of_ble_eq_true rfl) (fun _ => rfl) (fun r22 M22 => ?_)
  refine r_if_ne (tgt := 38) F dX6_pull_25 (by decide) (fun c2 => ?_) (fun c2 => ?_)
  · exact r_throw F atS cl_X6_63 ini_IllegalStateException (by decide : (116, "there is no pin") ∈ strW) dX6_pull_28 dX6_pull_31 dX6_pull_32 dX6_pull_34 dX6_pull_37 (by decide) (Nat.le_of_ble_eq_true rfl)
  · refine r_aload F 0 dX6_pull_38 rfl ?_
    refine gf_X6_80 F dX6_pull_40 k15 ?_
    refine r_aload_n F 1 dX6_pull_43 rfl rfl ?_
    refine gf_X6_10 F dX6_pull_44 (rfl : kd 0 = 0) ?_
    refine gf_X6_68 F dX6_pull_47 (rfl : kd 34 = 1) ?_
    refine r_iconst F dX6_pull_50 (v := 2) (by decide) ?_
    refine r_chk (fun h3 => ?_)
    refine r_iald F dX6_pull_51 (rfl : kd 36 = 8) (rfl : al 36 = 3) h3 ?_
    refine r_icmp_lt (tgt := 65) F dX6_pull_52 (by decide) (fun c4 => ?_) (fun c4 => ?_)
    · refine r_aload_n F 1 dX6_pull_65 rfl rfl ?_
      refine r_cV (val := vU) (As := []) (rest := []) (fun _ => []) F (c_X6_saveState F.st F.gg  M22) (fun _ _ => rfl) dX6_pull_66 ml_X6_73 yv_X6_saveState (rfl : kd 0 = 0) (by decide) rfl rfl (by decide) rfl (Nat.le_of_ble_eq_true rfl) (fun _ => rfl) (fun _ M66 => ?_)
      refine r_aload F 0 dX6_pull_69 rfl ?_
      refine gf_X6_109 F dX6_pull_71 k15 ?_
      refine r_iload_n F 3 dX6_pull_74 rfl rfl ?_
      refine r_dup2 F dX6_pull_75 rfl rfl ?_
      refine r_chk (fun h5 => ?_)
      refine r_iald F dX6_pull_76 (kTd k15) (aTd k15) h5 ?_
      refine r_iconst F dX6_pull_77 (v := 1) (by decide) ?_
      refine r_iload_n F 4 dX6_pull_78 rfl rfl ?_
      refine r_ishl F dX6_pull_79 ?_
      refine r_iconst F dX6_pull_80 (v := -1) (by decide) ?_
      refine r_ixor F dX6_pull_81 ?_
      refine r_iand F dX6_pull_82 ?_
      refine r_chk (fun h6 => ?_)
      refine r_iast F dX6_pull_83 (kTd k15) (aTd k15) h6 (fun M83 => ?_)
      refine r_aload F 0 dX6_pull_84 rfl ?_
      refine r_dup F dX6_pull_86 rfl ?_
      refine gf_X6_80 F dX6_pull_87 k15 ?_
      refine r_iconst F dX6_pull_90 (v := 1) (by decide) ?_
      refine r_iadd F dX6_pull_91 ?_
      refine pf_X6_80 F dX6_pull_92 k15 (fun M92 => ?_)
      refine r_aload F 0 dX6_pull_95 rfl ?_
      refine gf_X6_80 F dX6_pull_97 k15 ?_
      exact r_iret F rfl dX6_pull_100 rfl
    · exact r_throw F atS cl_X6_63 ini_IllegalStateException (by decide : (118, "the box is full") ∈ strW) dX6_pull_55 dX6_pull_58 dX6_pull_59 dX6_pull_61 dX6_pull_64 (by decide) (Nat.le_of_ble_eq_true rfl)

set_option maxRecDepth 100000 in
set_option maxHeartbeats 4000000 in
theorem c_X6_pull {l : Launch} {G : GM} (hl : l.stackTraces = false) (hG : GG G) (a1 : Int32) (a2 : Int32) (a3 : Int32) (M : Mem) : ∀ r, f_X6_pull a1 a2 a3 M = some r → Ctr l G yX6_pull (.code yX6_pull cX6_pull 5 (some .int) :: wsA) 10 [.ref (gA G 0), .int a1, .int a2, .int a3] M ((emT vI) r) :=
  ctr_of (by decide) hl hG (Nat.le_of_ble_eq_true rfl) (fun p e s m args below meth c F => b_X6_pull F a1 a2 a3 M)

-- ===== X6_put DrumTowns.put(III)I =====
theorem yv_X6_put : yV yX6_put cX6_put 5 (some .int) 3 := ⟨im_X6_put, sl_X6_put, ini_X6, cd_X6_put, ⟨by decide, by decide, by decide +kernel⟩, by decide⟩

def f_X6_put (a1 : Int32) (a2 : Int32) (a3 : Int32) (M : Mem) : Option ((Int32 ⊕ String) × Mem) := bt (f_X6_checkPlace a1 a2 a3 M) fun _ M4 => chk (inb a1 6) <| bnd (tw 35 a1) fun b15 => bn (f_X3_hasPin b15 a2 a3 M4) fun r22 M22 => if r22 = 0 then (if (M22.1 b15 0) = 0 then (some (.inr exS, M22)) else (bn (f_X6_saveState M22) fun _ M57 => bnd (mw M57 b15 0 ((M57.1 b15 0) - (1 : Int32))) fun M68 => chk (inb a2 24) <| chk (inb a2 24) <| bnd (mw M68 (b15 + 1) a2.toNatClampNeg ((M68.1 (b15 + 1) a2.toNatClampNeg) ||| ((1 : Int32) <<< (a3 &&& 31)))) fun M83 => bn (f_X6_sizeOf (b15 + 1) M83) fun r89 M89 => some (.inl r89, M89))) else (some (.inr exS, M22))

set_option maxRecDepth 100000 in
set_option maxHeartbeats 4000000 in
theorem b_X6_put {G : GM} {p : Program} {l : Launch} {e : Env} {s : State} {m : MethodId} {args : Array Value} {below : List Frame} {meth : Method} {c : Code} (F : Fx G p l s m args meth c cX6_put RX6 5 (some .int)) (a1 : Int32) (a2 : Int32) (a3 : Int32) (M : Mem) : Rf G p l e s m args below meth c 10 5 (emT vI) (f_X6_put a1 a2 a3 M) 0 [(0, .ref (gA G 0)), (1, .int a1), (2, .int a2), (3, .int a3)] [] M := by
  unfold f_X6_put
  refine r_aload_n F 0 dX6_put_0 rfl rfl ?_
  refine r_iload_n F 1 dX6_put_1 rfl rfl ?_
  refine r_iload_n F 2 dX6_put_2 rfl rfl ?_
  refine r_iload_n F 3 dX6_put_3 rfl rfl ?_
  refine r_tV (val := vU) (As := [.int a1, .int a2, .int a3]) (rest := []) (fun _ => []) F (c_X6_checkPlace F.st F.gg a1 a2 a3 M) dX6_put_4 ml_X6_97 yv_X6_checkPlace (rfl : kd 0 = 0) (by decide) rfl rfl (by decide) rfl (Nat.le_of_ble_eq_true rfl) (fun _ => rfl) (fun _ M4 => ?_)
  refine r_aload_n F 0 dX6_put_7 rfl rfl ?_
  refine gf_X6_10 F dX6_put_8 (rfl : kd 0 = 0) ?_
  refine gf_X6_76 F dX6_put_11 (rfl : kd 34 = 1) ?_
  refine r_iload_n F 1 dX6_put_14 rfl rfl ?_
  refine r_chk (fun h1 => ?_)
  refine r_aaldT F dX6_put_15 (rfl : kd 35 = 9) h1 ?_
  refine r_br (kTw' (rfl : kd 35 = 9) h1) (fun b15 k15 => ?_)
  refine r_astore (ls' := [(4, .ref (gA G b15)), (0, .ref (gA G 0)), (1, .int a1), (2, .int a2), (3, .int a3)]) F dX6_put_16 (by decide) rfl ?_
  refine r_aload F 0 dX6_put_18 rfl ?_
  refine r_iload_n F 3 dX6_put_20 rfl rfl ?_
  refine r_iload_n F 4 dX6_put_21 rfl rfl ?_
  refine r_cVN (val := vI) (As := [.int a2, .int a3]) (rest := []) (fun q9 => .int q9 :: []) F (c_X3_hasPin F.st F.gg b15 a2 a3 M4) (fun _ _ => rfl) dX6_put_22 mn_X6_101 yv_X3_hasPin k15 (by decide) rfl rfl (by decide) rfl (Nat.le_of_ble_eq_true rfl) (fun _ => rfl) (fun r22 M22 => ?_)
  refine r_if_eq (tgt := 38) F dX6_put_25 (by decide) (fun c2 => ?_) (fun c2 => ?_)
  · refine r_aload F 0 dX6_put_38 rfl ?_
    refine gf_X6_80 F dX6_put_40 k15 ?_
    refine r_if_ne (tgt := 56) F dX6_put_43 (by decide) (fun c3 => ?_) (fun c3 => ?_)
    · exact r_throw F atS cl_X6_63 ini_IllegalStateException (by decide : (107, "the box is empty") ∈ strW) dX6_put_46 dX6_put_49 dX6_put_50 dX6_put_52 dX6_put_55 (by decide) (Nat.le_of_ble_eq_true rfl)
    · refine r_aload_n F 1 dX6_put_56 rfl rfl ?_
      refine r_cV (val := vU) (As := []) (rest := []) (fun _ => []) F (c_X6_saveState F.st F.gg  M22) (fun _ _ => rfl) dX6_put_57 ml_X6_73 yv_X6_saveState (rfl : kd 0 = 0) (by decide) rfl rfl (by decide) rfl (Nat.le_of_ble_eq_true rfl) (fun _ => rfl) (fun _ M57 => ?_)
      refine r_aload F 0 dX6_put_60 rfl ?_
      refine r_dup F dX6_put_62 rfl ?_
      refine gf_X6_80 F dX6_put_63 k15 ?_
      refine r_iconst F dX6_put_66 (v := 1) (by decide) ?_
      refine r_isub F dX6_put_67 ?_
      refine pf_X6_80 F dX6_put_68 k15 (fun M68 => ?_)
      refine r_aload F 0 dX6_put_71 rfl ?_
      refine gf_X6_109 F dX6_put_73 k15 ?_
      refine r_iload_n F 3 dX6_put_76 rfl rfl ?_
      refine r_dup2 F dX6_put_77 rfl rfl ?_
      refine r_chk (fun h4 => ?_)
      refine r_iald F dX6_put_78 (kTd k15) (aTd k15) h4 ?_
      refine r_iconst F dX6_put_79 (v := 1) (by decide) ?_
      refine r_iload_n F 4 dX6_put_80 rfl rfl ?_
      refine r_ishl F dX6_put_81 ?_
      refine r_ior F dX6_put_82 ?_
      refine r_chk (fun h5 => ?_)
      refine r_iast F dX6_put_83 (kTd k15) (aTd k15) h5 (fun M83 => ?_)
      refine r_aload F 0 dX6_put_84 rfl ?_
      refine gf_X6_109 F dX6_put_86 k15 ?_
      refine r_cS (val := vI) (As := [.ref (gA G (b15 + 1))]) (rest := []) (fun q9 => .int q9 :: []) F (c_X6_sizeOf F.st F.gg (b15 + 1) M83) (fun _ _ => rfl) dX6_put_89 ml_X6_112 ys_X6_sizeOf rfl (by decide) rfl (Nat.le_of_ble_eq_true rfl) (fun _ => rfl) (fun r89 M89 => ?_)
      exact r_iret F rfl dX6_put_92 rfl
  · exact r_throw F atS cl_X6_63 ini_IllegalStateException (by decide : (105, "there is a pin") ∈ strW) dX6_put_28 dX6_put_31 dX6_put_32 dX6_put_34 dX6_put_37 (by decide) (Nat.le_of_ble_eq_true rfl)

set_option maxRecDepth 100000 in
set_option maxHeartbeats 4000000 in
theorem c_X6_put {l : Launch} {G : GM} (hl : l.stackTraces = false) (hG : GG G) (a1 : Int32) (a2 : Int32) (a3 : Int32) (M : Mem) : ∀ r, f_X6_put a1 a2 a3 M = some r → Ctr l G yX6_put (.code yX6_put cX6_put 5 (some .int) :: wsA) 10 [.ref (gA G 0), .int a1, .int a2, .int a3] M ((emT vI) r) :=
  ctr_of (by decide) hl hG (Nat.le_of_ble_eq_true rfl) (fun p e s m args below meth c F => b_X6_put F a1 a2 a3 M)

-- ===== X6_repay DrumTowns.repay(III)I =====
theorem yv_X6_repay : yV yX6_repay cX6_repay 4 (some .int) 3 := ⟨im_X6_repay, sl_X6_repay, ini_X6, cd_X6_repay, ⟨by decide, by decide, by decide +kernel⟩, by decide⟩

def f_X6_repay (a1 : Int32) (a2 : Int32) (a3 : Int32) (M : Mem) : Option ((Int32 ⊕ String) × Mem) := bt (f_X6_checkTown a1 M) fun _ M2 => bt (f_X6_checkTown a2 M2) fun _ M7 => bt (f_X6_checkDifferent a1 a2 M7) fun _ M12 => bt (f_X6_checkGiven a3 M12) fun _ M16 => chk (inb a1 6) <| bnd (rw' 37 a1) fun b27 => chk (inb a2 6) <| if a3 ≤ (M16.1 b27 a2.toNatClampNeg) then (bt (f_X6_checkBoxes a1 a2 a3 M16) fun _ M48 => bn (f_X6_saveState M48) fun _ M52 => bn (f_X0_carry 34 a1 a2 a3 M52) fun _ M62 => chk (inb a1 6) <| bnd (rw' 37 a1) fun b73 => chk (inb a2 6) <| chk (inb a2 6) <| bnd (mw M62 b73 a2.toNatClampNeg ((M62.1 b73 a2.toNatClampNeg) - a3)) fun M79 => bnd (mw M79 34 5 ((M79.1 34 5) + a3)) fun M90 => chk (inb a1 6) <| bnd (rw' 37 a1) fun b101 => chk (inb a2 6) <| some (.inl (M90.1 b101 a2.toNatClampNeg), M90)) else (some (.inr exS, M16))

set_option maxRecDepth 100000 in
set_option maxHeartbeats 4000000 in
theorem b_X6_repay {G : GM} {p : Program} {l : Launch} {e : Env} {s : State} {m : MethodId} {args : Array Value} {below : List Frame} {meth : Method} {c : Code} (F : Fx G p l s m args meth c cX6_repay RX6 4 (some .int)) (a1 : Int32) (a2 : Int32) (a3 : Int32) (M : Mem) : Rf G p l e s m args below meth c 10 4 (emT vI) (f_X6_repay a1 a2 a3 M) 0 [(0, .ref (gA G 0)), (1, .int a1), (2, .int a2), (3, .int a3)] [] M := by
  unfold f_X6_repay
  refine r_aload_n F 0 dX6_repay_0 rfl rfl ?_
  refine r_iload_n F 1 dX6_repay_1 rfl rfl ?_
  refine r_tV (val := vU) (As := [.int a1]) (rest := []) (fun _ => []) F (c_X6_checkTown F.st F.gg a1 M) dX6_repay_2 ml_X6_120 yv_X6_checkTown (rfl : kd 0 = 0) (by decide) rfl rfl (by decide) rfl (Nat.le_of_ble_eq_true rfl) (fun _ => rfl) (fun _ M2 => ?_)
  refine r_aload_n F 0 dX6_repay_5 rfl rfl ?_
  refine r_iload_n F 2 dX6_repay_6 rfl rfl ?_
  refine r_tV (val := vU) (As := [.int a2]) (rest := []) (fun _ => []) F (c_X6_checkTown F.st F.gg a2 M2) dX6_repay_7 ml_X6_120 yv_X6_checkTown (rfl : kd 0 = 0) (by decide) rfl rfl (by decide) rfl (Nat.le_of_ble_eq_true rfl) (fun _ => rfl) (fun _ M7 => ?_)
  refine r_iload_n F 1 dX6_repay_10 rfl rfl ?_
  refine r_iload_n F 2 dX6_repay_11 rfl rfl ?_
  refine r_tS (val := vU) (As := [.int a1, .int a2]) (rest := []) (fun _ => []) F (c_X6_checkDifferent F.st F.gg a1 a2 M7) dX6_repay_12 ml_X6_123 ys_X6_checkDifferent rfl (by decide) rfl (Nat.le_of_ble_eq_true rfl) (fun _ => rfl) (fun _ M12 => ?_)
  refine r_iload_n F 3 dX6_repay_15 rfl rfl ?_
  refine r_tS (val := vU) (As := [.int a3]) (rest := []) (fun _ => []) F (c_X6_checkGiven F.st F.gg a3 M12) dX6_repay_16 ml_X6_155 ys_X6_checkGiven rfl (by decide) rfl (Nat.le_of_ble_eq_true rfl) (fun _ => rfl) (fun _ M16 => ?_)
  refine r_aload_n F 0 dX6_repay_19 rfl rfl ?_
  refine gf_X6_10 F dX6_repay_20 (rfl : kd 0 = 0) ?_
  refine gf_X6_164 F dX6_repay_23 (rfl : kd 34 = 1) ?_
  refine r_iload_n F 1 dX6_repay_26 rfl rfl ?_
  refine r_chk (fun h1 => ?_)
  refine r_aaldR F dX6_repay_27 (rfl : kd 37 = 11) h1 ?_
  refine r_bra (kRw (rfl : kd 37 = 11) h1) (aRw (rfl : kd 37 = 11) h1) (fun b27 k27 k27a => ?_)
  refine r_iload_n F 2 dX6_repay_28 rfl rfl ?_
  refine r_chk (fun h2 => ?_)
  refine r_iald F dX6_repay_29 k27 k27a h2 ?_
  refine r_iload_n F 3 dX6_repay_30 rfl rfl ?_
  refine r_icmp_ge (tgt := 44) F dX6_repay_31 (by decide) (fun c3 => ?_) (fun c3 => ?_)
  · refine r_aload_n F 0 dX6_repay_44 rfl rfl ?_
    refine r_iload_n F 1 dX6_repay_45 rfl rfl ?_
    refine r_iload_n F 2 dX6_repay_46 rfl rfl ?_
    refine r_iload_n F 3 dX6_repay_47 rfl rfl ?_
    refine r_tV (val := vU) (As := [.int a1, .int a2, .int a3]) (rest := []) (fun _ => []) F (c_X6_checkBoxes F.st F.gg a1 a2 a3 M16) dX6_repay_48 ml_X6_158 yv_X6_checkBoxes (rfl : kd 0 = 0) (by decide) rfl rfl (by decide) rfl (Nat.le_of_ble_eq_true rfl) (fun _ => rfl) (fun _ M48 => ?_)
    refine r_aload_n F 0 dX6_repay_51 rfl rfl ?_
    refine r_cV (val := vU) (As := []) (rest := []) (fun _ => []) F (c_X6_saveState F.st F.gg  M48) (fun _ _ => rfl) dX6_repay_52 ml_X6_73 yv_X6_saveState (rfl : kd 0 = 0) (by decide) rfl rfl (by decide) rfl (Nat.le_of_ble_eq_true rfl) (fun _ => rfl) (fun _ M52 => ?_)
    refine r_aload_n F 0 dX6_repay_55 rfl rfl ?_
    refine gf_X6_10 F dX6_repay_56 (rfl : kd 0 = 0) ?_
    refine r_iload_n F 1 dX6_repay_59 rfl rfl ?_
    refine r_iload_n F 2 dX6_repay_60 rfl rfl ?_
    refine r_iload_n F 3 dX6_repay_61 rfl rfl ?_
    refine r_cVN (val := vU) (As := [.int a1, .int a2, .int a3]) (rest := []) (fun _ => []) F (c_X0_carry F.st F.gg 34 a1 a2 a3 M52) (fun _ _ => rfl) dX6_repay_62 mn_X6_161 yv_X0_carry (rfl : kd 34 = 1) (by decide) rfl rfl (by decide) rfl (Nat.le_of_ble_eq_true rfl) (fun _ => rfl) (fun _ M62 => ?_)
    refine r_aload_n F 0 dX6_repay_65 rfl rfl ?_
    refine gf_X6_10 F dX6_repay_66 (rfl : kd 0 = 0) ?_
    refine gf_X6_164 F dX6_repay_69 (rfl : kd 34 = 1) ?_
    refine r_iload_n F 1 dX6_repay_72 rfl rfl ?_
    refine r_chk (fun h4 => ?_)
    refine r_aaldR F dX6_repay_73 (rfl : kd 37 = 11) h4 ?_
    refine r_bra (kRw (rfl : kd 37 = 11) h4) (aRw (rfl : kd 37 = 11) h4) (fun b73 k73 k73a => ?_)
    refine r_iload_n F 2 dX6_repay_74 rfl rfl ?_
    refine r_dup2 F dX6_repay_75 rfl rfl ?_
    refine r_chk (fun h5 => ?_)
    refine r_iald F dX6_repay_76 k73 k73a h5 ?_
    refine r_iload_n F 3 dX6_repay_77 rfl rfl ?_
    refine r_isub F dX6_repay_78 ?_
    refine r_chk (fun h6 => ?_)
    refine r_iast F dX6_repay_79 k73 k73a h6 (fun M79 => ?_)
    refine r_aload_n F 0 dX6_repay_80 rfl rfl ?_
    refine gf_X6_10 F dX6_repay_81 (rfl : kd 0 = 0) ?_
    refine r_dup F dX6_repay_84 rfl ?_
    refine gf_X6_173 F dX6_repay_85 (rfl : kd 34 = 1) ?_
    refine r_iload_n F 3 dX6_repay_88 rfl rfl ?_
    refine r_iadd F dX6_repay_89 ?_
    refine pf_X6_173 F dX6_repay_90 (rfl : kd 34 = 1) (fun M90 => ?_)
    refine r_aload_n F 0 dX6_repay_93 rfl rfl ?_
    refine gf_X6_10 F dX6_repay_94 (rfl : kd 0 = 0) ?_
    refine gf_X6_164 F dX6_repay_97 (rfl : kd 34 = 1) ?_
    refine r_iload_n F 1 dX6_repay_100 rfl rfl ?_
    refine r_chk (fun h7 => ?_)
    refine r_aaldR F dX6_repay_101 (rfl : kd 37 = 11) h7 ?_
    refine r_bra (kRw (rfl : kd 37 = 11) h7) (aRw (rfl : kd 37 = 11) h7) (fun b101 k101 k101a => ?_)
    refine r_iload_n F 2 dX6_repay_102 rfl rfl ?_
    refine r_chk (fun h8 => ?_)
    refine r_iald F dX6_repay_103 k101 k101a h8 ?_
    exact r_iret F rfl dX6_repay_104 rfl
  · exact r_throw F atS cl_X6_63 ini_IllegalStateException (by decide : (171, "it owes fewer pins") ∈ strW) dX6_repay_34 dX6_repay_37 dX6_repay_38 dX6_repay_40 dX6_repay_43 (by decide) (Nat.le_of_ble_eq_true rfl)

set_option maxRecDepth 100000 in
set_option maxHeartbeats 4000000 in
theorem c_X6_repay {l : Launch} {G : GM} (hl : l.stackTraces = false) (hG : GG G) (a1 : Int32) (a2 : Int32) (a3 : Int32) (M : Mem) : ∀ r, f_X6_repay a1 a2 a3 M = some r → Ctr l G yX6_repay (.code yX6_repay cX6_repay 4 (some .int) :: wsA) 10 [.ref (gA G 0), .int a1, .int a2, .int a3] M ((emT vI) r) :=
  ctr_of (by decide) hl hG (Nat.le_of_ble_eq_true rfl) (fun p e s m args below meth c F => b_X6_repay F a1 a2 a3 M)

-- ===== X6_ring DrumTowns.ring(I)I =====
theorem yv_X6_ring : yV yX6_ring cX6_ring 2 (some .int) 1 := ⟨im_X6_ring, sl_X6_ring, ini_X6, cd_X6_ring, ⟨by decide, by decide, by decide +kernel⟩, by decide⟩

def f_X6_ring_27 (y1 : Int32) (M : Mem) : Option ((Int32 ⊕ String) × Mem) := bn (f_X2_find 34 M) fun _ M35 => bn (f_X2_tell y1 M35) fun r43 M43 => some (.inl r43, M43)

set_option maxRecDepth 100000 in
set_option maxHeartbeats 4000000 in
theorem l_X6_ring_27 {G : GM} {p : Program} {l : Launch} {e : Env} {s : State} {m : MethodId} {args : Array Value} {below : List Frame} {meth : Method} {c : Code} (F : Fx G p l s m args meth c cX6_ring RX6 2 (some .int)) (y1 : Int32) (M : Mem) : Rf G p l e s m args below meth c 17 2 (emT vI) (f_X6_ring_27  y1 M) 27 [(0, .ref (gA G 0)), (1, .int y1)] [] M := by
  unfold f_X6_ring_27
  refine r_aload_n F 0 dX6_ring_27 rfl rfl ?_
  refine gf_X6_37 F dX6_ring_28 (rfl : kd 0 = 0) ?_
  refine r_aload_n F 0 dX6_ring_31 rfl rfl ?_
  refine gf_X6_10 F dX6_ring_32 (rfl : kd 0 = 0) ?_
  refine r_cVN (val := vU) (As := [.ref (gA G 34)]) (rest := []) (fun _ => []) F (c_X2_find F.st F.gg 34 M) (fun _ _ => rfl) dX6_ring_35 mn_X6_176 yv_X2_find (rfl : kd 10 = 4) (by decide) rfl rfl (by decide) rfl (Nat.le_of_ble_eq_true rfl) (fun _ => rfl) (fun _ M35 => ?_)
  refine r_aload_n F 0 dX6_ring_38 rfl rfl ?_
  refine gf_X6_37 F dX6_ring_39 (rfl : kd 0 = 0) ?_
  refine r_iload_n F 1 dX6_ring_42 rfl rfl ?_
  refine r_cVN (val := vI) (As := [.int y1]) (rest := []) (fun q9 => .int q9 :: []) F (c_X2_tell F.st F.gg y1 M35) (fun _ _ => rfl) dX6_ring_43 mn_X6_302 yv_X2_tell (rfl : kd 10 = 4) (by decide) rfl rfl (by decide) rfl (Nat.le_of_ble_eq_true rfl) (fun _ => rfl) (fun r43 M43 => ?_)
  exact r_iret F rfl dX6_ring_46 rfl

def f_X6_ring (a1 : Int32) (M : Mem) : Option ((Int32 ⊕ String) × Mem) := if a1 = 0 then (f_X6_ring_27  a1 M) else (if a1 = (1 : Int32) then (f_X6_ring_27  a1 M) else (bn (f_X6_isPlace a1 M) fun r10 M10 => if r10 = 0 then (some (.inr exA, M10)) else (f_X6_ring_27  a1 M10)))

set_option maxRecDepth 100000 in
set_option maxHeartbeats 4000000 in
theorem b_X6_ring {G : GM} {p : Program} {l : Launch} {e : Env} {s : State} {m : MethodId} {args : Array Value} {below : List Frame} {meth : Method} {c : Code} (F : Fx G p l s m args meth c cX6_ring RX6 2 (some .int)) (a1 : Int32) (M : Mem) : Rf G p l e s m args below meth c 17 2 (emT vI) (f_X6_ring a1 M) 0 [(0, .ref (gA G 0)), (1, .int a1)] [] M := by
  unfold f_X6_ring
  refine r_iload_n F 1 dX6_ring_0 rfl rfl ?_
  refine r_if_eq (tgt := 27) F dX6_ring_1 (by decide) (fun c1 => ?_) (fun c1 => ?_)
  · refine r_sub [0, 1] rfl ?_
    exact l_X6_ring_27 F   a1 M
  · refine r_iload_n F 1 dX6_ring_4 rfl rfl ?_
    refine r_iconst F dX6_ring_5 (v := 1) (by decide) ?_
    refine r_icmp_eq (tgt := 27) F dX6_ring_6 (by decide) (fun c2 => ?_) (fun c2 => ?_)
    · refine r_sub [0, 1] rfl ?_
      exact l_X6_ring_27 F   a1 M
    · refine r_iload_n F 1 dX6_ring_9 rfl rfl ?_
      refine r_cS (val := vI) (As := [.int a1]) (rest := []) (fun q9 => .int q9 :: []) F (c_X6_isPlace F.st F.gg a1 M) (fun _ _ => rfl) dX6_ring_10 ml_X6_292 ys_X6_isPlace rfl (by decide) rfl (Nat.le_of_ble_eq_true rfl) (fun _ => rfl) (fun r10 M10 => ?_)
      refine r_if_ne (tgt := 27) F dX6_ring_13 (by decide) (fun c3 => ?_) (fun c3 => ?_)
      · exact r_throwW F atA cl_X6_52 ini_IllegalArgumentException (by decide : (300, "what is not 0, 1, or 10 to 15") ∈ strW) dX6_ring_16 dX6_ring_19 dX6_ring_20 dX6_ring_23 dX6_ring_26 (by decide) (Nat.le_of_ble_eq_true rfl)
      · refine r_sub [0, 1] rfl ?_
        exact l_X6_ring_27 F   a1 M10

set_option maxRecDepth 100000 in
set_option maxHeartbeats 4000000 in
theorem c_X6_ring {l : Launch} {G : GM} (hl : l.stackTraces = false) (hG : GG G) (a1 : Int32) (M : Mem) : ∀ r, f_X6_ring a1 M = some r → Ctr l G yX6_ring (.code yX6_ring cX6_ring 2 (some .int) :: wsA) 17 [.ref (gA G 0), .int a1] M ((emT vI) r) :=
  ctr_of (by decide) hl hG (Nat.le_of_ble_eq_true rfl) (fun p e s m args below meth c F => b_X6_ring F a1 M)

-- ===== X6_set DrumTowns.set(II)I =====
theorem yv_X6_set : yV yX6_set cX6_set 4 (some .int) 2 := ⟨im_X6_set, sl_X6_set, ini_X6, cd_X6_set, ⟨by decide, by decide, by decide +kernel⟩, by decide⟩

def f_X6_set_22  (M : Mem) : Option ((Int32 ⊕ String) × Mem) := some (.inr exA, M)

set_option maxRecDepth 100000 in
set_option maxHeartbeats 4000000 in
theorem l_X6_set_22 {G : GM} {p : Program} {l : Launch} {e : Env} {s : State} {m : MethodId} {args : Array Value} {below : List Frame} {meth : Method} {c : Code} (F : Fx G p l s m args meth c cX6_set RX6 4 (some .int))  (M : Mem) : Rf G p l e s m args below meth c 10 4 (emT vI) (f_X6_set_22   M) 22 [] [] M := by
  unfold f_X6_set_22
  exact r_throw F atA cl_X6_52 ini_IllegalArgumentException (by decide : (95, "value is out of range") ∈ strW) dX6_set_22 dX6_set_25 dX6_set_26 dX6_set_28 dX6_set_31 (by decide) (Nat.le_of_ble_eq_true rfl)

def f_X6_set (a1 : Int32) (a2 : Int32) (M : Mem) : Option ((Int32 ⊕ String) × Mem) := bt (f_X6_checkSetting a1 M) fun _ M1 => chk (inb a1 3) <| if a2 < (lvT a1.toNatClampNeg) then (f_X6_set_22   M1) else (chk (inb a1 3) <| if a2 ≤ (gvT a1.toNatClampNeg) then (bn (f_X6_saveState M1) fun _ M33 => chk (inb a1 3) <| bnd (M33.1 36 a1.toNatClampNeg) fun x45 => chk (inb a1 3) <| bnd (mw M33 36 a1.toNatClampNeg a2) fun M55 => some (.inl x45, M55)) else (f_X6_set_22   M1))

set_option maxRecDepth 100000 in
set_option maxHeartbeats 4000000 in
theorem b_X6_set {G : GM} {p : Program} {l : Launch} {e : Env} {s : State} {m : MethodId} {args : Array Value} {below : List Frame} {meth : Method} {c : Code} (F : Fx G p l s m args meth c cX6_set RX6 4 (some .int)) (a1 : Int32) (a2 : Int32) (M : Mem) : Rf G p l e s m args below meth c 10 4 (emT vI) (f_X6_set a1 a2 M) 0 [(0, .ref (gA G 0)), (1, .int a1), (2, .int a2)] [] M := by
  unfold f_X6_set
  refine r_iload_n F 1 dX6_set_0 rfl rfl ?_
  refine r_tS (val := vU) (As := [.int a1]) (rest := []) (fun _ => []) F (c_X6_checkSetting F.st F.gg a1 M) dX6_set_1 ml_X6_85 ys_X6_checkSetting rfl (by decide) rfl (Nat.le_of_ble_eq_true rfl) (fun _ => rfl) (fun _ M1 => ?_)
  refine r_iload_n F 2 dX6_set_4 rfl rfl ?_
  refine r_chk (fun h1 => ?_)
  refine gs_X6_89 F 1 dX6_set_5 dX6_set_8 dX6_set_9 rfl rfl h1 ?_
  refine r_icmp_lt (tgt := 22) F dX6_set_10 (by decide) (fun c2 => ?_) (fun c2 => ?_)
  · refine r_sub [] rfl ?_
    exact l_X6_set_22 F    M1
  · refine r_iload_n F 2 dX6_set_13 rfl rfl ?_
    refine r_chk (fun h3 => ?_)
    refine gs_X6_92 F 1 dX6_set_14 dX6_set_17 dX6_set_18 rfl rfl h3 ?_
    refine r_icmp_le (tgt := 32) F dX6_set_19 (by decide) (fun c4 => ?_) (fun c4 => ?_)
    · refine r_aload_n F 0 dX6_set_32 rfl rfl ?_
      refine r_cV (val := vU) (As := []) (rest := []) (fun _ => []) F (c_X6_saveState F.st F.gg  M1) (fun _ _ => rfl) dX6_set_33 ml_X6_73 yv_X6_saveState (rfl : kd 0 = 0) (by decide) rfl rfl (by decide) rfl (Nat.le_of_ble_eq_true rfl) (fun _ => rfl) (fun _ M33 => ?_)
      refine r_aload_n F 0 dX6_set_36 rfl rfl ?_
      refine gf_X6_10 F dX6_set_37 (rfl : kd 0 = 0) ?_
      refine gf_X6_68 F dX6_set_40 (rfl : kd 34 = 1) ?_
      refine r_iload_n F 1 dX6_set_43 rfl rfl ?_
      refine r_chk (fun h5 => ?_)
      refine r_iald F dX6_set_44 (rfl : kd 36 = 8) (rfl : al 36 = 3) h5 ?_
      refine r_bi (fun x45 => ?_)
      refine r_istore_n (ls' := [(3, .int x45), (0, .ref (gA G 0)), (1, .int a1), (2, .int a2)]) F dX6_set_45 rfl (by decide) rfl ?_
      refine r_aload_n F 1 dX6_set_46 rfl rfl ?_
      refine gf_X6_10 F dX6_set_47 (rfl : kd 0 = 0) ?_
      refine gf_X6_68 F dX6_set_50 (rfl : kd 34 = 1) ?_
      refine r_iload_n F 2 dX6_set_53 rfl rfl ?_
      refine r_iload_n F 3 dX6_set_54 rfl rfl ?_
      refine r_chk (fun h6 => ?_)
      refine r_iast F dX6_set_55 (rfl : kd 36 = 8) (rfl : al 36 = 3) h6 (fun M55 => ?_)
      refine r_iload_n F 0 dX6_set_56 rfl rfl ?_
      exact r_iret F rfl dX6_set_57 rfl
    · refine r_sub [] rfl ?_
      exact l_X6_set_22 F    M1

set_option maxRecDepth 100000 in
set_option maxHeartbeats 4000000 in
theorem c_X6_set {l : Launch} {G : GM} (hl : l.stackTraces = false) (hG : GG G) (a1 : Int32) (a2 : Int32) (M : Mem) : ∀ r, f_X6_set a1 a2 M = some r → Ctr l G yX6_set (.code yX6_set cX6_set 4 (some .int) :: wsA) 10 [.ref (gA G 0), .int a1, .int a2] M ((emT vI) r) :=
  ctr_of (by decide) hl hG (Nat.le_of_ble_eq_true rfl) (fun p e s m args below meth c F => b_X6_set F a1 a2 M)

-- ===== X6_setting DrumTowns.setting(I)I =====
theorem yv_X6_setting : yV yX6_setting cX6_setting 2 (some .int) 1 := ⟨im_X6_setting, sl_X6_setting, ini_X6, cd_X6_setting, ⟨by decide, by decide, by decide +kernel⟩, by decide⟩

def f_X6_setting (a1 : Int32) (M : Mem) : Option ((Int32 ⊕ String) × Mem) := bt (f_X6_checkSetting a1 M) fun _ M1 => chk (inb a1 3) <| some (.inl (M1.1 36 a1.toNatClampNeg), M1)

set_option maxRecDepth 100000 in
set_option maxHeartbeats 4000000 in
theorem b_X6_setting {G : GM} {p : Program} {l : Launch} {e : Env} {s : State} {m : MethodId} {args : Array Value} {below : List Frame} {meth : Method} {c : Code} (F : Fx G p l s m args meth c cX6_setting RX6 2 (some .int)) (a1 : Int32) (M : Mem) : Rf G p l e s m args below meth c 7 2 (emT vI) (f_X6_setting a1 M) 0 [(0, .ref (gA G 0)), (1, .int a1)] [] M := by
  unfold f_X6_setting
  refine r_iload_n F 1 dX6_setting_0 rfl rfl ?_
  refine r_tS (val := vU) (As := [.int a1]) (rest := []) (fun _ => []) F (c_X6_checkSetting F.st F.gg a1 M) dX6_setting_1 ml_X6_85 ys_X6_checkSetting rfl (by decide) rfl (Nat.le_of_ble_eq_true rfl) (fun _ => rfl) (fun _ M1 => ?_)
  refine r_aload_n F 0 dX6_setting_4 rfl rfl ?_
  refine gf_X6_10 F dX6_setting_5 (rfl : kd 0 = 0) ?_
  refine gf_X6_68 F dX6_setting_8 (rfl : kd 34 = 1) ?_
  refine r_iload_n F 1 dX6_setting_11 rfl rfl ?_
  refine r_chk (fun h1 => ?_)
  refine r_iald F dX6_setting_12 (rfl : kd 36 = 8) (rfl : al 36 = 3) h1 ?_
  exact r_iret F rfl dX6_setting_13 rfl

set_option maxRecDepth 100000 in
set_option maxHeartbeats 4000000 in
theorem c_X6_setting {l : Launch} {G : GM} (hl : l.stackTraces = false) (hG : GG G) (a1 : Int32) (M : Mem) : ∀ r, f_X6_setting a1 M = some r → Ctr l G yX6_setting (.code yX6_setting cX6_setting 2 (some .int) :: wsA) 7 [.ref (gA G 0), .int a1] M ((emT vI) r) :=
  ctr_of (by decide) hl hG (Nat.le_of_ble_eq_true rfl) (fun p e s m args below meth c F => b_X6_setting F a1 M)

-- ===== X6_settle DrumTowns.settle()I =====
theorem yv_X6_settle : yV yX6_settle cX6_settle 2 (some .int) 0 := ⟨im_X6_settle, sl_X6_settle, ini_X6, cd_X6_settle, ⟨by decide, by decide, by decide +kernel⟩, by decide⟩

def f_X6_settle_61 (y1 : Int32) (M : Mem) : Option (Int32 × Mem) := some (y1, M)

set_option maxRecDepth 100000 in
set_option maxHeartbeats 4000000 in
theorem l_X6_settle_61 {G : GM} {p : Program} {l : Launch} {e : Env} {s : State} {m : MethodId} {args : Array Value} {below : List Frame} {meth : Method} {c : Code} (F : Fx G p l s m args meth c cX6_settle RX6 2 (some .int)) (y1 : Int32) (M : Mem) : Rf G p l e s m args below meth c 17 2 emI (f_X6_settle_61  y1 M) 61 [(1, .int y1)] [] M := by
  unfold f_X6_settle_61
  refine r_iload_n F 0 dX6_settle_61 rfl rfl ?_
  exact r_iret F rfl dX6_settle_62 rfl

def f_X6_settle_17 : Nat → Int32 → Mem → Option (Int32 × Mem)
  | 0, _, _ => none
  | n + 1, y1, M => if (M.1 10 1) ≤ 0 then (f_X6_settle_61  y1 M) else (if (30 : Int32) ≤ y1 then (f_X6_settle_61  y1 M) else (bn (f_X0_takeRing 34 M) fun _ M41 => bnd (y1 + (1 : Int32)) fun x44 => bn (f_X2_find 34 M41) fun _ M55 => f_X6_settle_17  n x44 M55))

set_option maxRecDepth 100000 in
set_option maxHeartbeats 4000000 in
theorem l_X6_settle_17 {G : GM} {p : Program} {l : Launch} {e : Env} {s : State} {m : MethodId} {args : Array Value} {below : List Frame} {meth : Method} {c : Code} (F : Fx G p l s m args meth c cX6_settle RX6 2 (some .int)) : ∀ (n : Nat) (y1 : Int32) (M : Mem), Rf G p l e s m args below meth c 17 2 emI (f_X6_settle_17  n y1 M) 17 [(0, .ref (gA G 0)), (1, .int y1)] [] M := by
  intro n
  induction n with
  | zero => intros; exact r_none
  | succ n ih =>
    intro y1 M
    rw [f_X6_settle_17]
    refine r_aload_n F 0 dX6_settle_17 rfl rfl ?_
    refine gf_X6_37 F dX6_settle_18 (rfl : kd 0 = 0) ?_
    refine gf_X6_180 F dX6_settle_21 (rfl : kd 10 = 4) ?_
    refine r_if_le (tgt := 61) F dX6_settle_24 (by decide) (fun c1 => ?_) (fun c1 => ?_)
    · refine r_sub [1] rfl ?_
      exact l_X6_settle_61 F   y1 M
    · refine r_iload_n F 1 dX6_settle_27 rfl rfl ?_
      refine r_bipush F dX6_settle_28 (v := 30) (by decide) ?_
      refine r_icmp_ge (tgt := 61) F dX6_settle_30 (by decide) (fun c2 => ?_) (fun c2 => ?_)
      · refine r_sub [1] rfl ?_
        exact l_X6_settle_61 F   y1 M
      · refine r_aload_n F 0 dX6_settle_33 rfl rfl ?_
        refine gf_X6_10 F dX6_settle_34 (rfl : kd 0 = 0) ?_
        refine r_aload_n F 0 dX6_settle_37 rfl rfl ?_
        refine gf_X6_37 F dX6_settle_38 (rfl : kd 0 = 0) ?_
        refine r_cVN (val := vU) (As := [.ref (gA G 10)]) (rest := []) (fun _ => []) F (c_X0_takeRing F.st F.gg 34 M) (fun _ _ => rfl) dX6_settle_41 mn_X6_183 yv_X0_takeRing (rfl : kd 34 = 1) (by decide) rfl rfl (by decide) rfl (Nat.le_of_ble_eq_true rfl) (fun _ => rfl) (fun _ M41 => ?_)
        refine r_iinc (ls' := fun q9 => [(1, .int q9), (0, .ref (gA G 0))]) (k := 1) (v := y1 + (1 : Int32)) F dX6_settle_44 rfl rfl (by decide) (fun _ => rfl) (fun x44 => ?_)
        refine r_aload_n F 1 dX6_settle_47 rfl rfl ?_
        refine gf_X6_37 F dX6_settle_48 (rfl : kd 0 = 0) ?_
        refine r_aload_n F 1 dX6_settle_51 rfl rfl ?_
        refine gf_X6_10 F dX6_settle_52 (rfl : kd 0 = 0) ?_
        refine r_cVN (val := vU) (As := [.ref (gA G 34)]) (rest := []) (fun _ => []) F (c_X2_find F.st F.gg 34 M41) (fun _ _ => rfl) dX6_settle_55 mn_X6_176 yv_X2_find (rfl : kd 10 = 4) (by decide) rfl rfl (by decide) rfl (Nat.le_of_ble_eq_true rfl) (fun _ => rfl) (fun _ M55 => ?_)
        refine r_goto (tgt := 17) F dX6_settle_58 (by decide) ?_
        refine r_sub [1, 0] rfl ?_
        exact ih x44 M55

def f_X6_settle  (M : Mem) : Option (Int32 × Mem) := bn (f_X6_saveState M) fun _ M1 => bn (f_X2_find 34 M1) fun _ M14 => f_X6_settle_17  FU (0 : Int32) M14

set_option maxRecDepth 100000 in
set_option maxHeartbeats 4000000 in
theorem b_X6_settle {G : GM} {p : Program} {l : Launch} {e : Env} {s : State} {m : MethodId} {args : Array Value} {below : List Frame} {meth : Method} {c : Code} (F : Fx G p l s m args meth c cX6_settle RX6 2 (some .int))  (M : Mem) : Rf G p l e s m args below meth c 17 2 emI (f_X6_settle  M) 0 [(0, .ref (gA G 0))] [] M := by
  unfold f_X6_settle
  refine r_aload_n F 0 dX6_settle_0 rfl rfl ?_
  refine r_cV (val := vU) (As := []) (rest := []) (fun _ => []) F (c_X6_saveState F.st F.gg  M) (fun _ _ => rfl) dX6_settle_1 ml_X6_73 yv_X6_saveState (rfl : kd 0 = 0) (by decide) rfl rfl (by decide) rfl (Nat.le_of_ble_eq_true rfl) (fun _ => rfl) (fun _ M1 => ?_)
  refine r_iconst F dX6_settle_4 (v := 0) (by decide) ?_
  refine r_istore_n (ls' := [(1, .int (0 : Int32)), (0, .ref (gA G 0))]) F dX6_settle_5 rfl (by decide) rfl ?_
  refine r_aload_n F 1 dX6_settle_6 rfl rfl ?_
  refine gf_X6_37 F dX6_settle_7 (rfl : kd 0 = 0) ?_
  refine r_aload_n F 1 dX6_settle_10 rfl rfl ?_
  refine gf_X6_10 F dX6_settle_11 (rfl : kd 0 = 0) ?_
  refine r_cVN (val := vU) (As := [.ref (gA G 34)]) (rest := []) (fun _ => []) F (c_X2_find F.st F.gg 34 M1) (fun _ _ => rfl) dX6_settle_14 mn_X6_176 yv_X2_find (rfl : kd 10 = 4) (by decide) rfl rfl (by decide) rfl (Nat.le_of_ble_eq_true rfl) (fun _ => rfl) (fun _ M14 => ?_)
  refine r_sub [1, 0] rfl ?_
  exact l_X6_settle_17 F   FU (0 : Int32) M14

set_option maxRecDepth 100000 in
set_option maxHeartbeats 4000000 in
theorem c_X6_settle {l : Launch} {G : GM} (hl : l.stackTraces = false) (hG : GG G)  (M : Mem) : ∀ r, f_X6_settle  M = some r → Ctr l G yX6_settle (.code yX6_settle cX6_settle 2 (some .int) :: wsA) 17 [.ref (gA G 0)] M (emI r) :=
  ctr_of (by decide) hl hG (Nat.le_of_ble_eq_true rfl) (fun p e s m args below meth c F => b_X6_settle F  M)

-- ===== X6_step DrumTowns.step(III)I =====
theorem yv_X6_step : yV yX6_step cX6_step 4 (some .int) 3 := ⟨im_X6_step, sl_X6_step, ini_X6, cd_X6_step, ⟨by decide, by decide, by decide +kernel⟩, by decide⟩

def f_X6_step (a1 : Int32) (a2 : Int32) (a3 : Int32) (M : Mem) : Option ((Int32 ⊕ String) × Mem) := bt (f_X6_checkTown a1 M) fun _ M2 => bt (f_X6_checkStep a2 M2) fun _ M6 => if a3 = 0 then (chk (inb a1 6) <| bnd (tw 35 a1) fun b44 => chk (inb a2 24) <| some (.inl (M6.1 (b44 + 1) a2.toNatClampNeg), M6)) else (if a3 = 1 then (chk (inb a1 6) <| bnd (tw 35 a1) fun b59 => chk (inb a2 24) <| some (.inl (M6.1 (b59 + 2) a2.toNatClampNeg), M6)) else (if a3 = 2 then (bn (f_X6_foresee a1 M6) fun _ M68 => chk (inb a2 24) <| some (.inl (M68.1 9 a2.toNatClampNeg), M68)) else (some (.inr exA, M6))))

set_option maxRecDepth 100000 in
set_option maxHeartbeats 4000000 in
theorem b_X6_step {G : GM} {p : Program} {l : Launch} {e : Env} {s : State} {m : MethodId} {args : Array Value} {below : List Frame} {meth : Method} {c : Code} (F : Fx G p l s m args meth c cX6_step RX6 4 (some .int)) (a1 : Int32) (a2 : Int32) (a3 : Int32) (M : Mem) : Rf G p l e s m args below meth c 10 4 (emT vI) (f_X6_step a1 a2 a3 M) 0 [(0, .ref (gA G 0)), (1, .int a1), (2, .int a2), (3, .int a3)] [] M := by
  unfold f_X6_step
  refine r_aload_n F 0 dX6_step_0 rfl rfl ?_
  refine r_iload_n F 1 dX6_step_1 rfl rfl ?_
  refine r_tV (val := vU) (As := [.int a1]) (rest := []) (fun _ => []) F (c_X6_checkTown F.st F.gg a1 M) dX6_step_2 ml_X6_120 yv_X6_checkTown (rfl : kd 0 = 0) (by decide) rfl rfl (by decide) rfl (Nat.le_of_ble_eq_true rfl) (fun _ => rfl) (fun _ M2 => ?_)
  refine r_iload_n F 2 dX6_step_5 rfl rfl ?_
  refine r_tS (val := vU) (As := [.int a2]) (rest := []) (fun _ => []) F (c_X6_checkStep F.st F.gg a2 M2) dX6_step_6 ml_X6_236 ys_X6_checkStep rfl (by decide) rfl (Nat.le_of_ble_eq_true rfl) (fun _ => rfl) (fun _ M6 => ?_)
  refine r_iload_n F 3 dX6_step_9 rfl rfl ?_
  refine r_ite (fun c1 => ?_) (fun c1 => ?_)
  · refine r_tabIn (tgt := 36) F dX6_step_10 c1 (by decide) (by decide) rfl (by decide) ?_
    refine r_aload_n F 0 dX6_step_36 rfl rfl ?_
    refine gf_X6_10 F dX6_step_37 (rfl : kd 0 = 0) ?_
    refine gf_X6_76 F dX6_step_40 (rfl : kd 34 = 1) ?_
    refine r_iload_n F 1 dX6_step_43 rfl rfl ?_
    refine r_chk (fun h2 => ?_)
    refine r_aaldT F dX6_step_44 (rfl : kd 35 = 9) h2 ?_
    refine r_br (kTw' (rfl : kd 35 = 9) h2) (fun b44 k44 => ?_)
    refine gf_X6_109 F dX6_step_45 k44 ?_
    refine r_iload_n F 2 dX6_step_48 rfl rfl ?_
    refine r_chk (fun h3 => ?_)
    refine r_iald F dX6_step_49 (kTd k44) (aTd k44) h3 ?_
    exact r_iret F rfl dX6_step_50 rfl
  refine r_ite (fun c4 => ?_) (fun c4 => ?_)
  · refine r_tabIn (tgt := 51) F dX6_step_10 c4 (by decide) (by decide) rfl (by decide) ?_
    refine r_aload_n F 0 dX6_step_51 rfl rfl ?_
    refine gf_X6_10 F dX6_step_52 (rfl : kd 0 = 0) ?_
    refine gf_X6_76 F dX6_step_55 (rfl : kd 34 = 1) ?_
    refine r_iload_n F 1 dX6_step_58 rfl rfl ?_
    refine r_chk (fun h5 => ?_)
    refine r_aaldT F dX6_step_59 (rfl : kd 35 = 9) h5 ?_
    refine r_br (kTw' (rfl : kd 35 = 9) h5) (fun b59 k59 => ?_)
    refine gf_X6_207 F dX6_step_60 k59 ?_
    refine r_iload_n F 2 dX6_step_63 rfl rfl ?_
    refine r_chk (fun h6 => ?_)
    refine r_iald F dX6_step_64 (kTt k59) (aTt k59) h6 ?_
    exact r_iret F rfl dX6_step_65 rfl
  refine r_ite (fun c7 => ?_) (fun c7 => ?_)
  · refine r_tabIn (tgt := 66) F dX6_step_10 c7 (by decide) (by decide) rfl (by decide) ?_
    refine r_aload_n F 0 dX6_step_66 rfl rfl ?_
    refine r_iload_n F 1 dX6_step_67 rfl rfl ?_
    refine r_cV (val := vU) (As := [.int a1]) (rest := []) (fun _ => []) F (c_X6_foresee F.st F.gg a1 M6) (fun _ _ => rfl) dX6_step_68 ml_X6_145 yv_X6_foresee (rfl : kd 0 = 0) (by decide) rfl rfl (by decide) rfl (Nat.le_of_ble_eq_true rfl) (fun _ => rfl) (fun _ M68 => ?_)
    refine r_aload_n F 0 dX6_step_71 rfl rfl ?_
    refine gf_X6_30 F dX6_step_72 (rfl : kd 0 = 0) ?_
    refine gf_X6_239 F dX6_step_75 (rfl : kd 5 = 3) ?_
    refine r_iload_n F 2 dX6_step_78 rfl rfl ?_
    refine r_chk (fun h8 => ?_)
    refine r_iald F dX6_step_79 (rfl : kd 9 = 8) (rfl : al 9 = 24) h8 ?_
    exact r_iret F rfl dX6_step_80 rfl
  refine r_tabOut (tgt := 81) F dX6_step_10 (by have n0 := lv_neT (a := 0) c1 (by decide); have n1 := lv_neT (a := 1) c4 (by decide); have n2 := lv_neT (a := 2) c7 (by decide); omega) (by decide) ?_
  exact r_throw F atA cl_X6_52 ini_IllegalArgumentException (by decide : (242, "what is not 0 to 2") ∈ strW) dX6_step_81 dX6_step_84 dX6_step_85 dX6_step_87 dX6_step_90 (by decide) (Nat.le_of_ble_eq_true rfl)

set_option maxRecDepth 100000 in
set_option maxHeartbeats 4000000 in
theorem c_X6_step {l : Launch} {G : GM} (hl : l.stackTraces = false) (hG : GG G) (a1 : Int32) (a2 : Int32) (a3 : Int32) (M : Mem) : ∀ r, f_X6_step a1 a2 a3 M = some r → Ctr l G yX6_step (.code yX6_step cX6_step 4 (some .int) :: wsA) 10 [.ref (gA G 0), .int a1, .int a2, .int a3] M ((emT vI) r) :=
  ctr_of (by decide) hl hG (Nat.le_of_ble_eq_true rfl) (fun p e s m args below meth c F => b_X6_step F a1 a2 a3 M)

-- ===== X6_trade DrumTowns.trade(II)I =====
theorem yv_X6_trade : yV yX6_trade cX6_trade 7 (some .int) 2 := ⟨im_X6_trade, sl_X6_trade, ini_X6, cd_X6_trade, ⟨by decide, by decide, by decide +kernel⟩, by decide⟩

def f_X6_trade_43 : Nat → Nat → Nat → Int32 → Mem → Option ((Int32 ⊕ String) × Mem)
  | 0, _, _, _, _ => none
  | n + 1, y3, y4, y5, M => if (24 : Int32) ≤ y5 then (chk (kb y3 2) <| bn (f_X3_rightPins y3 M) fun r91 M91 => chk (kb y4 2) <| bn (f_X3_rightPins y4 M91) fun r96 M96 => some (.inl (r91 + r96), M96)) else (chk (kb y3 2) <| chk (inb y5 24) <| bnd (M.1 (y3 + 1) y5.toNatClampNeg) fun x57 => chk (kb y4 2) <| chk (inb y5 24) <| chk (inb y5 24) <| bnd (mw M (y3 + 1) y5.toNatClampNeg (M.1 (y4 + 1) y5.toNatClampNeg)) fun M73 => chk (inb y5 24) <| bnd (mw M73 (y4 + 1) y5.toNatClampNeg x57) fun M83 => bnd (y5 + (1 : Int32)) fun x84 => f_X6_trade_43  n y3 y4 x84 M83)

set_option maxRecDepth 100000 in
set_option maxHeartbeats 4000000 in
theorem l_X6_trade_43 {G : GM} {p : Program} {l : Launch} {e : Env} {s : State} {m : MethodId} {args : Array Value} {below : List Frame} {meth : Method} {c : Code} (F : Fx G p l s m args meth c cX6_trade RX6 7 (some .int)) : ∀ (n : Nat) (y3 : Nat) (y4 : Nat) (y5 : Int32) (M : Mem), Rf G p l e s m args below meth c 10 7 (emT vI) (f_X6_trade_43  n y3 y4 y5 M) 43 [(3, .ref (gA G y3)), (4, .ref (gA G y4)), (5, .int y5)] [] M := by
  intro n
  induction n with
  | zero => intros; exact r_none
  | succ n ih =>
    intro y3 y4 y5 M
    rw [f_X6_trade_43]
    refine r_iload F 2 dX6_trade_43 rfl ?_
    refine r_bipush F dX6_trade_45 (v := 24) (by decide) ?_
    refine r_icmp_ge (tgt := 90) F dX6_trade_47 (by decide) (fun c1 => ?_) (fun c1 => ?_)
    · refine r_aload_n F 0 dX6_trade_90 rfl rfl ?_
      refine r_chk (fun h2 => ?_)
      refine r_cVN (val := vI) (As := []) (rest := []) (fun q9 => .int q9 :: []) F (c_X3_rightPins F.st F.gg y3 M) (fun _ _ => rfl) dX6_trade_91 mn_X6_129 yv_X3_rightPins (kb_k h2) (by decide) rfl rfl (by decide) rfl (Nat.le_of_ble_eq_true rfl) (fun _ => rfl) (fun r91 M91 => ?_)
      refine r_aload F 1 dX6_trade_94 rfl ?_
      refine r_chk (fun h3 => ?_)
      refine r_cVN (val := vI) (As := []) (rest := [.int r91]) (fun q9 => .int q9 :: [.int r91]) F (c_X3_rightPins F.st F.gg y4 M91) (fun _ _ => rfl) dX6_trade_96 mn_X6_129 yv_X3_rightPins (kb_k h3) (by decide) rfl rfl (by decide) rfl (Nat.le_of_ble_eq_true rfl) (fun _ => rfl) (fun r96 M96 => ?_)
      refine r_iadd F dX6_trade_99 ?_
      exact r_iret F rfl dX6_trade_100 rfl
    · refine r_aload_n F 0 dX6_trade_50 rfl rfl ?_
      refine r_chk (fun h4 => ?_)
      refine gf_X6_109 F dX6_trade_51 (kb_k h4) ?_
      refine r_iload F 2 dX6_trade_54 rfl ?_
      refine r_chk (fun h5 => ?_)
      refine r_iald F dX6_trade_56 (kTd (kb_k h4)) (aTd (kb_k h4)) h5 ?_
      refine r_bi (fun x57 => ?_)
      refine r_istore (ls' := [(6, .int x57), (3, .ref (gA G y3)), (4, .ref (gA G y4)), (5, .int y5)]) F dX6_trade_57 (by decide) rfl ?_
      refine r_aload_n F 1 dX6_trade_59 rfl rfl ?_
      refine gf_X6_109 F dX6_trade_60 (kb_k h4) ?_
      refine r_iload F 3 dX6_trade_63 rfl ?_
      refine r_aload F 2 dX6_trade_65 rfl ?_
      refine r_chk (fun h6 => ?_)
      refine gf_X6_109 F dX6_trade_67 (kb_k h6) ?_
      refine r_iload F 3 dX6_trade_70 rfl ?_
      refine r_chk (fun h7 => ?_)
      refine r_iald F dX6_trade_72 (kTd (kb_k h6)) (aTd (kb_k h6)) h7 ?_
      refine r_chk (fun h8 => ?_)
      refine r_iast F dX6_trade_73 (kTd (kb_k h4)) (aTd (kb_k h4)) h8 (fun M73 => ?_)
      refine r_aload F 2 dX6_trade_74 rfl ?_
      refine gf_X6_109 F dX6_trade_76 (kb_k h6) ?_
      refine r_iload F 3 dX6_trade_79 rfl ?_
      refine r_iload F 0 dX6_trade_81 rfl ?_
      refine r_chk (fun h9 => ?_)
      refine r_iast F dX6_trade_83 (kTd (kb_k h6)) (aTd (kb_k h6)) h9 (fun M83 => ?_)
      refine r_iinc (ls' := fun q9 => [(5, .int q9), (6, .int x57), (3, .ref (gA G y3)), (4, .ref (gA G y4))]) (k := 3) (v := y5 + (1 : Int32)) F dX6_trade_84 rfl rfl (by decide) (fun _ => rfl) (fun x84 => ?_)
      refine r_goto (tgt := 43) F dX6_trade_87 (by decide) ?_
      refine r_sub [2, 3, 0] rfl ?_
      exact ih y3 y4 x84 M83

def f_X6_trade (a1 : Int32) (a2 : Int32) (M : Mem) : Option ((Int32 ⊕ String) × Mem) := bt (f_X6_checkTown a1 M) fun _ M2 => bt (f_X6_checkTown a2 M2) fun _ M7 => bt (f_X6_checkDifferent a1 a2 M7) fun _ M12 => bn (f_X6_saveState M12) fun _ M16 => chk (inb a1 6) <| bnd (tw 35 a1) fun b27 => chk (inb a2 6) <| bnd (tw 35 a2) fun b37 => f_X6_trade_43  FU b27 b37 (0 : Int32) M16

set_option maxRecDepth 100000 in
set_option maxHeartbeats 4000000 in
theorem b_X6_trade {G : GM} {p : Program} {l : Launch} {e : Env} {s : State} {m : MethodId} {args : Array Value} {below : List Frame} {meth : Method} {c : Code} (F : Fx G p l s m args meth c cX6_trade RX6 7 (some .int)) (a1 : Int32) (a2 : Int32) (M : Mem) : Rf G p l e s m args below meth c 10 7 (emT vI) (f_X6_trade a1 a2 M) 0 [(0, .ref (gA G 0)), (1, .int a1), (2, .int a2)] [] M := by
  unfold f_X6_trade
  refine r_aload_n F 0 dX6_trade_0 rfl rfl ?_
  refine r_iload_n F 1 dX6_trade_1 rfl rfl ?_
  refine r_tV (val := vU) (As := [.int a1]) (rest := []) (fun _ => []) F (c_X6_checkTown F.st F.gg a1 M) dX6_trade_2 ml_X6_120 yv_X6_checkTown (rfl : kd 0 = 0) (by decide) rfl rfl (by decide) rfl (Nat.le_of_ble_eq_true rfl) (fun _ => rfl) (fun _ M2 => ?_)
  refine r_aload_n F 0 dX6_trade_5 rfl rfl ?_
  refine r_iload_n F 2 dX6_trade_6 rfl rfl ?_
  refine r_tV (val := vU) (As := [.int a2]) (rest := []) (fun _ => []) F (c_X6_checkTown F.st F.gg a2 M2) dX6_trade_7 ml_X6_120 yv_X6_checkTown (rfl : kd 0 = 0) (by decide) rfl rfl (by decide) rfl (Nat.le_of_ble_eq_true rfl) (fun _ => rfl) (fun _ M7 => ?_)
  refine r_iload_n F 1 dX6_trade_10 rfl rfl ?_
  refine r_iload_n F 2 dX6_trade_11 rfl rfl ?_
  refine r_tS (val := vU) (As := [.int a1, .int a2]) (rest := []) (fun _ => []) F (c_X6_checkDifferent F.st F.gg a1 a2 M7) dX6_trade_12 ml_X6_123 ys_X6_checkDifferent rfl (by decide) rfl (Nat.le_of_ble_eq_true rfl) (fun _ => rfl) (fun _ M12 => ?_)
  refine r_aload_n F 0 dX6_trade_15 rfl rfl ?_
  refine r_cV (val := vU) (As := []) (rest := []) (fun _ => []) F (c_X6_saveState F.st F.gg  M12) (fun _ _ => rfl) dX6_trade_16 ml_X6_73 yv_X6_saveState (rfl : kd 0 = 0) (by decide) rfl rfl (by decide) rfl (Nat.le_of_ble_eq_true rfl) (fun _ => rfl) (fun _ M16 => ?_)
  refine r_aload_n F 0 dX6_trade_19 rfl rfl ?_
  refine gf_X6_10 F dX6_trade_20 (rfl : kd 0 = 0) ?_
  refine gf_X6_76 F dX6_trade_23 (rfl : kd 34 = 1) ?_
  refine r_iload_n F 1 dX6_trade_26 rfl rfl ?_
  refine r_chk (fun h1 => ?_)
  refine r_aaldT F dX6_trade_27 (rfl : kd 35 = 9) h1 ?_
  refine r_br (kTw' (rfl : kd 35 = 9) h1) (fun b27 k27 => ?_)
  refine r_astore_n (ls' := [(3, .ref (gA G b27)), (0, .ref (gA G 0)), (1, .int a1), (2, .int a2)]) F dX6_trade_28 rfl (by decide) rfl ?_
  refine r_aload_n F 1 dX6_trade_29 rfl rfl ?_
  refine gf_X6_10 F dX6_trade_30 (rfl : kd 0 = 0) ?_
  refine gf_X6_76 F dX6_trade_33 (rfl : kd 34 = 1) ?_
  refine r_iload_n F 3 dX6_trade_36 rfl rfl ?_
  refine r_chk (fun h2 => ?_)
  refine r_aaldT F dX6_trade_37 (rfl : kd 35 = 9) h2 ?_
  refine r_br (kTw' (rfl : kd 35 = 9) h2) (fun b37 k37 => ?_)
  refine r_astore (ls' := [(4, .ref (gA G b37)), (3, .ref (gA G b27)), (0, .ref (gA G 0)), (1, .int a1), (2, .int a2)]) F dX6_trade_38 (by decide) rfl ?_
  refine r_iconst F dX6_trade_40 (v := 0) (by decide) ?_
  refine r_istore (ls' := [(5, .int (0 : Int32)), (4, .ref (gA G b37)), (3, .ref (gA G b27)), (0, .ref (gA G 0)), (1, .int a1), (2, .int a2)]) F dX6_trade_41 (by decide) rfl ?_
  refine r_sub [2, 1, 0] rfl ?_
  exact l_X6_trade_43 F   FU b27 b37 (0 : Int32) M16

set_option maxRecDepth 100000 in
set_option maxHeartbeats 4000000 in
theorem c_X6_trade {l : Launch} {G : GM} (hl : l.stackTraces = false) (hG : GG G) (a1 : Int32) (a2 : Int32) (M : Mem) : ∀ r, f_X6_trade a1 a2 M = some r → Ctr l G yX6_trade (.code yX6_trade cX6_trade 7 (some .int) :: wsA) 10 [.ref (gA G 0), .int a1, .int a2] M ((emT vI) r) :=
  ctr_of (by decide) hl hG (Nat.le_of_ble_eq_true rfl) (fun p e s m args below meth c F => b_X6_trade F a1 a2 M)

-- ===== X6_turn DrumTowns.turn(II)I =====
theorem yv_X6_turn : yV yX6_turn cX6_turn 5 (some .int) 2 := ⟨im_X6_turn, sl_X6_turn, ini_X6, cd_X6_turn, ⟨by decide, by decide, by decide +kernel⟩, by decide⟩

def f_X6_turn_15  (M : Mem) : Option ((Int32 ⊕ String) × Mem) := some (.inr exA, M)

set_option maxRecDepth 100000 in
set_option maxHeartbeats 4000000 in
theorem l_X6_turn_15 {G : GM} {p : Program} {l : Launch} {e : Env} {s : State} {m : MethodId} {args : Array Value} {below : List Frame} {meth : Method} {c : Code} (F : Fx G p l s m args meth c cX6_turn RX6 5 (some .int))  (M : Mem) : Rf G p l e s m args below meth c 10 5 (emT vI) (f_X6_turn_15   M) 15 [] [] M := by
  unfold f_X6_turn_15
  exact r_throw F atA cl_X6_52 ini_IllegalArgumentException (by decide : (133, "by is out of range") ∈ strW) dX6_turn_15 dX6_turn_18 dX6_turn_19 dX6_turn_21 dX6_turn_24 (by decide) (Nat.le_of_ble_eq_true rfl)

def f_X6_turn_42 : Nat → Int32 → Nat → Int32 → Mem → Option ((Int32 ⊕ String) × Mem)
  | 0, _, _, _, _ => none
  | n + 1, y2, y3, y4, M => if (24 : Int32) ≤ y4 then (chk (kb y3 2) <| bn (f_X6_copyRow 22 (y3 + 1) M) fun _ M82 => bn (f_X3_rightPins y3 M82) fun r86 M86 => some (.inl r86, M86)) else (chk (kb y3 2) <| chk (inb y4 24) <| chk (inb ((y4 + y2) - (y4 + y2) / (24 : Int32) * (24 : Int32)) 24) <| bnd (mw M 22 ((y4 + y2) - (y4 + y2) / (24 : Int32) * (24 : Int32)).toNatClampNeg (M.1 (y3 + 1) y4.toNatClampNeg)) fun M67 => bnd (y4 + (1 : Int32)) fun x68 => f_X6_turn_42  n y2 y3 x68 M67)

set_option maxRecDepth 100000 in
set_option maxHeartbeats 4000000 in
theorem l_X6_turn_42 {G : GM} {p : Program} {l : Launch} {e : Env} {s : State} {m : MethodId} {args : Array Value} {below : List Frame} {meth : Method} {c : Code} (F : Fx G p l s m args meth c cX6_turn RX6 5 (some .int)) : ∀ (n : Nat) (y2 : Int32) (y3 : Nat) (y4 : Int32) (M : Mem), Rf G p l e s m args below meth c 10 5 (emT vI) (f_X6_turn_42  n y2 y3 y4 M) 42 [(0, .ref (gA G 0)), (2, .int y2), (3, .ref (gA G y3)), (4, .int y4)] [] M := by
  intro n
  induction n with
  | zero => intros; exact r_none
  | succ n ih =>
    intro y2 y3 y4 M
    rw [f_X6_turn_42]
    refine r_iload F 3 dX6_turn_42 rfl ?_
    refine r_bipush F dX6_turn_44 (v := 24) (by decide) ?_
    refine r_icmp_ge (tgt := 74) F dX6_turn_46 (by decide) (fun c1 => ?_) (fun c1 => ?_)
    · refine r_aload_n F 0 dX6_turn_74 rfl rfl ?_
      refine gf_X6_48 F dX6_turn_75 (rfl : kd 0 = 0) ?_
      refine r_aload_n F 2 dX6_turn_78 rfl rfl ?_
      refine r_chk (fun h2 => ?_)
      refine gf_X6_109 F dX6_turn_79 (kb_k h2) ?_
      refine r_cS (val := vU) (As := [.ref (gA G 22), .ref (gA G (y3 + 1))]) (rest := []) (fun _ => []) F (c_X6_copyRow F.st F.gg 22 (y3 + 1) M) (fun _ _ => rfl) dX6_turn_82 ml_X6_135 ys_X6_copyRow rfl (by decide) rfl (Nat.le_of_ble_eq_true rfl) (fun _ => rfl) (fun _ M82 => ?_)
      refine r_aload_n F 2 dX6_turn_85 rfl rfl ?_
      refine r_cVN (val := vI) (As := []) (rest := []) (fun q9 => .int q9 :: []) F (c_X3_rightPins F.st F.gg y3 M82) (fun _ _ => rfl) dX6_turn_86 mn_X6_129 yv_X3_rightPins (kb_k h2) (by decide) rfl rfl (by decide) rfl (Nat.le_of_ble_eq_true rfl) (fun _ => rfl) (fun r86 M86 => ?_)
      exact r_iret F rfl dX6_turn_89 rfl
    · refine r_aload_n F 0 dX6_turn_49 rfl rfl ?_
      refine gf_X6_48 F dX6_turn_50 (rfl : kd 0 = 0) ?_
      refine r_iload F 3 dX6_turn_53 rfl ?_
      refine r_iload_n F 1 dX6_turn_55 rfl rfl ?_
      refine r_iadd F dX6_turn_56 ?_
      refine r_bipush F dX6_turn_57 (v := 24) (by decide) ?_
      refine r_irem F dX6_turn_59 (by decide) ?_
      refine r_aload_n F 2 dX6_turn_60 rfl rfl ?_
      refine r_chk (fun h3 => ?_)
      refine gf_X6_109 F dX6_turn_61 (kb_k h3) ?_
      refine r_iload F 3 dX6_turn_64 rfl ?_
      refine r_chk (fun h4 => ?_)
      refine r_iald F dX6_turn_66 (kTd (kb_k h3)) (aTd (kb_k h3)) h4 ?_
      refine r_chk (fun h5 => ?_)
      refine r_iast F dX6_turn_67 (rfl : kd 22 = 8) (rfl : al 22 = 24) h5 (fun M67 => ?_)
      refine r_iinc (ls' := fun q9 => [(4, .int q9), (0, .ref (gA G 0)), (2, .int y2), (3, .ref (gA G y3))]) (k := 3) (v := y4 + (1 : Int32)) F dX6_turn_68 rfl rfl (by decide) (fun _ => rfl) (fun x68 => ?_)
      refine r_goto (tgt := 42) F dX6_turn_71 (by decide) ?_
      refine r_sub [1, 2, 3, 0] rfl ?_
      exact ih y2 y3 x68 M67

def f_X6_turn (a1 : Int32) (a2 : Int32) (M : Mem) : Option ((Int32 ⊕ String) × Mem) := bt (f_X6_checkTown a1 M) fun _ M2 => if a2 < 0 then (f_X6_turn_15   M2) else (if a2 < (24 : Int32) then (bn (f_X6_saveState M2) fun _ M26 => chk (inb a1 6) <| bnd (tw 35 a1) fun b37 => f_X6_turn_42  FU a2 b37 (0 : Int32) M26) else (f_X6_turn_15   M2))

set_option maxRecDepth 100000 in
set_option maxHeartbeats 4000000 in
theorem b_X6_turn {G : GM} {p : Program} {l : Launch} {e : Env} {s : State} {m : MethodId} {args : Array Value} {below : List Frame} {meth : Method} {c : Code} (F : Fx G p l s m args meth c cX6_turn RX6 5 (some .int)) (a1 : Int32) (a2 : Int32) (M : Mem) : Rf G p l e s m args below meth c 10 5 (emT vI) (f_X6_turn a1 a2 M) 0 [(0, .ref (gA G 0)), (1, .int a1), (2, .int a2)] [] M := by
  unfold f_X6_turn
  refine r_aload_n F 0 dX6_turn_0 rfl rfl ?_
  refine r_iload_n F 1 dX6_turn_1 rfl rfl ?_
  refine r_tV (val := vU) (As := [.int a1]) (rest := []) (fun _ => []) F (c_X6_checkTown F.st F.gg a1 M) dX6_turn_2 ml_X6_120 yv_X6_checkTown (rfl : kd 0 = 0) (by decide) rfl rfl (by decide) rfl (Nat.le_of_ble_eq_true rfl) (fun _ => rfl) (fun _ M2 => ?_)
  refine r_iload_n F 2 dX6_turn_5 rfl rfl ?_
  refine r_if_lt (tgt := 15) F dX6_turn_6 (by decide) (fun c1 => ?_) (fun c1 => ?_)
  · refine r_sub [] rfl ?_
    exact l_X6_turn_15 F    M2
  · refine r_iload_n F 2 dX6_turn_9 rfl rfl ?_
    refine r_bipush F dX6_turn_10 (v := 24) (by decide) ?_
    refine r_icmp_lt (tgt := 25) F dX6_turn_12 (by decide) (fun c2 => ?_) (fun c2 => ?_)
    · refine r_aload_n F 0 dX6_turn_25 rfl rfl ?_
      refine r_cV (val := vU) (As := []) (rest := []) (fun _ => []) F (c_X6_saveState F.st F.gg  M2) (fun _ _ => rfl) dX6_turn_26 ml_X6_73 yv_X6_saveState (rfl : kd 0 = 0) (by decide) rfl rfl (by decide) rfl (Nat.le_of_ble_eq_true rfl) (fun _ => rfl) (fun _ M26 => ?_)
      refine r_aload_n F 0 dX6_turn_29 rfl rfl ?_
      refine gf_X6_10 F dX6_turn_30 (rfl : kd 0 = 0) ?_
      refine gf_X6_76 F dX6_turn_33 (rfl : kd 34 = 1) ?_
      refine r_iload_n F 1 dX6_turn_36 rfl rfl ?_
      refine r_chk (fun h3 => ?_)
      refine r_aaldT F dX6_turn_37 (rfl : kd 35 = 9) h3 ?_
      refine r_br (kTw' (rfl : kd 35 = 9) h3) (fun b37 k37 => ?_)
      refine r_astore_n (ls' := [(3, .ref (gA G b37)), (0, .ref (gA G 0)), (1, .int a1), (2, .int a2)]) F dX6_turn_38 rfl (by decide) rfl ?_
      refine r_iconst F dX6_turn_39 (v := 0) (by decide) ?_
      refine r_istore (ls' := [(4, .int (0 : Int32)), (3, .ref (gA G b37)), (0, .ref (gA G 0)), (1, .int a1), (2, .int a2)]) F dX6_turn_40 (by decide) rfl ?_
      refine r_sub [2, 4, 1, 0] rfl ?_
      exact l_X6_turn_42 F   FU a2 b37 (0 : Int32) M26
    · refine r_sub [] rfl ?_
      exact l_X6_turn_15 F    M2

set_option maxRecDepth 100000 in
set_option maxHeartbeats 4000000 in
theorem c_X6_turn {l : Launch} {G : GM} (hl : l.stackTraces = false) (hG : GG G) (a1 : Int32) (a2 : Int32) (M : Mem) : ∀ r, f_X6_turn a1 a2 M = some r → Ctr l G yX6_turn (.code yX6_turn cX6_turn 5 (some .int) :: wsA) 10 [.ref (gA G 0), .int a1, .int a2] M ((emT vI) r) :=
  ctr_of (by decide) hl hG (Nat.le_of_ble_eq_true rfl) (fun p e s m args below meth c F => b_X6_turn F a1 a2 M)

-- ===== X6_undo DrumTowns.undo()I =====
theorem yv_X6_undo : yV yX6_undo cX6_undo 1 (some .int) 0 := ⟨im_X6_undo, sl_X6_undo, ini_X6, cd_X6_undo, ⟨by decide, by decide, by decide +kernel⟩, by decide⟩

def f_X6_undo  (M : Mem) : Option ((Int32 ⊕ String) × Mem) := if 0 < (M.1 0 2) then (bnd (mw M 0 2 ((M.1 0 2) - (1 : Int32))) fun M24 => chk (inb (M24.1 0 2) 6) <| chk (kb (sv M24 1 (M24.1 0 2)) 1) <| bnd (sv M24 1 (M24.1 0 2)) fun b39 => bn (f_X0_takeFrom 34 b39 M24) fun _ M40 => some (.inl (M40.1 0 2), M40)) else (some (.inr exS, M))

set_option maxRecDepth 100000 in
set_option maxHeartbeats 4000000 in
theorem b_X6_undo {G : GM} {p : Program} {l : Launch} {e : Env} {s : State} {m : MethodId} {args : Array Value} {below : List Frame} {meth : Method} {c : Code} (F : Fx G p l s m args meth c cX6_undo RX6 1 (some .int))  (M : Mem) : Rf G p l e s m args below meth c 9 1 (emT vI) (f_X6_undo  M) 0 [(0, .ref (gA G 0))] [] M := by
  unfold f_X6_undo
  refine r_aload_n F 0 dX6_undo_0 rfl rfl ?_
  refine gf_X6_208 F dX6_undo_1 (rfl : kd 0 = 0) ?_
  refine r_if_gt (tgt := 17) F dX6_undo_4 (by decide) (fun c1 => ?_) (fun c1 => ?_)
  · refine r_aload_n F 0 dX6_undo_17 rfl rfl ?_
    refine r_dup F dX6_undo_18 rfl ?_
    refine gf_X6_208 F dX6_undo_19 (rfl : kd 0 = 0) ?_
    refine r_iconst F dX6_undo_22 (v := 1) (by decide) ?_
    refine r_isub F dX6_undo_23 ?_
    refine pf_X6_208 F dX6_undo_24 (rfl : kd 0 = 0) (fun M24 => ?_)
    refine r_aload_n F 0 dX6_undo_27 rfl rfl ?_
    refine gf_X6_10 F dX6_undo_28 (rfl : kd 0 = 0) ?_
    refine r_aload_n F 0 dX6_undo_31 rfl rfl ?_
    refine gf_X6_16 F dX6_undo_32 (rfl : kd 0 = 0) ?_
    refine r_aload_n F 0 dX6_undo_35 rfl rfl ?_
    refine gf_X6_208 F dX6_undo_36 (rfl : kd 0 = 0) ?_
    refine r_chk (fun h2 => ?_)
    refine r_chk (fun h3 => ?_)
    refine r_aaldS F dX6_undo_39 (rfl : kd 1 = 10) h2 ?_
    refine r_br (kb_k h3) (fun b39 k39 => ?_)
    refine r_cVN (val := vU) (As := [.ref (gA G b39)]) (rest := []) (fun _ => []) F (c_X0_takeFrom F.st F.gg 34 b39 M24) (fun _ _ => rfl) dX6_undo_40 mn_X6_213 yv_X0_takeFrom (rfl : kd 34 = 1) (by decide) rfl rfl (by decide) rfl (Nat.le_of_ble_eq_true rfl) (fun _ => rfl) (fun _ M40 => ?_)
    refine r_aload_n F 0 dX6_undo_43 rfl rfl ?_
    refine gf_X6_208 F dX6_undo_44 (rfl : kd 0 = 0) ?_
    exact r_iret F rfl dX6_undo_47 rfl
  · exact r_throw F atS cl_X6_63 ini_IllegalStateException (by decide : (211, "there is no saved state") ∈ strW) dX6_undo_7 dX6_undo_10 dX6_undo_11 dX6_undo_13 dX6_undo_16 (by decide) (Nat.le_of_ble_eq_true rfl)

set_option maxRecDepth 100000 in
set_option maxHeartbeats 4000000 in
theorem c_X6_undo {l : Launch} {G : GM} (hl : l.stackTraces = false) (hG : GG G)  (M : Mem) : ∀ r, f_X6_undo  M = some r → Ctr l G yX6_undo (.code yX6_undo cX6_undo 1 (some .int) :: wsA) 9 [.ref (gA G 0)] M ((emT vI) r) :=
  ctr_of (by decide) hl hG (Nat.le_of_ble_eq_true rfl) (fun p e s m args below meth c F => b_X6_undo F  M)

-- ===== X6_wear DrumTowns.wear(II)I =====
theorem yv_X6_wear : yV yX6_wear cX6_wear 3 (some .int) 2 := ⟨im_X6_wear, sl_X6_wear, ini_X6, cd_X6_wear, ⟨by decide, by decide, by decide +kernel⟩, by decide⟩

def f_X6_wear (a1 : Int32) (a2 : Int32) (M : Mem) : Option ((Int32 ⊕ String) × Mem) := bt (f_X6_checkTown a1 M) fun _ M2 => bt (f_X6_checkTooth a2 M2) fun _ M6 => chk (inb a1 6) <| bnd (tw 35 a1) fun b17 => chk (inb a2 12) <| some (.inl (M6.1 (b17 + 3) a2.toNatClampNeg), M6)

set_option maxRecDepth 100000 in
set_option maxHeartbeats 4000000 in
theorem b_X6_wear {G : GM} {p : Program} {l : Launch} {e : Env} {s : State} {m : MethodId} {args : Array Value} {below : List Frame} {meth : Method} {c : Code} (F : Fx G p l s m args meth c cX6_wear RX6 3 (some .int)) (a1 : Int32) (a2 : Int32) (M : Mem) : Rf G p l e s m args below meth c 7 3 (emT vI) (f_X6_wear a1 a2 M) 0 [(0, .ref (gA G 0)), (1, .int a1), (2, .int a2)] [] M := by
  unfold f_X6_wear
  refine r_aload_n F 0 dX6_wear_0 rfl rfl ?_
  refine r_iload_n F 1 dX6_wear_1 rfl rfl ?_
  refine r_tV (val := vU) (As := [.int a1]) (rest := []) (fun _ => []) F (c_X6_checkTown F.st F.gg a1 M) dX6_wear_2 ml_X6_120 yv_X6_checkTown (rfl : kd 0 = 0) (by decide) rfl rfl (by decide) rfl (Nat.le_of_ble_eq_true rfl) (fun _ => rfl) (fun _ M2 => ?_)
  refine r_iload_n F 2 dX6_wear_5 rfl rfl ?_
  refine r_tS (val := vU) (As := [.int a2]) (rest := []) (fun _ => []) F (c_X6_checkTooth F.st F.gg a2 M2) dX6_wear_6 ml_X6_139 ys_X6_checkTooth rfl (by decide) rfl (Nat.le_of_ble_eq_true rfl) (fun _ => rfl) (fun _ M6 => ?_)
  refine r_aload_n F 0 dX6_wear_9 rfl rfl ?_
  refine gf_X6_10 F dX6_wear_10 (rfl : kd 0 = 0) ?_
  refine gf_X6_76 F dX6_wear_13 (rfl : kd 34 = 1) ?_
  refine r_iload_n F 1 dX6_wear_16 rfl rfl ?_
  refine r_chk (fun h1 => ?_)
  refine r_aaldT F dX6_wear_17 (rfl : kd 35 = 9) h1 ?_
  refine r_br (kTw' (rfl : kd 35 = 9) h1) (fun b17 k17 => ?_)
  refine gf_X6_142 F dX6_wear_18 k17 ?_
  refine r_iload_n F 2 dX6_wear_21 rfl rfl ?_
  refine r_chk (fun h2 => ?_)
  refine r_iald F dX6_wear_22 (kTw k17) (aTw k17) h2 ?_
  exact r_iret F rfl dX6_wear_23 rfl

set_option maxRecDepth 100000 in
set_option maxHeartbeats 4000000 in
theorem c_X6_wear {l : Launch} {G : GM} (hl : l.stackTraces = false) (hG : GG G) (a1 : Int32) (a2 : Int32) (M : Mem) : ∀ r, f_X6_wear a1 a2 M = some r → Ctr l G yX6_wear (.code yX6_wear cX6_wear 3 (some .int) :: wsA) 7 [.ref (gA G 0), .int a1, .int a2] M ((emT vI) r) :=
  ctr_of (by decide) hl hG (Nat.le_of_ble_eq_true rfl) (fun p e s m args below meth c F => b_X6_wear F a1 a2 M)

