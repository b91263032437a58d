-- ===== X7_play DrumTownsModel.play(I)I =====
theorem yv_X7_play : yV yX7_play cX7_play 2 (some .int) 1 := ⟨im_X7_play, sl_X7_play, ini_X7, cd_X7_play, ⟨by decide, by decide, by decide +kernel⟩, by decide⟩

def f_X7_play_14 (y1 : Int32) (z1 : Int32) (M : Mem) : Option (Int32 × Mem) := bnd (mw M 24 2 z1) fun M14 => if (M14.1 24 2) = 0 then (bn (f_X7_keep M14) fun _ M27 => bn (f_X7_playIn (0 : Int32) y1 M27) fun _ M33 => chk (inb ((0 : Int32) + y1) 3424) <| chk (inb ((0 : Int32) + y1) 3424) <| bnd (mw M33 25 ((0 : Int32) + y1).toNatClampNeg ((M33.1 25 ((0 : Int32) + y1).toNatClampNeg) + (M33.1 24 10))) fun M50 => chk (inb ((402 : Int32) + y1) 3424) <| chk (inb ((402 : Int32) + y1) 3424) <| bnd (mw M50 25 ((402 : Int32) + y1).toNatClampNeg ((M50.1 25 ((402 : Int32) + y1).toNatClampNeg) + (1 : Int32))) fun M64 => chk (inb ((408 : Int32) + y1) 3424) <| chk (inb ((408 : Int32) + y1) 3424) <| bnd (mw M64 25 ((408 : Int32) + y1).toNatClampNeg ((M64.1 25 ((408 : Int32) + y1).toNatClampNeg) + (M64.1 24 7))) fun M81 => chk (inb ((414 : Int32) + y1) 3424) <| chk (inb ((414 : Int32) + y1) 3424) <| bnd (mw M81 25 ((414 : Int32) + y1).toNatClampNeg ((M81.1 25 ((414 : Int32) + y1).toNatClampNeg) + (M81.1 24 10))) fun M98 => some ((M98.1 24 7), M98)) else (some ((0 : Int32), M14))

set_option maxRecDepth 100000 in
set_option maxHeartbeats 4000000 in
theorem l_X7_play_14 {G : GM} {p : Program} {l : Launch} {e : Env} {s : State} {m : MethodId} {args : Array Value} {below : List Frame} {meth : Method} {c : Code} (F : Fx G p l s m args meth c cX7_play RX7 2 (some .int)) (y1 : Int32) (z1 : Int32) (M : Mem) : Rf G p l e s m args below meth c 9 2 emI (f_X7_play_14  y1 z1 M) 14 [(0, .ref (gA G 24)), (1, .int y1)] [.int z1, .ref (gA G 24)] M := by
  unfold f_X7_play_14
  refine pf_X7_37 F dX7_play_14 (rfl : kd 24 = 7) (fun M14 => ?_)
  refine r_aload_n F 0 dX7_play_17 rfl rfl ?_
  refine gf_X7_37 F dX7_play_18 (rfl : kd 24 = 7) ?_
  refine r_if_eq (tgt := 26) F dX7_play_21 (by decide) (fun c1 => ?_) (fun c1 => ?_)
  · refine r_aload_n F 0 dX7_play_26 rfl rfl ?_
    refine r_cV (val := vU) (As := []) (rest := []) (fun _ => []) F (c_X7_keep F.st F.gg  M14) (fun _ _ => rfl) dX7_play_27 ml_X7_64 yv_X7_keep (rfl : kd 24 = 7) (by decide) rfl rfl (by decide) rfl (Nat.le_of_ble_eq_true rfl) (fun _ => rfl) (fun _ M27 => ?_)
    refine r_aload_n F 0 dX7_play_30 rfl rfl ?_
    refine r_iconst F dX7_play_31 (v := 0) (by decide) ?_
    refine r_iload_n F 1 dX7_play_32 rfl rfl ?_
    refine r_cV (val := vU) (As := [.int (0 : Int32), .int y1]) (rest := []) (fun _ => []) F (c_X7_playIn F.st F.gg (0 : Int32) y1 M27) (fun _ _ => rfl) dX7_play_33 ml_X7_100 yv_X7_playIn (rfl : kd 24 = 7) (by decide) rfl rfl (by decide) rfl (Nat.le_of_ble_eq_true rfl) (fun _ => rfl) (fun _ M33 => ?_)
    refine r_aload_n F 0 dX7_play_36 rfl rfl ?_
    refine gf_X7_7 F dX7_play_37 (rfl : kd 24 = 7) ?_
    refine r_iconst F dX7_play_40 (v := 0) (by decide) ?_
    refine r_iload_n F 1 dX7_play_41 rfl rfl ?_
    refine r_iadd F dX7_play_42 ?_
    refine r_dup2 F dX7_play_43 rfl rfl ?_
    refine r_chk (fun h2 => ?_)
    refine r_iald F dX7_play_44 (rfl : kd 25 = 8) (rfl : al 25 = 3424) h2 ?_
    refine r_aload_n F 0 dX7_play_45 rfl rfl ?_
    refine gf_X7_81 F dX7_play_46 (rfl : kd 24 = 7) ?_
    refine r_iadd F dX7_play_49 ?_
    refine r_chk (fun h3 => ?_)
    refine r_iast F dX7_play_50 (rfl : kd 25 = 8) (rfl : al 25 = 3424) h3 (fun M50 => ?_)
    refine r_aload_n F 0 dX7_play_51 rfl rfl ?_
    refine gf_X7_7 F dX7_play_52 (rfl : kd 24 = 7) ?_
    refine r_sipush F dX7_play_55 (v := 402) (by decide) ?_
    refine r_iload_n F 1 dX7_play_58 rfl rfl ?_
    refine r_iadd F dX7_play_59 ?_
    refine r_dup2 F dX7_play_60 rfl rfl ?_
    refine r_chk (fun h4 => ?_)
    refine r_iald F dX7_play_61 (rfl : kd 25 = 8) (rfl : al 25 = 3424) h4 ?_
    refine r_iconst F dX7_play_62 (v := 1) (by decide) ?_
    refine r_iadd F dX7_play_63 ?_
    refine r_chk (fun h5 => ?_)
    refine r_iast F dX7_play_64 (rfl : kd 25 = 8) (rfl : al 25 = 3424) h5 (fun M64 => ?_)
    refine r_aload_n F 0 dX7_play_65 rfl rfl ?_
    refine gf_X7_7 F dX7_play_66 (rfl : kd 24 = 7) ?_
    refine r_sipush F dX7_play_69 (v := 408) (by decide) ?_
    refine r_iload_n F 1 dX7_play_72 rfl rfl ?_
    refine r_iadd F dX7_play_73 ?_
    refine r_dup2 F dX7_play_74 rfl rfl ?_
    refine r_chk (fun h6 => ?_)
    refine r_iald F dX7_play_75 (rfl : kd 25 = 8) (rfl : al 25 = 3424) h6 ?_
    refine r_aload_n F 0 dX7_play_76 rfl rfl ?_
    refine gf_X7_90 F dX7_play_77 (rfl : kd 24 = 7) ?_
    refine r_iadd F dX7_play_80 ?_
    refine r_chk (fun h7 => ?_)
    refine r_iast F dX7_play_81 (rfl : kd 25 = 8) (rfl : al 25 = 3424) h7 (fun M81 => ?_)
    refine r_aload_n F 0 dX7_play_82 rfl rfl ?_
    refine gf_X7_7 F dX7_play_83 (rfl : kd 24 = 7) ?_
    refine r_sipush F dX7_play_86 (v := 414) (by decide) ?_
    refine r_iload_n F 1 dX7_play_89 rfl rfl ?_
    refine r_iadd F dX7_play_90 ?_
    refine r_dup2 F dX7_play_91 rfl rfl ?_
    refine r_chk (fun h8 => ?_)
    refine r_iald F dX7_play_92 (rfl : kd 25 = 8) (rfl : al 25 = 3424) h8 ?_
    refine r_aload_n F 0 dX7_play_93 rfl rfl ?_
    refine gf_X7_81 F dX7_play_94 (rfl : kd 24 = 7) ?_
    refine r_iadd F dX7_play_97 ?_
    refine r_chk (fun h9 => ?_)
    refine r_iast F dX7_play_98 (rfl : kd 25 = 8) (rfl : al 25 = 3424) h9 (fun M98 => ?_)
    refine r_aload_n F 0 dX7_play_99 rfl rfl ?_
    refine gf_X7_90 F dX7_play_100 (rfl : kd 24 = 7) ?_
    exact r_iret F rfl dX7_play_103 rfl
  · refine r_iconst F dX7_play_24 (v := 0) (by decide) ?_
    exact r_iret F rfl dX7_play_25 rfl

def f_X7_play (a1 : Int32) (M : Mem) : Option (Int32 × Mem) := bn (f_X7_isTown a1 M) fun r3 M3 => if r3 = 0 then (f_X7_play_14  a1 (1 : Int32) M3) else (f_X7_play_14  a1 (0 : Int32) M3)

set_option maxRecDepth 100000 in
set_option maxHeartbeats 4000000 in
theorem b_X7_play {G : GM} {p : Program} {l : Launch} {e : Env} {s : State} {m : MethodId} {args : Array Value} {below : List Frame} {meth : Method} {c : Code} (F : Fx G p l s m args meth c cX7_play RX7 2 (some .int)) (a1 : Int32) (M : Mem) : Rf G p l e s m args below meth c 9 2 emI (f_X7_play a1 M) 0 [(0, .ref (gA G 24)), (1, .int a1)] [] M := by
  unfold f_X7_play
  refine r_aload_n F 0 dX7_play_0 rfl rfl ?_
  refine r_aload_n F 0 dX7_play_1 rfl rfl ?_
  refine r_iload_n F 1 dX7_play_2 rfl rfl ?_
  refine r_cV (val := vI) (As := [.int a1]) (rest := [.ref (gA G 24)]) (fun q9 => .int q9 :: [.ref (gA G 24)]) F (c_X7_isTown F.st F.gg a1 M) (fun _ _ => rfl) dX7_play_3 ml_X7_45 yv_X7_isTown (rfl : kd 24 = 7) (by decide) rfl rfl (by decide) rfl (Nat.le_of_ble_eq_true rfl) (fun _ => rfl) (fun r3 M3 => ?_)
  refine r_if_eq (tgt := 13) F dX7_play_6 (by decide) (fun c1 => ?_) (fun c1 => ?_)
  · refine r_iconst F dX7_play_13 (v := 1) (by decide) ?_
    refine r_sub [0, 1] rfl ?_
    exact l_X7_play_14 F   a1 (1 : Int32) M3
  · refine r_iconst F dX7_play_9 (v := 0) (by decide) ?_
    refine r_goto (tgt := 14) F dX7_play_10 (by decide) ?_
    refine r_sub [0, 1] rfl ?_
    exact l_X7_play_14 F   a1 (0 : Int32) M3

set_option maxRecDepth 100000 in
set_option maxHeartbeats 4000000 in
theorem c_X7_play {l : Launch} {G : GM} (hl : l.stackTraces = false) (hG : GG G) (a1 : Int32) (M : Mem) : ∀ r, f_X7_play a1 M = some r → Ctr l G yX7_play (.code yX7_play cX7_play 2 (some .int) :: wsA) 9 [.ref (gA G 24), .int a1] M (emI r) :=
  ctr_of (by decide) hl hG (Nat.le_of_ble_eq_true rfl) (fun p e s m args below meth c F => b_X7_play F a1 M)

-- ===== X7_pull DrumTownsModel.pull(III)I =====
theorem yv_X7_pull : yV yX7_pull cX7_pull 4 (some .int) 3 := ⟨im_X7_pull, sl_X7_pull, ini_X7, cd_X7_pull, ⟨by decide, by decide, by decide +kernel⟩, by decide⟩

def f_X7_pull_58 (y1 : Int32) (y2 : Int32) (y3 : Int32) (z1 : Int32) (M : Mem) : Option (Int32 × Mem) := bnd (mw M 24 2 z1) fun M58 => if (M58.1 24 2) = 0 then (bn (f_X7_keep M58) fun _ M71 => bn (f_X7_at (6 : Int32) y1 y2 M71) fun r82 M82 => chk (inb r82 3424) <| chk (inb r82 3424) <| bnd (mw M82 25 r82.toNatClampNeg ((M82.1 25 r82.toNatClampNeg) &&& (((1 : Int32) <<< (y3 &&& 31)) ^^^ (-1 : Int32)))) fun M93 => chk (inb ((0 : Int32) + y1) 3424) <| chk (inb ((0 : Int32) + y1) 3424) <| bnd (mw M93 25 ((0 : Int32) + y1).toNatClampNeg ((M93.1 25 ((0 : Int32) + y1).toNatClampNeg) + (1 : Int32))) fun M105 => chk (inb ((0 : Int32) + y1) 3424) <| some ((M105.1 25 ((0 : Int32) + y1).toNatClampNeg), M105)) else (some ((0 : Int32), M58))

set_option maxRecDepth 100000 in
set_option maxHeartbeats 4000000 in
theorem l_X7_pull_58 {G : GM} {p : Program} {l : Launch} {e : Env} {s : State} {m : MethodId} {args : Array Value} {below : List Frame} {meth : Method} {c : Code} (F : Fx G p l s m args meth c cX7_pull RX7 4 (some .int)) (y1 : Int32) (y2 : Int32) (y3 : Int32) (z1 : Int32) (M : Mem) : Rf G p l e s m args below meth c 9 4 emI (f_X7_pull_58  y1 y2 y3 z1 M) 58 [(0, .ref (gA G 24)), (1, .int y1), (2, .int y2), (3, .int y3)] [.int z1, .ref (gA G 24)] M := by
  unfold f_X7_pull_58
  refine pf_X7_37 F dX7_pull_58 (rfl : kd 24 = 7) (fun M58 => ?_)
  refine r_aload_n F 0 dX7_pull_61 rfl rfl ?_
  refine gf_X7_37 F dX7_pull_62 (rfl : kd 24 = 7) ?_
  refine r_if_eq (tgt := 70) F dX7_pull_65 (by decide) (fun c1 => ?_) (fun c1 => ?_)
  · refine r_aload_n F 0 dX7_pull_70 rfl rfl ?_
    refine r_cV (val := vU) (As := []) (rest := []) (fun _ => []) F (c_X7_keep F.st F.gg  M58) (fun _ _ => rfl) dX7_pull_71 ml_X7_64 yv_X7_keep (rfl : kd 24 = 7) (by decide) rfl rfl (by decide) rfl (Nat.le_of_ble_eq_true rfl) (fun _ => rfl) (fun _ M71 => ?_)
    refine r_aload_n F 0 dX7_pull_74 rfl rfl ?_
    refine gf_X7_7 F dX7_pull_75 (rfl : kd 24 = 7) ?_
    refine r_bipush F dX7_pull_78 (v := 6) (by decide) ?_
    refine r_iload_n F 1 dX7_pull_80 rfl rfl ?_
    refine r_iload_n F 2 dX7_pull_81 rfl rfl ?_
    refine r_cS (val := vI) (As := [.int (6 : Int32), .int y1, .int y2]) (rest := [.ref (gA G 25)]) (fun q9 => .int q9 :: [.ref (gA G 25)]) F (c_X7_at F.st F.gg (6 : Int32) y1 y2 M71) (fun _ _ => rfl) dX7_pull_82 ml_X7_56 ys_X7_at rfl (by decide) rfl (Nat.le_of_ble_eq_true rfl) (fun _ => rfl) (fun r82 M82 => ?_)
    refine r_dup2 F dX7_pull_85 rfl rfl ?_
    refine r_chk (fun h2 => ?_)
    refine r_iald F dX7_pull_86 (rfl : kd 25 = 8) (rfl : al 25 = 3424) h2 ?_
    refine r_iconst F dX7_pull_87 (v := 1) (by decide) ?_
    refine r_iload_n F 3 dX7_pull_88 rfl rfl ?_
    refine r_ishl F dX7_pull_89 ?_
    refine r_iconst F dX7_pull_90 (v := -1) (by decide) ?_
    refine r_ixor F dX7_pull_91 ?_
    refine r_iand F dX7_pull_92 ?_
    refine r_chk (fun h3 => ?_)
    refine r_iast F dX7_pull_93 (rfl : kd 25 = 8) (rfl : al 25 = 3424) h3 (fun M93 => ?_)
    refine r_aload_n F 0 dX7_pull_94 rfl rfl ?_
    refine gf_X7_7 F dX7_pull_95 (rfl : kd 24 = 7) ?_
    refine r_iconst F dX7_pull_98 (v := 0) (by decide) ?_
    refine r_iload_n F 1 dX7_pull_99 rfl rfl ?_
    refine r_iadd F dX7_pull_100 ?_
    refine r_dup2 F dX7_pull_101 rfl rfl ?_
    refine r_chk (fun h4 => ?_)
    refine r_iald F dX7_pull_102 (rfl : kd 25 = 8) (rfl : al 25 = 3424) h4 ?_
    refine r_iconst F dX7_pull_103 (v := 1) (by decide) ?_
    refine r_iadd F dX7_pull_104 ?_
    refine r_chk (fun h5 => ?_)
    refine r_iast F dX7_pull_105 (rfl : kd 25 = 8) (rfl : al 25 = 3424) h5 (fun M105 => ?_)
    refine r_aload_n F 0 dX7_pull_106 rfl rfl ?_
    refine gf_X7_7 F dX7_pull_107 (rfl : kd 24 = 7) ?_
    refine r_iconst F dX7_pull_110 (v := 0) (by decide) ?_
    refine r_iload_n F 1 dX7_pull_111 rfl rfl ?_
    refine r_iadd F dX7_pull_112 ?_
    refine r_chk (fun h6 => ?_)
    refine r_iald F dX7_pull_113 (rfl : kd 25 = 8) (rfl : al 25 = 3424) h6 ?_
    exact r_iret F rfl dX7_pull_114 rfl
  · refine r_iconst F dX7_pull_68 (v := 0) (by decide) ?_
    exact r_iret F rfl dX7_pull_69 rfl

def f_X7_pull_53 (y1 : Int32) (y2 : Int32) (y3 : Int32) (M : Mem) : Option (Int32 × Mem) := f_X7_pull_58  y1 y2 y3 (2 : Int32) M

set_option maxRecDepth 100000 in
set_option maxHeartbeats 4000000 in
theorem l_X7_pull_53 {G : GM} {p : Program} {l : Launch} {e : Env} {s : State} {m : MethodId} {args : Array Value} {below : List Frame} {meth : Method} {c : Code} (F : Fx G p l s m args meth c cX7_pull RX7 4 (some .int)) (y1 : Int32) (y2 : Int32) (y3 : Int32) (M : Mem) : Rf G p l e s m args below meth c 9 4 emI (f_X7_pull_53  y1 y2 y3 M) 53 [(0, .ref (gA G 24)), (1, .int y1), (2, .int y2), (3, .int y3)] [.ref (gA G 24)] M := by
  unfold f_X7_pull_53
  refine r_iconst F dX7_pull_53 (v := 2) (by decide) ?_
  refine r_goto (tgt := 58) F dX7_pull_54 (by decide) ?_
  refine r_sub [0, 1, 2, 3] rfl ?_
  exact l_X7_pull_58 F   y1 y2 y3 (2 : Int32) M

def f_X7_pull (a1 : Int32) (a2 : Int32) (a3 : Int32) (M : Mem) : Option (Int32 × Mem) := bn (f_X7_isPlace a1 a2 a3 M) fun r5 M5 => if r5 = 0 then (f_X7_pull_58  a1 a2 a3 (1 : Int32) M5) else (bn (f_X7_at (6 : Int32) a1 a2 M5) fun r23 M23 => chk (inb r23 3424) <| bn (f_X7_has (M23.1 25 r23.toNatClampNeg) a3 M23) fun r28 M28 => if r28 = 0 then (f_X7_pull_53  a1 a2 a3 M28) else (chk (inb ((0 : Int32) + a1) 3424) <| chk (inb (422 : Int32) 3424) <| if (M28.1 25 ((0 : Int32) + a1).toNatClampNeg) < (M28.1 25 (422 : Int32).toNatClampNeg) then (f_X7_pull_58  a1 a2 a3 (0 : Int32) M28) else (f_X7_pull_53  a1 a2 a3 M28)))

set_option maxRecDepth 100000 in
set_option maxHeartbeats 4000000 in
theorem b_X7_pull {G : GM} {p : Program} {l : Launch} {e : Env} {s : State} {m : MethodId} {args : Array Value} {below : List Frame} {meth : Method} {c : Code} (F : Fx G p l s m args meth c cX7_pull RX7 4 (some .int)) (a1 : Int32) (a2 : Int32) (a3 : Int32) (M : Mem) : Rf G p l e s m args below meth c 9 4 emI (f_X7_pull a1 a2 a3 M) 0 [(0, .ref (gA G 24)), (1, .int a1), (2, .int a2), (3, .int a3)] [] M := by
  unfold f_X7_pull
  refine r_aload_n F 0 dX7_pull_0 rfl rfl ?_
  refine r_aload_n F 0 dX7_pull_1 rfl rfl ?_
  refine r_iload_n F 1 dX7_pull_2 rfl rfl ?_
  refine r_iload_n F 2 dX7_pull_3 rfl rfl ?_
  refine r_iload_n F 3 dX7_pull_4 rfl rfl ?_
  refine r_cV (val := vI) (As := [.int a1, .int a2, .int a3]) (rest := [.ref (gA G 24)]) (fun q9 => .int q9 :: [.ref (gA G 24)]) F (c_X7_isPlace F.st F.gg a1 a2 a3 M) (fun _ _ => rfl) dX7_pull_5 ml_X7_67 yv_X7_isPlace (rfl : kd 24 = 7) (by decide) rfl rfl (by decide) rfl (Nat.le_of_ble_eq_true rfl) (fun _ => rfl) (fun r5 M5 => ?_)
  refine r_if_ne (tgt := 15) F dX7_pull_8 (by decide) (fun c1 => ?_) (fun c1 => ?_)
  · refine r_iconst F dX7_pull_11 (v := 1) (by decide) ?_
    refine r_goto (tgt := 58) F dX7_pull_12 (by decide) ?_
    refine r_sub [0, 1, 2, 3] rfl ?_
    exact l_X7_pull_58 F   a1 a2 a3 (1 : Int32) M5
  · refine r_aload_n F 0 dX7_pull_15 rfl rfl ?_
    refine gf_X7_7 F dX7_pull_16 (rfl : kd 24 = 7) ?_
    refine r_bipush F dX7_pull_19 (v := 6) (by decide) ?_
    refine r_iload_n F 1 dX7_pull_21 rfl rfl ?_
    refine r_iload_n F 2 dX7_pull_22 rfl rfl ?_
    refine r_cS (val := vI) (As := [.int (6 : Int32), .int a1, .int a2]) (rest := [.ref (gA G 25), .ref (gA G 24)]) (fun q9 => .int q9 :: [.ref (gA G 25), .ref (gA G 24)]) F (c_X7_at F.st F.gg (6 : Int32) a1 a2 M5) (fun _ _ => rfl) dX7_pull_23 ml_X7_56 ys_X7_at rfl (by decide) rfl (Nat.le_of_ble_eq_true rfl) (fun _ => rfl) (fun r23 M23 => ?_)
    refine r_chk (fun h2 => ?_)
    refine r_iald F dX7_pull_26 (rfl : kd 25 = 8) (rfl : al 25 = 3424) h2 ?_
    refine r_iload_n F 3 dX7_pull_27 rfl rfl ?_
    refine r_cS (val := vI) (As := [.int (M23.1 25 r23.toNatClampNeg), .int a3]) (rest := [.ref (gA G 24)]) (fun q9 => .int q9 :: [.ref (gA G 24)]) F (c_X7_has F.st F.gg (M23.1 25 r23.toNatClampNeg) a3 M23) (fun _ _ => rfl) dX7_pull_28 ml_X7_70 ys_X7_has rfl (by decide) rfl (Nat.le_of_ble_eq_true rfl) (fun _ => rfl) (fun r28 M28 => ?_)
    refine r_if_eq (tgt := 53) F dX7_pull_31 (by decide) (fun c3 => ?_) (fun c3 => ?_)
    · refine r_sub [0, 1, 2, 3] rfl ?_
      exact l_X7_pull_53 F   a1 a2 a3 M28
    · refine r_aload_n F 0 dX7_pull_34 rfl rfl ?_
      refine gf_X7_7 F dX7_pull_35 (rfl : kd 24 = 7) ?_
      refine r_iconst F dX7_pull_38 (v := 0) (by decide) ?_
      refine r_iload_n F 1 dX7_pull_39 rfl rfl ?_
      refine r_iadd F dX7_pull_40 ?_
      refine r_chk (fun h4 => ?_)
      refine r_iald F dX7_pull_41 (rfl : kd 25 = 8) (rfl : al 25 = 3424) h4 ?_
      refine r_aload_n F 0 dX7_pull_42 rfl rfl ?_
      refine gf_X7_7 F dX7_pull_43 (rfl : kd 24 = 7) ?_
      refine r_sipush F dX7_pull_46 (v := 422) (by decide) ?_
      refine r_chk (fun h5 => ?_)
      refine r_iald F dX7_pull_49 (rfl : kd 25 = 8) (rfl : al 25 = 3424) h5 ?_
      refine r_icmp_lt (tgt := 57) F dX7_pull_50 (by decide) (fun c6 => ?_) (fun c6 => ?_)
      · refine r_iconst F dX7_pull_57 (v := 0) (by decide) ?_
        refine r_sub [0, 1, 2, 3] rfl ?_
        exact l_X7_pull_58 F   a1 a2 a3 (0 : Int32) M28
      · refine r_sub [0, 1, 2, 3] rfl ?_
        exact l_X7_pull_53 F   a1 a2 a3 M28

set_option maxRecDepth 100000 in
set_option maxHeartbeats 4000000 in
theorem c_X7_pull {l : Launch} {G : GM} (hl : l.stackTraces = false) (hG : GG G) (a1 : Int32) (a2 : Int32) (a3 : Int32) (M : Mem) : ∀ r, f_X7_pull a1 a2 a3 M = some r → Ctr l G yX7_pull (.code yX7_pull cX7_pull 4 (some .int) :: wsA) 9 [.ref (gA G 24), .int a1, .int a2, .int a3] M (emI r) :=
  ctr_of (by decide) hl hG (Nat.le_of_ble_eq_true rfl) (fun p e s m args below meth c F => b_X7_pull F a1 a2 a3 M)

-- ===== X7_put DrumTownsModel.put(III)I =====
theorem yv_X7_put : yV yX7_put cX7_put 4 (some .int) 3 := ⟨im_X7_put, sl_X7_put, ini_X7, cd_X7_put, ⟨by decide, by decide, by decide +kernel⟩, by decide⟩

def f_X7_put_50 (y1 : Int32) (y2 : Int32) (y3 : Int32) (z1 : Int32) (M : Mem) : Option (Int32 × Mem) := bnd (mw M 24 2 z1) fun M50 => if (M50.1 24 2) = 0 then (bn (f_X7_keep M50) fun _ M63 => bn (f_X7_at (6 : Int32) y1 y2 M63) fun r74 M74 => chk (inb r74 3424) <| chk (inb r74 3424) <| bnd (mw M74 25 r74.toNatClampNeg ((M74.1 25 r74.toNatClampNeg) ||| ((1 : Int32) <<< (y3 &&& 31)))) fun M83 => chk (inb ((0 : Int32) + y1) 3424) <| chk (inb ((0 : Int32) + y1) 3424) <| bnd (mw M83 25 ((0 : Int32) + y1).toNatClampNeg ((M83.1 25 ((0 : Int32) + y1).toNatClampNeg) - (1 : Int32))) fun M95 => bn (f_X7_pinsOf (6 : Int32) y1 M95) fun r100 M100 => some (r100, M100)) else (some ((0 : Int32), M50))

set_option maxRecDepth 100000 in
set_option maxHeartbeats 4000000 in
theorem l_X7_put_50 {G : GM} {p : Program} {l : Launch} {e : Env} {s : State} {m : MethodId} {args : Array Value} {below : List Frame} {meth : Method} {c : Code} (F : Fx G p l s m args meth c cX7_put RX7 4 (some .int)) (y1 : Int32) (y2 : Int32) (y3 : Int32) (z1 : Int32) (M : Mem) : Rf G p l e s m args below meth c 9 4 emI (f_X7_put_50  y1 y2 y3 z1 M) 50 [(0, .ref (gA G 24)), (1, .int y1), (2, .int y2), (3, .int y3)] [.int z1, .ref (gA G 24)] M := by
  unfold f_X7_put_50
  refine pf_X7_37 F dX7_put_50 (rfl : kd 24 = 7) (fun M50 => ?_)
  refine r_aload_n F 0 dX7_put_53 rfl rfl ?_
  refine gf_X7_37 F dX7_put_54 (rfl : kd 24 = 7) ?_
  refine r_if_eq (tgt := 62) F dX7_put_57 (by decide) (fun c1 => ?_) (fun c1 => ?_)
  · refine r_aload_n F 0 dX7_put_62 rfl rfl ?_
    refine r_cV (val := vU) (As := []) (rest := []) (fun _ => []) F (c_X7_keep F.st F.gg  M50) (fun _ _ => rfl) dX7_put_63 ml_X7_64 yv_X7_keep (rfl : kd 24 = 7) (by decide) rfl rfl (by decide) rfl (Nat.le_of_ble_eq_true rfl) (fun _ => rfl) (fun _ M63 => ?_)
    refine r_aload_n F 0 dX7_put_66 rfl rfl ?_
    refine gf_X7_7 F dX7_put_67 (rfl : kd 24 = 7) ?_
    refine r_bipush F dX7_put_70 (v := 6) (by decide) ?_
    refine r_iload_n F 1 dX7_put_72 rfl rfl ?_
    refine r_iload_n F 2 dX7_put_73 rfl rfl ?_
    refine r_cS (val := vI) (As := [.int (6 : Int32), .int y1, .int y2]) (rest := [.ref (gA G 25)]) (fun q9 => .int q9 :: [.ref (gA G 25)]) F (c_X7_at F.st F.gg (6 : Int32) y1 y2 M63) (fun _ _ => rfl) dX7_put_74 ml_X7_56 ys_X7_at rfl (by decide) rfl (Nat.le_of_ble_eq_true rfl) (fun _ => rfl) (fun r74 M74 => ?_)
    refine r_dup2 F dX7_put_77 rfl rfl ?_
    refine r_chk (fun h2 => ?_)
    refine r_iald F dX7_put_78 (rfl : kd 25 = 8) (rfl : al 25 = 3424) h2 ?_
    refine r_iconst F dX7_put_79 (v := 1) (by decide) ?_
    refine r_iload_n F 3 dX7_put_80 rfl rfl ?_
    refine r_ishl F dX7_put_81 ?_
    refine r_ior F dX7_put_82 ?_
    refine r_chk (fun h3 => ?_)
    refine r_iast F dX7_put_83 (rfl : kd 25 = 8) (rfl : al 25 = 3424) h3 (fun M83 => ?_)
    refine r_aload_n F 0 dX7_put_84 rfl rfl ?_
    refine gf_X7_7 F dX7_put_85 (rfl : kd 24 = 7) ?_
    refine r_iconst F dX7_put_88 (v := 0) (by decide) ?_
    refine r_iload_n F 1 dX7_put_89 rfl rfl ?_
    refine r_iadd F dX7_put_90 ?_
    refine r_dup2 F dX7_put_91 rfl rfl ?_
    refine r_chk (fun h4 => ?_)
    refine r_iald F dX7_put_92 (rfl : kd 25 = 8) (rfl : al 25 = 3424) h4 ?_
    refine r_iconst F dX7_put_93 (v := 1) (by decide) ?_
    refine r_isub F dX7_put_94 ?_
    refine r_chk (fun h5 => ?_)
    refine r_iast F dX7_put_95 (rfl : kd 25 = 8) (rfl : al 25 = 3424) h5 (fun M95 => ?_)
    refine r_aload_n F 0 dX7_put_96 rfl rfl ?_
    refine r_bipush F dX7_put_97 (v := 6) (by decide) ?_
    refine r_iload_n F 1 dX7_put_99 rfl rfl ?_
    refine r_cV (val := vI) (As := [.int (6 : Int32), .int y1]) (rest := []) (fun q9 => .int q9 :: []) F (c_X7_pinsOf F.st F.gg (6 : Int32) y1 M95) (fun _ _ => rfl) dX7_put_100 ml_X7_74 yv_X7_pinsOf (rfl : kd 24 = 7) (by decide) rfl rfl (by decide) rfl (Nat.le_of_ble_eq_true rfl) (fun _ => rfl) (fun r100 M100 => ?_)
    exact r_iret F rfl dX7_put_103 rfl
  · refine r_iconst F dX7_put_60 (v := 0) (by decide) ?_
    exact r_iret F rfl dX7_put_61 rfl

def f_X7_put_45 (y1 : Int32) (y2 : Int32) (y3 : Int32) (M : Mem) : Option (Int32 × Mem) := f_X7_put_50  y1 y2 y3 (2 : Int32) M

set_option maxRecDepth 100000 in
set_option maxHeartbeats 4000000 in
theorem l_X7_put_45 {G : GM} {p : Program} {l : Launch} {e : Env} {s : State} {m : MethodId} {args : Array Value} {below : List Frame} {meth : Method} {c : Code} (F : Fx G p l s m args meth c cX7_put RX7 4 (some .int)) (y1 : Int32) (y2 : Int32) (y3 : Int32) (M : Mem) : Rf G p l e s m args below meth c 9 4 emI (f_X7_put_45  y1 y2 y3 M) 45 [(0, .ref (gA G 24)), (1, .int y1), (2, .int y2), (3, .int y3)] [.ref (gA G 24)] M := by
  unfold f_X7_put_45
  refine r_iconst F dX7_put_45 (v := 2) (by decide) ?_
  refine r_goto (tgt := 50) F dX7_put_46 (by decide) ?_
  refine r_sub [0, 1, 2, 3] rfl ?_
  exact l_X7_put_50 F   y1 y2 y3 (2 : Int32) M

def f_X7_put (a1 : Int32) (a2 : Int32) (a3 : Int32) (M : Mem) : Option (Int32 × Mem) := bn (f_X7_isPlace a1 a2 a3 M) fun r5 M5 => if r5 = 0 then (f_X7_put_50  a1 a2 a3 (1 : Int32) M5) else (bn (f_X7_at (6 : Int32) a1 a2 M5) fun r23 M23 => chk (inb r23 3424) <| bn (f_X7_has (M23.1 25 r23.toNatClampNeg) a3 M23) fun r28 M28 => if r28 = 0 then (chk (inb ((0 : Int32) + a1) 3424) <| if (M28.1 25 ((0 : Int32) + a1).toNatClampNeg) = 0 then (f_X7_put_45  a1 a2 a3 M28) else (f_X7_put_50  a1 a2 a3 (0 : Int32) M28)) else (f_X7_put_45  a1 a2 a3 M28))

set_option maxRecDepth 100000 in
set_option maxHeartbeats 4000000 in
theorem b_X7_put {G : GM} {p : Program} {l : Launch} {e : Env} {s : State} {m : MethodId} {args : Array Value} {below : List Frame} {meth : Method} {c : Code} (F : Fx G p l s m args meth c cX7_put RX7 4 (some .int)) (a1 : Int32) (a2 : Int32) (a3 : Int32) (M : Mem) : Rf G p l e s m args below meth c 9 4 emI (f_X7_put a1 a2 a3 M) 0 [(0, .ref (gA G 24)), (1, .int a1), (2, .int a2), (3, .int a3)] [] M := by
  unfold f_X7_put
  refine r_aload_n F 0 dX7_put_0 rfl rfl ?_
  refine r_aload_n F 0 dX7_put_1 rfl rfl ?_
  refine r_iload_n F 1 dX7_put_2 rfl rfl ?_
  refine r_iload_n F 2 dX7_put_3 rfl rfl ?_
  refine r_iload_n F 3 dX7_put_4 rfl rfl ?_
  refine r_cV (val := vI) (As := [.int a1, .int a2, .int a3]) (rest := [.ref (gA G 24)]) (fun q9 => .int q9 :: [.ref (gA G 24)]) F (c_X7_isPlace F.st F.gg a1 a2 a3 M) (fun _ _ => rfl) dX7_put_5 ml_X7_67 yv_X7_isPlace (rfl : kd 24 = 7) (by decide) rfl rfl (by decide) rfl (Nat.le_of_ble_eq_true rfl) (fun _ => rfl) (fun r5 M5 => ?_)
  refine r_if_ne (tgt := 15) F dX7_put_8 (by decide) (fun c1 => ?_) (fun c1 => ?_)
  · refine r_iconst F dX7_put_11 (v := 1) (by decide) ?_
    refine r_goto (tgt := 50) F dX7_put_12 (by decide) ?_
    refine r_sub [0, 1, 2, 3] rfl ?_
    exact l_X7_put_50 F   a1 a2 a3 (1 : Int32) M5
  · refine r_aload_n F 0 dX7_put_15 rfl rfl ?_
    refine gf_X7_7 F dX7_put_16 (rfl : kd 24 = 7) ?_
    refine r_bipush F dX7_put_19 (v := 6) (by decide) ?_
    refine r_iload_n F 1 dX7_put_21 rfl rfl ?_
    refine r_iload_n F 2 dX7_put_22 rfl rfl ?_
    refine r_cS (val := vI) (As := [.int (6 : Int32), .int a1, .int a2]) (rest := [.ref (gA G 25), .ref (gA G 24)]) (fun q9 => .int q9 :: [.ref (gA G 25), .ref (gA G 24)]) F (c_X7_at F.st F.gg (6 : Int32) a1 a2 M5) (fun _ _ => rfl) dX7_put_23 ml_X7_56 ys_X7_at rfl (by decide) rfl (Nat.le_of_ble_eq_true rfl) (fun _ => rfl) (fun r23 M23 => ?_)
    refine r_chk (fun h2 => ?_)
    refine r_iald F dX7_put_26 (rfl : kd 25 = 8) (rfl : al 25 = 3424) h2 ?_
    refine r_iload_n F 3 dX7_put_27 rfl rfl ?_
    refine r_cS (val := vI) (As := [.int (M23.1 25 r23.toNatClampNeg), .int a3]) (rest := [.ref (gA G 24)]) (fun q9 => .int q9 :: [.ref (gA G 24)]) F (c_X7_has F.st F.gg (M23.1 25 r23.toNatClampNeg) a3 M23) (fun _ _ => rfl) dX7_put_28 ml_X7_70 ys_X7_has rfl (by decide) rfl (Nat.le_of_ble_eq_true rfl) (fun _ => rfl) (fun r28 M28 => ?_)
    refine r_if_ne (tgt := 45) F dX7_put_31 (by decide) (fun c3 => ?_) (fun c3 => ?_)
    · refine r_aload_n F 0 dX7_put_34 rfl rfl ?_
      refine gf_X7_7 F dX7_put_35 (rfl : kd 24 = 7) ?_
      refine r_iconst F dX7_put_38 (v := 0) (by decide) ?_
      refine r_iload_n F 1 dX7_put_39 rfl rfl ?_
      refine r_iadd F dX7_put_40 ?_
      refine r_chk (fun h4 => ?_)
      refine r_iald F dX7_put_41 (rfl : kd 25 = 8) (rfl : al 25 = 3424) h4 ?_
      refine r_if_ne (tgt := 49) F dX7_put_42 (by decide) (fun c5 => ?_) (fun c5 => ?_)
      · refine r_sub [0, 1, 2, 3] rfl ?_
        exact l_X7_put_45 F   a1 a2 a3 M28
      · refine r_iconst F dX7_put_49 (v := 0) (by decide) ?_
        refine r_sub [0, 1, 2, 3] rfl ?_
        exact l_X7_put_50 F   a1 a2 a3 (0 : Int32) M28
    · refine r_sub [0, 1, 2, 3] rfl ?_
      exact l_X7_put_45 F   a1 a2 a3 M28

set_option maxRecDepth 100000 in
set_option maxHeartbeats 4000000 in
theorem c_X7_put {l : Launch} {G : GM} (hl : l.stackTraces = false) (hG : GG G) (a1 : Int32) (a2 : Int32) (a3 : Int32) (M : Mem) : ∀ r, f_X7_put a1 a2 a3 M = some r → Ctr l G yX7_put (.code yX7_put cX7_put 4 (some .int) :: wsA) 9 [.ref (gA G 24), .int a1, .int a2, .int a3] M (emI r) :=
  ctr_of (by decide) hl hG (Nat.le_of_ble_eq_true rfl) (fun p e s m args below meth c F => b_X7_put F a1 a2 a3 M)

-- ===== X7_repay DrumTownsModel.repay(III)I =====
theorem yv_X7_repay : yV yX7_repay cX7_repay 4 (some .int) 3 := ⟨im_X7_repay, sl_X7_repay, ini_X7, cd_X7_repay, ⟨by decide, by decide, by decide +kernel⟩, by decide⟩

def f_X7_repay_70 (y1 : Int32) (y2 : Int32) (y3 : Int32) (z1 : Int32) (M : Mem) : Option (Int32 × Mem) := bnd (mw M 24 2 z1) fun M70 => if (M70.1 24 2) = 0 then (bn (f_X7_keep M70) fun _ M83 => bn (f_X7_go y1 y2 y3 M83) fun _ M90 => bn (f_X7_owes y1 y2 M90) fun r99 M99 => chk (inb r99 3424) <| chk (inb r99 3424) <| bnd (mw M99 25 r99.toNatClampNeg ((M99.1 25 r99.toNatClampNeg) - y3)) fun M106 => chk (inb (425 : Int32) 3424) <| chk (inb (425 : Int32) 3424) <| bnd (mw M106 25 (425 : Int32).toNatClampNeg ((M106.1 25 (425 : Int32).toNatClampNeg) + y3)) fun M118 => bn (f_X7_owes y1 y2 M118) fun r125 M125 => chk (inb r125 3424) <| some ((M125.1 25 r125.toNatClampNeg), M125)) else (some ((0 : Int32), M70))

set_option maxRecDepth 100000 in
set_option maxHeartbeats 4000000 in
theorem l_X7_repay_70 {G : GM} {p : Program} {l : Launch} {e : Env} {s : State} {m : MethodId} {args : Array Value} {below : List Frame} {meth : Method} {c : Code} (F : Fx G p l s m args meth c cX7_repay RX7 4 (some .int)) (y1 : Int32) (y2 : Int32) (y3 : Int32) (z1 : Int32) (M : Mem) : Rf G p l e s m args below meth c 8 4 emI (f_X7_repay_70  y1 y2 y3 z1 M) 70 [(0, .ref (gA G 24)), (1, .int y1), (2, .int y2), (3, .int y3)] [.int z1, .ref (gA G 24)] M := by
  unfold f_X7_repay_70
  refine pf_X7_37 F dX7_repay_70 (rfl : kd 24 = 7) (fun M70 => ?_)
  refine r_aload_n F 0 dX7_repay_73 rfl rfl ?_
  refine gf_X7_37 F dX7_repay_74 (rfl : kd 24 = 7) ?_
  refine r_if_eq (tgt := 82) F dX7_repay_77 (by decide) (fun c1 => ?_) (fun c1 => ?_)
  · refine r_aload_n F 0 dX7_repay_82 rfl rfl ?_
    refine r_cV (val := vU) (As := []) (rest := []) (fun _ => []) F (c_X7_keep F.st F.gg  M70) (fun _ _ => rfl) dX7_repay_83 ml_X7_64 yv_X7_keep (rfl : kd 24 = 7) (by decide) rfl rfl (by decide) rfl (Nat.le_of_ble_eq_true rfl) (fun _ => rfl) (fun _ M83 => ?_)
    refine r_aload_n F 0 dX7_repay_86 rfl rfl ?_
    refine r_iload_n F 1 dX7_repay_87 rfl rfl ?_
    refine r_iload_n F 2 dX7_repay_88 rfl rfl ?_
    refine r_iload_n F 3 dX7_repay_89 rfl rfl ?_
    refine r_cV (val := vU) (As := [.int y1, .int y2, .int y3]) (rest := []) (fun _ => []) F (c_X7_go F.st F.gg y1 y2 y3 M83) (fun _ _ => rfl) dX7_repay_90 ml_X7_119 yv_X7_go (rfl : kd 24 = 7) (by decide) rfl rfl (by decide) rfl (Nat.le_of_ble_eq_true rfl) (fun _ => rfl) (fun _ M90 => ?_)
    refine r_aload_n F 0 dX7_repay_93 rfl rfl ?_
    refine gf_X7_7 F dX7_repay_94 (rfl : kd 24 = 7) ?_
    refine r_iload_n F 1 dX7_repay_97 rfl rfl ?_
    refine r_iload_n F 2 dX7_repay_98 rfl rfl ?_
    refine r_cS (val := vI) (As := [.int y1, .int y2]) (rest := [.ref (gA G 25)]) (fun q9 => .int q9 :: [.ref (gA G 25)]) F (c_X7_owes F.st F.gg y1 y2 M90) (fun _ _ => rfl) dX7_repay_99 ml_X7_123 ys_X7_owes rfl (by decide) rfl (Nat.le_of_ble_eq_true rfl) (fun _ => rfl) (fun r99 M99 => ?_)
    refine r_dup2 F dX7_repay_102 rfl rfl ?_
    refine r_chk (fun h2 => ?_)
    refine r_iald F dX7_repay_103 (rfl : kd 25 = 8) (rfl : al 25 = 3424) h2 ?_
    refine r_iload_n F 3 dX7_repay_104 rfl rfl ?_
    refine r_isub F dX7_repay_105 ?_
    refine r_chk (fun h3 => ?_)
    refine r_iast F dX7_repay_106 (rfl : kd 25 = 8) (rfl : al 25 = 3424) h3 (fun M106 => ?_)
    refine r_aload_n F 0 dX7_repay_107 rfl rfl ?_
    refine gf_X7_7 F dX7_repay_108 (rfl : kd 24 = 7) ?_
    refine r_sipush F dX7_repay_111 (v := 425) (by decide) ?_
    refine r_dup2 F dX7_repay_114 rfl rfl ?_
    refine r_chk (fun h4 => ?_)
    refine r_iald F dX7_repay_115 (rfl : kd 25 = 8) (rfl : al 25 = 3424) h4 ?_
    refine r_iload_n F 3 dX7_repay_116 rfl rfl ?_
    refine r_iadd F dX7_repay_117 ?_
    refine r_chk (fun h5 => ?_)
    refine r_iast F dX7_repay_118 (rfl : kd 25 = 8) (rfl : al 25 = 3424) h5 (fun M118 => ?_)
    refine r_aload_n F 0 dX7_repay_119 rfl rfl ?_
    refine gf_X7_7 F dX7_repay_120 (rfl : kd 24 = 7) ?_
    refine r_iload_n F 1 dX7_repay_123 rfl rfl ?_
    refine r_iload_n F 2 dX7_repay_124 rfl rfl ?_
    refine r_cS (val := vI) (As := [.int y1, .int y2]) (rest := [.ref (gA G 25)]) (fun q9 => .int q9 :: [.ref (gA G 25)]) F (c_X7_owes F.st F.gg y1 y2 M118) (fun _ _ => rfl) dX7_repay_125 ml_X7_123 ys_X7_owes rfl (by decide) rfl (Nat.le_of_ble_eq_true rfl) (fun _ => rfl) (fun r125 M125 => ?_)
    refine r_chk (fun h6 => ?_)
    refine r_iald F dX7_repay_128 (rfl : kd 25 = 8) (rfl : al 25 = 3424) h6 ?_
    exact r_iret F rfl dX7_repay_129 rfl
  · refine r_iconst F dX7_repay_80 (v := 0) (by decide) ?_
    exact r_iret F rfl dX7_repay_81 rfl

def f_X7_repay_17 (y1 : Int32) (y2 : Int32) (y3 : Int32) (M : Mem) : Option (Int32 × Mem) := f_X7_repay_70  y1 y2 y3 (1 : Int32) M

set_option maxRecDepth 100000 in
set_option maxHeartbeats 4000000 in
theorem l_X7_repay_17 {G : GM} {p : Program} {l : Launch} {e : Env} {s : State} {m : MethodId} {args : Array Value} {below : List Frame} {meth : Method} {c : Code} (F : Fx G p l s m args meth c cX7_repay RX7 4 (some .int)) (y1 : Int32) (y2 : Int32) (y3 : Int32) (M : Mem) : Rf G p l e s m args below meth c 8 4 emI (f_X7_repay_17  y1 y2 y3 M) 17 [(0, .ref (gA G 24)), (1, .int y1), (2, .int y2), (3, .int y3)] [.ref (gA G 24)] M := by
  unfold f_X7_repay_17
  refine r_iconst F dX7_repay_17 (v := 1) (by decide) ?_
  refine r_goto (tgt := 70) F dX7_repay_18 (by decide) ?_
  refine r_sub [0, 1, 2, 3] rfl ?_
  exact l_X7_repay_70 F   y1 y2 y3 (1 : Int32) M

def f_X7_repay_37 (y1 : Int32) (y2 : Int32) (y3 : Int32) (M : Mem) : Option (Int32 × Mem) := f_X7_repay_70  y1 y2 y3 (2 : Int32) M

set_option maxRecDepth 100000 in
set_option maxHeartbeats 4000000 in
theorem l_X7_repay_37 {G : GM} {p : Program} {l : Launch} {e : Env} {s : State} {m : MethodId} {args : Array Value} {below : List Frame} {meth : Method} {c : Code} (F : Fx G p l s m args meth c cX7_repay RX7 4 (some .int)) (y1 : Int32) (y2 : Int32) (y3 : Int32) (M : Mem) : Rf G p l e s m args below meth c 8 4 emI (f_X7_repay_37  y1 y2 y3 M) 37 [(0, .ref (gA G 24)), (1, .int y1), (2, .int y2), (3, .int y3)] [.ref (gA G 24)] M := by
  unfold f_X7_repay_37
  refine r_iconst F dX7_repay_37 (v := 2) (by decide) ?_
  refine r_goto (tgt := 70) F dX7_repay_38 (by decide) ?_
  refine r_sub [0, 1, 2, 3] rfl ?_
  exact l_X7_repay_70 F   y1 y2 y3 (2 : Int32) M

def f_X7_repay_65 (y1 : Int32) (y2 : Int32) (y3 : Int32) (M : Mem) : Option (Int32 × Mem) := f_X7_repay_70  y1 y2 y3 (3 : Int32) M

set_option maxRecDepth 100000 in
set_option maxHeartbeats 4000000 in
theorem l_X7_repay_65 {G : GM} {p : Program} {l : Launch} {e : Env} {s : State} {m : MethodId} {args : Array Value} {below : List Frame} {meth : Method} {c : Code} (F : Fx G p l s m args meth c cX7_repay RX7 4 (some .int)) (y1 : Int32) (y2 : Int32) (y3 : Int32) (M : Mem) : Rf G p l e s m args below meth c 8 4 emI (f_X7_repay_65  y1 y2 y3 M) 65 [(0, .ref (gA G 24)), (1, .int y1), (2, .int y2), (3, .int y3)] [.ref (gA G 24)] M := by
  unfold f_X7_repay_65
  refine r_iconst F dX7_repay_65 (v := 3) (by decide) ?_
  refine r_goto (tgt := 70) F dX7_repay_66 (by decide) ?_
  refine r_sub [0, 1, 2, 3] rfl ?_
  exact l_X7_repay_70 F   y1 y2 y3 (3 : Int32) M

def f_X7_repay (a1 : Int32) (a2 : Int32) (a3 : Int32) (M : Mem) : Option (Int32 × Mem) := bn (f_X7_isTown a1 M) fun r3 M3 => if r3 = 0 then (f_X7_repay_17  a1 a2 a3 M3) else (bn (f_X7_isTown a2 M3) fun r11 M11 => if r11 = 0 then (f_X7_repay_17  a1 a2 a3 M11) else (if a1 = a2 then (f_X7_repay_37  a1 a2 a3 M11) else (bn (f_X7_in a3 (1 : Int32) (200 : Int32) M11) fun r31 M31 => if r31 = 0 then (f_X7_repay_37  a1 a2 a3 M31) else (bn (f_X7_owes a1 a2 M31) fun r47 M47 => chk (inb r47 3424) <| if (M47.1 25 r47.toNatClampNeg) < a3 then (f_X7_repay_65  a1 a2 a3 M47) else (bn (f_X7_canGo a1 a2 a3 M47) fun r59 M59 => if r59 = 0 then (f_X7_repay_65  a1 a2 a3 M59) else (f_X7_repay_70  a1 a2 a3 (0 : Int32) M59))))))

set_option maxRecDepth 100000 in
set_option maxHeartbeats 4000000 in
theorem b_X7_repay {G : GM} {p : Program} {l : Launch} {e : Env} {s : State} {m : MethodId} {args : Array Value} {below : List Frame} {meth : Method} {c : Code} (F : Fx G p l s m args meth c cX7_repay RX7 4 (some .int)) (a1 : Int32) (a2 : Int32) (a3 : Int32) (M : Mem) : Rf G p l e s m args below meth c 8 4 emI (f_X7_repay a1 a2 a3 M) 0 [(0, .ref (gA G 24)), (1, .int a1), (2, .int a2), (3, .int a3)] [] M := by
  unfold f_X7_repay
  refine r_aload_n F 0 dX7_repay_0 rfl rfl ?_
  refine r_aload_n F 0 dX7_repay_1 rfl rfl ?_
  refine r_iload_n F 1 dX7_repay_2 rfl rfl ?_
  refine r_cV (val := vI) (As := [.int a1]) (rest := [.ref (gA G 24)]) (fun q9 => .int q9 :: [.ref (gA G 24)]) F (c_X7_isTown F.st F.gg a1 M) (fun _ _ => rfl) dX7_repay_3 ml_X7_45 yv_X7_isTown (rfl : kd 24 = 7) (by decide) rfl rfl (by decide) rfl (Nat.le_of_ble_eq_true rfl) (fun _ => rfl) (fun r3 M3 => ?_)
  refine r_if_eq (tgt := 17) F dX7_repay_6 (by decide) (fun c1 => ?_) (fun c1 => ?_)
  · refine r_sub [0, 1, 2, 3] rfl ?_
    exact l_X7_repay_17 F   a1 a2 a3 M3
  · refine r_aload_n F 0 dX7_repay_9 rfl rfl ?_
    refine r_iload_n F 2 dX7_repay_10 rfl rfl ?_
    refine r_cV (val := vI) (As := [.int a2]) (rest := [.ref (gA G 24)]) (fun q9 => .int q9 :: [.ref (gA G 24)]) F (c_X7_isTown F.st F.gg a2 M3) (fun _ _ => rfl) dX7_repay_11 ml_X7_45 yv_X7_isTown (rfl : kd 24 = 7) (by decide) rfl rfl (by decide) rfl (Nat.le_of_ble_eq_true rfl) (fun _ => rfl) (fun r11 M11 => ?_)
    refine r_if_ne (tgt := 21) F dX7_repay_14 (by decide) (fun c2 => ?_) (fun c2 => ?_)
    · refine r_sub [0, 1, 2, 3] rfl ?_
      exact l_X7_repay_17 F   a1 a2 a3 M11
    · refine r_iload_n F 1 dX7_repay_21 rfl rfl ?_
      refine r_iload_n F 2 dX7_repay_22 rfl rfl ?_
      refine r_icmp_eq (tgt := 37) F dX7_repay_23 (by decide) (fun c3 => ?_) (fun c3 => ?_)
      · refine r_sub [0, 1, 2, 3] rfl ?_
        exact l_X7_repay_37 F   a1 a2 a3 M11
      · refine r_iload_n F 3 dX7_repay_26 rfl rfl ?_
        refine r_iconst F dX7_repay_27 (v := 1) (by decide) ?_
        refine r_sipush F dX7_repay_28 (v := 200) (by decide) ?_
        refine r_cS (val := vI) (As := [.int a3, .int (1 : Int32), .int (200 : Int32)]) (rest := [.ref (gA G 24)]) (fun q9 => .int q9 :: [.ref (gA G 24)]) F (c_X7_in F.st F.gg a3 (1 : Int32) (200 : Int32) M11) (fun _ _ => rfl) dX7_repay_31 ml_X7_41 ys_X7_in rfl (by decide) rfl (Nat.le_of_ble_eq_true rfl) (fun _ => rfl) (fun r31 M31 => ?_)
        refine r_if_ne (tgt := 41) F dX7_repay_34 (by decide) (fun c4 => ?_) (fun c4 => ?_)
        · refine r_sub [0, 1, 2, 3] rfl ?_
          exact l_X7_repay_37 F   a1 a2 a3 M31
        · refine r_aload_n F 0 dX7_repay_41 rfl rfl ?_
          refine gf_X7_7 F dX7_repay_42 (rfl : kd 24 = 7) ?_
          refine r_iload_n F 1 dX7_repay_45 rfl rfl ?_
          refine r_iload_n F 2 dX7_repay_46 rfl rfl ?_
          refine r_cS (val := vI) (As := [.int a1, .int a2]) (rest := [.ref (gA G 25), .ref (gA G 24)]) (fun q9 => .int q9 :: [.ref (gA G 25), .ref (gA G 24)]) F (c_X7_owes F.st F.gg a1 a2 M31) (fun _ _ => rfl) dX7_repay_47 ml_X7_123 ys_X7_owes rfl (by decide) rfl (Nat.le_of_ble_eq_true rfl) (fun _ => rfl) (fun r47 M47 => ?_)
          refine r_chk (fun h5 => ?_)
          refine r_iald F dX7_repay_50 (rfl : kd 25 = 8) (rfl : al 25 = 3424) h5 ?_
          refine r_iload_n F 3 dX7_repay_51 rfl rfl ?_
          refine r_icmp_lt (tgt := 65) F dX7_repay_52 (by decide) (fun c6 => ?_) (fun c6 => ?_)
          · refine r_sub [0, 1, 2, 3] rfl ?_
            exact l_X7_repay_65 F   a1 a2 a3 M47
          · refine r_aload_n F 0 dX7_repay_55 rfl rfl ?_
            refine r_iload_n F 1 dX7_repay_56 rfl rfl ?_
            refine r_iload_n F 2 dX7_repay_57 rfl rfl ?_
            refine r_iload_n F 3 dX7_repay_58 rfl rfl ?_
            refine r_cV (val := vI) (As := [.int a1, .int a2, .int a3]) (rest := [.ref (gA G 24)]) (fun q9 => .int q9 :: [.ref (gA G 24)]) F (c_X7_canGo F.st F.gg a1 a2 a3 M47) (fun _ _ => rfl) dX7_repay_59 ml_X7_116 yv_X7_canGo (rfl : kd 24 = 7) (by decide) rfl rfl (by decide) rfl (Nat.le_of_ble_eq_true rfl) (fun _ => rfl) (fun r59 M59 => ?_)
            refine r_if_ne (tgt := 69) F dX7_repay_62 (by decide) (fun c7 => ?_) (fun c7 => ?_)
            · refine r_sub [0, 1, 2, 3] rfl ?_
              exact l_X7_repay_65 F   a1 a2 a3 M59
            · refine r_iconst F dX7_repay_69 (v := 0) (by decide) ?_
              refine r_sub [0, 1, 2, 3] rfl ?_
              exact l_X7_repay_70 F   a1 a2 a3 (0 : Int32) M59

set_option maxRecDepth 100000 in
set_option maxHeartbeats 4000000 in
theorem c_X7_repay {l : Launch} {G : GM} (hl : l.stackTraces = false) (hG : GG G) (a1 : Int32) (a2 : Int32) (a3 : Int32) (M : Mem) : ∀ r, f_X7_repay a1 a2 a3 M = some r → Ctr l G yX7_repay (.code yX7_repay cX7_repay 4 (some .int) :: wsA) 8 [.ref (gA G 24), .int a1, .int a2, .int a3] M (emI r) :=
  ctr_of (by decide) hl hG (Nat.le_of_ble_eq_true rfl) (fun p e s m args below meth c F => b_X7_repay F a1 a2 a3 M)

-- ===== X7_ring DrumTownsModel.ring(I)I =====
theorem yv_X7_ring : yV yX7_ring cX7_ring 2 (some .int) 1 := ⟨im_X7_ring, sl_X7_ring, ini_X7, cd_X7_ring, ⟨by decide, by decide, by decide +kernel⟩, by decide⟩

def f_X7_ring_45 (z0 : Int32) (M : Mem) : Option (Int32 × Mem) := some (z0, M)

set_option maxRecDepth 100000 in
set_option maxHeartbeats 4000000 in
theorem l_X7_ring_45 {G : GM} {p : Program} {l : Launch} {e : Env} {s : State} {m : MethodId} {args : Array Value} {below : List Frame} {meth : Method} {c : Code} (F : Fx G p l s m args meth c cX7_ring RX7 2 (some .int)) (z0 : Int32) (M : Mem) : Rf G p l e s m args below meth c 11 2 emI (f_X7_ring_45  z0 M) 45 [] [.int z0] M := by
  unfold f_X7_ring_45
  exact r_iret F rfl dX7_ring_45 rfl

def f_X7_ring_26 (y1 : Int32) (z1 : Int32) (M : Mem) : Option (Int32 × Mem) := bnd (mw M 24 2 z1) fun M26 => if (M26.1 24 2) = 0 then (bn (f_X7_ringOf y1 M26) fun r38 M38 => f_X7_ring_45  r38 M38) else (f_X7_ring_45  (0 : Int32) M26)

set_option maxRecDepth 100000 in
set_option maxHeartbeats 4000000 in
theorem l_X7_ring_26 {G : GM} {p : Program} {l : Launch} {e : Env} {s : State} {m : MethodId} {args : Array Value} {below : List Frame} {meth : Method} {c : Code} (F : Fx G p l s m args meth c cX7_ring RX7 2 (some .int)) (y1 : Int32) (z1 : Int32) (M : Mem) : Rf G p l e s m args below meth c 11 2 emI (f_X7_ring_26  y1 z1 M) 26 [(0, .ref (gA G 24)), (1, .int y1)] [.int z1, .ref (gA G 24)] M := by
  unfold f_X7_ring_26
  refine pf_X7_37 F dX7_ring_26 (rfl : kd 24 = 7) (fun M26 => ?_)
  refine r_aload_n F 0 dX7_ring_29 rfl rfl ?_
  refine gf_X7_37 F dX7_ring_30 (rfl : kd 24 = 7) ?_
  refine r_if_ne (tgt := 44) F dX7_ring_33 (by decide) (fun c1 => ?_) (fun c1 => ?_)
  · refine r_aload_n F 0 dX7_ring_36 rfl rfl ?_
    refine r_iload_n F 1 dX7_ring_37 rfl rfl ?_
    refine r_cV (val := vI) (As := [.int y1]) (rest := []) (fun q9 => .int q9 :: []) F (c_X7_ringOf F.st F.gg y1 M26) (fun _ _ => rfl) dX7_ring_38 ml_X7_146 yv_X7_ringOf (rfl : kd 24 = 7) (by decide) rfl rfl (by decide) rfl (Nat.le_of_ble_eq_true rfl) (fun _ => rfl) (fun r38 M38 => ?_)
    refine r_goto (tgt := 45) F dX7_ring_41 (by decide) ?_
    refine r_sub [] rfl ?_
    exact l_X7_ring_45 F   r38 M38
  · refine r_iconst F dX7_ring_44 (v := 0) (by decide) ?_
    refine r_sub [] rfl ?_
    exact l_X7_ring_45 F   (0 : Int32) M26

def f_X7_ring_21 (y1 : Int32) (M : Mem) : Option (Int32 × Mem) := f_X7_ring_26  y1 (0 : Int32) M

set_option maxRecDepth 100000 in
set_option maxHeartbeats 4000000 in
theorem l_X7_ring_21 {G : GM} {p : Program} {l : Launch} {e : Env} {s : State} {m : MethodId} {args : Array Value} {below : List Frame} {meth : Method} {c : Code} (F : Fx G p l s m args meth c cX7_ring RX7 2 (some .int)) (y1 : Int32) (M : Mem) : Rf G p l e s m args below meth c 11 2 emI (f_X7_ring_21  y1 M) 21 [(0, .ref (gA G 24)), (1, .int y1)] [.ref (gA G 24)] M := by
  unfold f_X7_ring_21
  refine r_iconst F dX7_ring_21 (v := 0) (by decide) ?_
  refine r_goto (tgt := 26) F dX7_ring_22 (by decide) ?_
  refine r_sub [0, 1] rfl ?_
  exact l_X7_ring_26 F   y1 (0 : Int32) M

def f_X7_ring (a1 : Int32) (M : Mem) : Option (Int32 × Mem) := bn (f_X7_in a1 (0 : Int32) (1 : Int32) M) fun r4 M4 => if r4 = 0 then (bn (f_X7_in a1 (10 : Int32) (15 : Int32) M4) fun r15 M15 => if r15 = 0 then (f_X7_ring_26  a1 (1 : Int32) M15) else (f_X7_ring_21  a1 M15)) else (f_X7_ring_21  a1 M4)

set_option maxRecDepth 100000 in
set_option maxHeartbeats 4000000 in
theorem b_X7_ring {G : GM} {p : Program} {l : Launch} {e : Env} {s : State} {m : MethodId} {args : Array Value} {below : List Frame} {meth : Method} {c : Code} (F : Fx G p l s m args meth c cX7_ring RX7 2 (some .int)) (a1 : Int32) (M : Mem) : Rf G p l e s m args below meth c 11 2 emI (f_X7_ring a1 M) 0 [(0, .ref (gA G 24)), (1, .int a1)] [] M := by
  unfold f_X7_ring
  refine r_aload_n F 0 dX7_ring_0 rfl rfl ?_
  refine r_iload_n F 1 dX7_ring_1 rfl rfl ?_
  refine r_iconst F dX7_ring_2 (v := 0) (by decide) ?_
  refine r_iconst F dX7_ring_3 (v := 1) (by decide) ?_
  refine r_cS (val := vI) (As := [.int a1, .int (0 : Int32), .int (1 : Int32)]) (rest := [.ref (gA G 24)]) (fun q9 => .int q9 :: [.ref (gA G 24)]) F (c_X7_in F.st F.gg a1 (0 : Int32) (1 : Int32) M) (fun _ _ => rfl) dX7_ring_4 ml_X7_41 ys_X7_in rfl (by decide) rfl (Nat.le_of_ble_eq_true rfl) (fun _ => rfl) (fun r4 M4 => ?_)
  refine r_if_ne (tgt := 21) F dX7_ring_7 (by decide) (fun c1 => ?_) (fun c1 => ?_)
  · refine r_iload_n F 1 dX7_ring_10 rfl rfl ?_
    refine r_bipush F dX7_ring_11 (v := 10) (by decide) ?_
    refine r_bipush F dX7_ring_13 (v := 15) (by decide) ?_
    refine r_cS (val := vI) (As := [.int a1, .int (10 : Int32), .int (15 : Int32)]) (rest := [.ref (gA G 24)]) (fun q9 => .int q9 :: [.ref (gA G 24)]) F (c_X7_in F.st F.gg a1 (10 : Int32) (15 : Int32) M4) (fun _ _ => rfl) dX7_ring_15 ml_X7_41 ys_X7_in rfl (by decide) rfl (Nat.le_of_ble_eq_true rfl) (fun _ => rfl) (fun r15 M15 => ?_)
    refine r_if_eq (tgt := 25) F dX7_ring_18 (by decide) (fun c2 => ?_) (fun c2 => ?_)
    · refine r_iconst F dX7_ring_25 (v := 1) (by decide) ?_
      refine r_sub [0, 1] rfl ?_
      exact l_X7_ring_26 F   a1 (1 : Int32) M15
    · refine r_sub [0, 1] rfl ?_
      exact l_X7_ring_21 F   a1 M15
  · refine r_sub [0, 1] rfl ?_
    exact l_X7_ring_21 F   a1 M4

set_option maxRecDepth 100000 in
set_option maxHeartbeats 4000000 in
theorem c_X7_ring {l : Launch} {G : GM} (hl : l.stackTraces = false) (hG : GG G) (a1 : Int32) (M : Mem) : ∀ r, f_X7_ring a1 M = some r → Ctr l G yX7_ring (.code yX7_ring cX7_ring 2 (some .int) :: wsA) 11 [.ref (gA G 24), .int a1] M (emI r) :=
  ctr_of (by decide) hl hG (Nat.le_of_ble_eq_true rfl) (fun p e s m args below meth c F => b_X7_ring F a1 M)

-- ===== X7_set DrumTownsModel.set(II)I =====
theorem yv_X7_set : yV yX7_set cX7_set 6 (some .int) 2 := ⟨im_X7_set, sl_X7_set, ini_X7, cd_X7_set, ⟨by decide, by decide, by decide +kernel⟩, by decide⟩

def f_X7_set_63 (y1 : Int32) (y2 : Int32) (z1 : Int32) (M : Mem) : Option (Int32 × Mem) := bnd (mw M 24 2 z1) fun M63 => if (M63.1 24 2) = 0 then (bn (f_X7_keep M63) fun _ M76 => chk (inb ((420 : Int32) + y1) 3424) <| bnd (M76.1 25 ((420 : Int32) + y1).toNatClampNeg) fun x89 => chk (inb ((420 : Int32) + y1) 3424) <| bnd (mw M76 25 ((420 : Int32) + y1).toNatClampNeg y2) fun M101 => some (x89, M101)) else (some ((0 : Int32), M63))

set_option maxRecDepth 100000 in
set_option maxHeartbeats 4000000 in
theorem l_X7_set_63 {G : GM} {p : Program} {l : Launch} {e : Env} {s : State} {m : MethodId} {args : Array Value} {below : List Frame} {meth : Method} {c : Code} (F : Fx G p l s m args meth c cX7_set RX7 6 (some .int)) (y1 : Int32) (y2 : Int32) (z1 : Int32) (M : Mem) : Rf G p l e s m args below meth c 8 6 emI (f_X7_set_63  y1 y2 z1 M) 63 [(0, .ref (gA G 24)), (1, .int y1), (2, .int y2)] [.int z1, .ref (gA G 24)] M := by
  unfold f_X7_set_63
  refine pf_X7_37 F dX7_set_63 (rfl : kd 24 = 7) (fun M63 => ?_)
  refine r_aload_n F 0 dX7_set_66 rfl rfl ?_
  refine gf_X7_37 F dX7_set_67 (rfl : kd 24 = 7) ?_
  refine r_if_eq (tgt := 75) F dX7_set_70 (by decide) (fun c1 => ?_) (fun c1 => ?_)
  · refine r_aload_n F 0 dX7_set_75 rfl rfl ?_
    refine r_cV (val := vU) (As := []) (rest := []) (fun _ => []) F (c_X7_keep F.st F.gg  M63) (fun _ _ => rfl) dX7_set_76 ml_X7_64 yv_X7_keep (rfl : kd 24 = 7) (by decide) rfl rfl (by decide) rfl (Nat.le_of_ble_eq_true rfl) (fun _ => rfl) (fun _ M76 => ?_)
    refine r_aload_n F 0 dX7_set_79 rfl rfl ?_
    refine gf_X7_7 F dX7_set_80 (rfl : kd 24 = 7) ?_
    refine r_sipush F dX7_set_83 (v := 420) (by decide) ?_
    refine r_iload_n F 1 dX7_set_86 rfl rfl ?_
    refine r_iadd F dX7_set_87 ?_
    refine r_chk (fun h2 => ?_)
    refine r_iald F dX7_set_88 (rfl : kd 25 = 8) (rfl : al 25 = 3424) h2 ?_
    refine r_bi (fun x89 => ?_)
    refine r_istore (ls' := [(5, .int x89), (0, .ref (gA G 24)), (1, .int y1), (2, .int y2)]) F dX7_set_89 (by decide) rfl ?_
    refine r_aload_n F 1 dX7_set_91 rfl rfl ?_
    refine gf_X7_7 F dX7_set_92 (rfl : kd 24 = 7) ?_
    refine r_sipush F dX7_set_95 (v := 420) (by decide) ?_
    refine r_iload_n F 2 dX7_set_98 rfl rfl ?_
    refine r_iadd F dX7_set_99 ?_
    refine r_iload_n F 3 dX7_set_100 rfl rfl ?_
    refine r_chk (fun h3 => ?_)
    refine r_iast F dX7_set_101 (rfl : kd 25 = 8) (rfl : al 25 = 3424) h3 (fun M101 => ?_)
    refine r_iload F 0 dX7_set_102 rfl ?_
    exact r_iret F rfl dX7_set_104 rfl
  · refine r_iconst F dX7_set_73 (v := 0) (by decide) ?_
    exact r_iret F rfl dX7_set_74 rfl

def f_X7_set_32 (y1 : Int32) (y2 : Int32) (y3 : Int32) (z0 : Int32) (M : Mem) : Option (Int32 × Mem) := bn (f_X7_in y1 (0 : Int32) (2 : Int32) M) fun r38 M38 => if r38 = 0 then (f_X7_set_63  y1 y2 (1 : Int32) M38) else (bn (f_X7_in y2 y3 z0 M38) fun r52 M52 => if r52 = 0 then (f_X7_set_63  y1 y2 (2 : Int32) M52) else (f_X7_set_63  y1 y2 (0 : Int32) M52))

set_option maxRecDepth 100000 in
set_option maxHeartbeats 4000000 in
theorem l_X7_set_32 {G : GM} {p : Program} {l : Launch} {e : Env} {s : State} {m : MethodId} {args : Array Value} {below : List Frame} {meth : Method} {c : Code} (F : Fx G p l s m args meth c cX7_set RX7 6 (some .int)) (y1 : Int32) (y2 : Int32) (y3 : Int32) (z0 : Int32) (M : Mem) : Rf G p l e s m args below meth c 8 6 emI (f_X7_set_32  y1 y2 y3 z0 M) 32 [(0, .ref (gA G 24)), (1, .int y1), (2, .int y2), (3, .int y3)] [.int z0] M := by
  unfold f_X7_set_32
  refine r_istore (ls' := [(4, .int z0), (0, .ref (gA G 24)), (1, .int y1), (2, .int y2), (3, .int y3)]) F dX7_set_32 (by decide) rfl ?_
  refine r_aload_n F 1 dX7_set_34 rfl rfl ?_
  refine r_iload_n F 2 dX7_set_35 rfl rfl ?_
  refine r_iconst F dX7_set_36 (v := 0) (by decide) ?_
  refine r_iconst F dX7_set_37 (v := 2) (by decide) ?_
  refine r_cS (val := vI) (As := [.int y1, .int (0 : Int32), .int (2 : Int32)]) (rest := [.ref (gA G 24)]) (fun q9 => .int q9 :: [.ref (gA G 24)]) F (c_X7_in F.st F.gg y1 (0 : Int32) (2 : Int32) M) (fun _ _ => rfl) dX7_set_38 ml_X7_41 ys_X7_in rfl (by decide) rfl (Nat.le_of_ble_eq_true rfl) (fun _ => rfl) (fun r38 M38 => ?_)
  refine r_if_ne (tgt := 48) F dX7_set_41 (by decide) (fun c1 => ?_) (fun c1 => ?_)
  · refine r_iconst F dX7_set_44 (v := 1) (by decide) ?_
    refine r_goto (tgt := 63) F dX7_set_45 (by decide) ?_
    refine r_sub [1, 2, 3] rfl ?_
    exact l_X7_set_63 F   y1 y2 (1 : Int32) M38
  · refine r_iload_n F 3 dX7_set_48 rfl rfl ?_
    refine r_iload_n F 4 dX7_set_49 rfl rfl ?_
    refine r_iload F 0 dX7_set_50 rfl ?_
    refine r_cS (val := vI) (As := [.int y2, .int y3, .int z0]) (rest := [.ref (gA G 24)]) (fun q9 => .int q9 :: [.ref (gA G 24)]) F (c_X7_in F.st F.gg y2 y3 z0 M38) (fun _ _ => rfl) dX7_set_52 ml_X7_41 ys_X7_in rfl (by decide) rfl (Nat.le_of_ble_eq_true rfl) (fun _ => rfl) (fun r52 M52 => ?_)
    refine r_if_ne (tgt := 62) F dX7_set_55 (by decide) (fun c2 => ?_) (fun c2 => ?_)
    · refine r_iconst F dX7_set_58 (v := 2) (by decide) ?_
      refine r_goto (tgt := 63) F dX7_set_59 (by decide) ?_
      refine r_sub [1, 2, 3] rfl ?_
      exact l_X7_set_63 F   y1 y2 (2 : Int32) M52
    · refine r_iconst F dX7_set_62 (v := 0) (by decide) ?_
      refine r_sub [1, 2, 3] rfl ?_
      exact l_X7_set_63 F   y1 y2 (0 : Int32) M52

def f_X7_set_9 (y1 : Int32) (y2 : Int32) (z0 : Int32) (M : Mem) : Option (Int32 × Mem) := if y1 = 0 then (f_X7_set_32  y1 y2 z0 (24 : Int32) M) else (if y1 = (1 : Int32) then (f_X7_set_32  y1 y2 z0 (100 : Int32) M) else (f_X7_set_32  y1 y2 z0 (999 : Int32) M))

set_option maxRecDepth 100000 in
set_option maxHeartbeats 4000000 in
theorem l_X7_set_9 {G : GM} {p : Program} {l : Launch} {e : Env} {s : State} {m : MethodId} {args : Array Value} {below : List Frame} {meth : Method} {c : Code} (F : Fx G p l s m args meth c cX7_set RX7 6 (some .int)) (y1 : Int32) (y2 : Int32) (z0 : Int32) (M : Mem) : Rf G p l e s m args below meth c 8 6 emI (f_X7_set_9  y1 y2 z0 M) 9 [(0, .ref (gA G 24)), (1, .int y1), (2, .int y2)] [.int z0] M := by
  unfold f_X7_set_9
  refine r_istore_n (ls' := [(3, .int z0), (0, .ref (gA G 24)), (1, .int y1), (2, .int y2)]) F dX7_set_9 rfl (by decide) rfl ?_
  refine r_iload_n F 2 dX7_set_10 rfl rfl ?_
  refine r_if_ne (tgt := 19) F dX7_set_11 (by decide) (fun c1 => ?_) (fun c1 => ?_)
  · refine r_bipush F dX7_set_14 (v := 24) (by decide) ?_
    refine r_goto (tgt := 32) F dX7_set_16 (by decide) ?_
    refine r_sub [1, 2, 3, 0] rfl ?_
    exact l_X7_set_32 F   y1 y2 z0 (24 : Int32) M
  · refine r_iload_n F 2 dX7_set_19 rfl rfl ?_
    refine r_iconst F dX7_set_20 (v := 1) (by decide) ?_
    refine r_icmp_ne (tgt := 29) F dX7_set_21 (by decide) (fun c2 => ?_) (fun c2 => ?_)
    · refine r_bipush F dX7_set_24 (v := 100) (by decide) ?_
      refine r_goto (tgt := 32) F dX7_set_26 (by decide) ?_
      refine r_sub [1, 2, 3, 0] rfl ?_
      exact l_X7_set_32 F   y1 y2 z0 (100 : Int32) M
    · refine r_sipush F dX7_set_29 (v := 999) (by decide) ?_
      refine r_sub [1, 2, 3, 0] rfl ?_
      exact l_X7_set_32 F   y1 y2 z0 (999 : Int32) M

def f_X7_set (a1 : Int32) (a2 : Int32) (M : Mem) : Option (Int32 × Mem) := if a1 = 0 then (f_X7_set_9  a1 a2 (0 : Int32) M) else (f_X7_set_9  a1 a2 (1 : Int32) M)

set_option maxRecDepth 100000 in
set_option maxHeartbeats 4000000 in
theorem b_X7_set {G : GM} {p : Program} {l : Launch} {e : Env} {s : State} {m : MethodId} {args : Array Value} {below : List Frame} {meth : Method} {c : Code} (F : Fx G p l s m args meth c cX7_set RX7 6 (some .int)) (a1 : Int32) (a2 : Int32) (M : Mem) : Rf G p l e s m args below meth c 8 6 emI (f_X7_set a1 a2 M) 0 [(0, .ref (gA G 24)), (1, .int a1), (2, .int a2)] [] M := by
  unfold f_X7_set
  refine r_iload_n F 1 dX7_set_0 rfl rfl ?_
  refine r_if_ne (tgt := 8) F dX7_set_1 (by decide) (fun c1 => ?_) (fun c1 => ?_)
  · refine r_iconst F dX7_set_4 (v := 0) (by decide) ?_
    refine r_goto (tgt := 9) F dX7_set_5 (by decide) ?_
    refine r_sub [0, 1, 2] rfl ?_
    exact l_X7_set_9 F   a1 a2 (0 : Int32) M
  · refine r_iconst F dX7_set_8 (v := 1) (by decide) ?_
    refine r_sub [0, 1, 2] rfl ?_
    exact l_X7_set_9 F   a1 a2 (1 : Int32) M

set_option maxRecDepth 100000 in
set_option maxHeartbeats 4000000 in
theorem c_X7_set {l : Launch} {G : GM} (hl : l.stackTraces = false) (hG : GG G) (a1 : Int32) (a2 : Int32) (M : Mem) : ∀ r, f_X7_set a1 a2 M = some r → Ctr l G yX7_set (.code yX7_set cX7_set 6 (some .int) :: wsA) 8 [.ref (gA G 24), .int a1, .int a2] M (emI r) :=
  ctr_of (by decide) hl hG (Nat.le_of_ble_eq_true rfl) (fun p e s m args below meth c F => b_X7_set F a1 a2 M)

-- ===== X7_setting DrumTownsModel.setting(I)I =====
theorem yv_X7_setting : yV yX7_setting cX7_setting 2 (some .int) 1 := ⟨im_X7_setting, sl_X7_setting, ini_X7, cd_X7_setting, ⟨by decide, by decide, by decide +kernel⟩, by decide⟩

def f_X7_setting_39 (z0 : Int32) (M : Mem) : Option (Int32 × Mem) := some (z0, M)

set_option maxRecDepth 100000 in
set_option maxHeartbeats 4000000 in
theorem l_X7_setting_39 {G : GM} {p : Program} {l : Launch} {e : Env} {s : State} {m : MethodId} {args : Array Value} {below : List Frame} {meth : Method} {c : Code} (F : Fx G p l s m args meth c cX7_setting RX7 2 (some .int)) (z0 : Int32) (M : Mem) : Rf G p l e s m args below meth c 7 2 emI (f_X7_setting_39  z0 M) 39 [] [.int z0] M := by
  unfold f_X7_setting_39
  exact r_iret F rfl dX7_setting_39 rfl

def f_X7_setting_15 (y1 : Int32) (z1 : Int32) (M : Mem) : Option (Int32 × Mem) := bnd (mw M 24 2 z1) fun M15 => if (M15.1 24 2) = 0 then (chk (inb ((420 : Int32) + y1) 3424) <| f_X7_setting_39  (M15.1 25 ((420 : Int32) + y1).toNatClampNeg) M15) else (f_X7_setting_39  (0 : Int32) M15)

set_option maxRecDepth 100000 in
set_option maxHeartbeats 4000000 in
theorem l_X7_setting_15 {G : GM} {p : Program} {l : Launch} {e : Env} {s : State} {m : MethodId} {args : Array Value} {below : List Frame} {meth : Method} {c : Code} (F : Fx G p l s m args meth c cX7_setting RX7 2 (some .int)) (y1 : Int32) (z1 : Int32) (M : Mem) : Rf G p l e s m args below meth c 7 2 emI (f_X7_setting_15  y1 z1 M) 15 [(0, .ref (gA G 24)), (1, .int y1)] [.int z1, .ref (gA G 24)] M := by
  unfold f_X7_setting_15
  refine pf_X7_37 F dX7_setting_15 (rfl : kd 24 = 7) (fun M15 => ?_)
  refine r_aload_n F 0 dX7_setting_18 rfl rfl ?_
  refine gf_X7_37 F dX7_setting_19 (rfl : kd 24 = 7) ?_
  refine r_if_ne (tgt := 38) F dX7_setting_22 (by decide) (fun c1 => ?_) (fun c1 => ?_)
  · refine r_aload_n F 0 dX7_setting_25 rfl rfl ?_
    refine gf_X7_7 F dX7_setting_26 (rfl : kd 24 = 7) ?_
    refine r_sipush F dX7_setting_29 (v := 420) (by decide) ?_
    refine r_iload_n F 1 dX7_setting_32 rfl rfl ?_
    refine r_iadd F dX7_setting_33 ?_
    refine r_chk (fun h2 => ?_)
    refine r_iald F dX7_setting_34 (rfl : kd 25 = 8) (rfl : al 25 = 3424) h2 ?_
    refine r_goto (tgt := 39) F dX7_setting_35 (by decide) ?_
    refine r_sub [] rfl ?_
    exact l_X7_setting_39 F   (M15.1 25 ((420 : Int32) + y1).toNatClampNeg) M15
  · refine r_iconst F dX7_setting_38 (v := 0) (by decide) ?_
    refine r_sub [] rfl ?_
    exact l_X7_setting_39 F   (0 : Int32) M15

def f_X7_setting (a1 : Int32) (M : Mem) : Option (Int32 × Mem) := bn (f_X7_in a1 (0 : Int32) (2 : Int32) M) fun r4 M4 => if r4 = 0 then (f_X7_setting_15  a1 (1 : Int32) M4) else (f_X7_setting_15  a1 (0 : Int32) M4)

set_option maxRecDepth 100000 in
set_option maxHeartbeats 4000000 in
theorem b_X7_setting {G : GM} {p : Program} {l : Launch} {e : Env} {s : State} {m : MethodId} {args : Array Value} {below : List Frame} {meth : Method} {c : Code} (F : Fx G p l s m args meth c cX7_setting RX7 2 (some .int)) (a1 : Int32) (M : Mem) : Rf G p l e s m args below meth c 7 2 emI (f_X7_setting a1 M) 0 [(0, .ref (gA G 24)), (1, .int a1)] [] M := by
  unfold f_X7_setting
  refine r_aload_n F 0 dX7_setting_0 rfl rfl ?_
  refine r_iload_n F 1 dX7_setting_1 rfl rfl ?_
  refine r_iconst F dX7_setting_2 (v := 0) (by decide) ?_
  refine r_iconst F dX7_setting_3 (v := 2) (by decide) ?_
  refine r_cS (val := vI) (As := [.int a1, .int (0 : Int32), .int (2 : Int32)]) (rest := [.ref (gA G 24)]) (fun q9 => .int q9 :: [.ref (gA G 24)]) F (c_X7_in F.st F.gg a1 (0 : Int32) (2 : Int32) M) (fun _ _ => rfl) dX7_setting_4 ml_X7_41 ys_X7_in rfl (by decide) rfl (Nat.le_of_ble_eq_true rfl) (fun _ => rfl) (fun r4 M4 => ?_)
  refine r_if_eq (tgt := 14) F dX7_setting_7 (by decide) (fun c1 => ?_) (fun c1 => ?_)
  · refine r_iconst F dX7_setting_14 (v := 1) (by decide) ?_
    refine r_sub [0, 1] rfl ?_
    exact l_X7_setting_15 F   a1 (1 : Int32) M4
  · refine r_iconst F dX7_setting_10 (v := 0) (by decide) ?_
    refine r_goto (tgt := 15) F dX7_setting_11 (by decide) ?_
    refine r_sub [0, 1] rfl ?_
    exact l_X7_setting_15 F   a1 (0 : Int32) M4

set_option maxRecDepth 100000 in
set_option maxHeartbeats 4000000 in
theorem c_X7_setting {l : Launch} {G : GM} (hl : l.stackTraces = false) (hG : GG G) (a1 : Int32) (M : Mem) : ∀ r, f_X7_setting a1 M = some r → Ctr l G yX7_setting (.code yX7_setting cX7_setting 2 (some .int) :: wsA) 7 [.ref (gA G 24), .int a1] M (emI r) :=
  ctr_of (by decide) hl hG (Nat.le_of_ble_eq_true rfl) (fun p e s m args below meth c F => b_X7_setting F a1 M)

-- ===== X7_settle DrumTownsModel.settle()I =====
theorem yv_X7_settle : yV yX7_settle cX7_settle 4 (some .int) 0 := ⟨im_X7_settle, sl_X7_settle, ini_X7, cd_X7_settle, ⟨by decide, by decide, by decide +kernel⟩, by decide⟩

def f_X7_settle_25 (k11 : Int32 → Mem → Option (Int32 × Mem)) : Nat → Int32 → Int32 → Int32 → Mem → Option (Int32 × Mem)
  | 0, _, _, _, _ => none
  | n + 1, y1, y2, y3, M => if (M.1 24 13) ≤ y3 then (chk (inb (427 : Int32) 3424) <| chk (inb (427 : Int32) 3424) <| bnd (mw M 25 (427 : Int32).toNatClampNeg ((M.1 25 (427 : Int32).toNatClampNeg) + (y2 * (M.1 24 13)))) fun M86 => chk (inb (426 : Int32) 3424) <| chk (inb (426 : Int32) 3424) <| bnd (mw M86 25 (426 : Int32).toNatClampNeg ((M86.1 25 (426 : Int32).toNatClampNeg) + (1 : Int32))) fun M98 => bnd (y1 + (1 : Int32)) fun x99 => k11 x99 M98) else (chk (inb y3 7) <| chk (!decide ((M.1 24 13) = 0)) <| chk (inb ((y3 + (1 : Int32)) - (y3 + (1 : Int32)) / (M.1 24 13) * (M.1 24 13)) 7) <| bn (f_X7_owes (M.1 29 y3.toNatClampNeg) (M.1 29 ((y3 + (1 : Int32)) - (y3 + (1 : Int32)) / (M.1 24 13) * (M.1 24 13)).toNatClampNeg) M) fun r56 M56 => chk (inb r56 3424) <| chk (inb r56 3424) <| bnd (mw M56 25 r56.toNatClampNeg ((M56.1 25 r56.toNatClampNeg) - y2)) fun M63 => bnd (y3 + (1 : Int32)) fun x64 => f_X7_settle_25 k11 n y1 y2 x64 M63)

set_option maxRecDepth 100000 in
set_option maxHeartbeats 4000000 in
theorem l_X7_settle_25 {G : GM} {p : Program} {l : Launch} {e : Env} {s : State} {m : MethodId} {args : Array Value} {below : List Frame} {meth : Method} {c : Code} (F : Fx G p l s m args meth c cX7_settle RX7 4 (some .int)) (k11 : Int32 → Mem → Option (Int32 × Mem)) (H11 : ∀ (y1 : Int32) (M : Mem), Rf G p l e s m args below meth c 10 4 emI (k11 y1 M) 11 [(0, .ref (gA G 24)), (1, .int y1)] [] M) : ∀ (n : Nat) (y1 : Int32) (y2 : Int32) (y3 : Int32) (M : Mem), Rf G p l e s m args below meth c 10 4 emI (f_X7_settle_25 k11 n y1 y2 y3 M) 25 [(0, .ref (gA G 24)), (1, .int y1), (2, .int y2), (3, .int y3)] [] M := by
  intro n
  induction n with
  | zero => intros; exact r_none
  | succ n ih =>
    intro y1 y2 y3 M
    rw [f_X7_settle_25]
    refine r_iload_n F 3 dX7_settle_25 rfl rfl ?_
    refine r_aload_n F 0 dX7_settle_26 rfl rfl ?_
    refine gf_X7_135 F dX7_settle_27 (rfl : kd 24 = 7) ?_
    refine r_icmp_ge (tgt := 70) F dX7_settle_30 (by decide) (fun c1 => ?_) (fun c1 => ?_)
    · refine r_aload_n F 0 dX7_settle_70 rfl rfl ?_
      refine gf_X7_7 F dX7_settle_71 (rfl : kd 24 = 7) ?_
      refine r_sipush F dX7_settle_74 (v := 427) (by decide) ?_
      refine r_dup2 F dX7_settle_77 rfl rfl ?_
      refine r_chk (fun h2 => ?_)
      refine r_iald F dX7_settle_78 (rfl : kd 25 = 8) (rfl : al 25 = 3424) h2 ?_
      refine r_iload_n F 2 dX7_settle_79 rfl rfl ?_
      refine r_aload_n F 0 dX7_settle_80 rfl rfl ?_
      refine gf_X7_135 F dX7_settle_81 (rfl : kd 24 = 7) ?_
      refine r_imul F dX7_settle_84 ?_
      refine r_iadd F dX7_settle_85 ?_
      refine r_chk (fun h3 => ?_)
      refine r_iast F dX7_settle_86 (rfl : kd 25 = 8) (rfl : al 25 = 3424) h3 (fun M86 => ?_)
      refine r_aload_n F 0 dX7_settle_87 rfl rfl ?_
      refine gf_X7_7 F dX7_settle_88 (rfl : kd 24 = 7) ?_
      refine r_sipush F dX7_settle_91 (v := 426) (by decide) ?_
      refine r_dup2 F dX7_settle_94 rfl rfl ?_
      refine r_chk (fun h4 => ?_)
      refine r_iald F dX7_settle_95 (rfl : kd 25 = 8) (rfl : al 25 = 3424) h4 ?_
      refine r_iconst F dX7_settle_96 (v := 1) (by decide) ?_
      refine r_iadd F dX7_settle_97 ?_
      refine r_chk (fun h5 => ?_)
      refine r_iast F dX7_settle_98 (rfl : kd 25 = 8) (rfl : al 25 = 3424) h5 (fun M98 => ?_)
      refine r_iinc (ls' := fun q9 => [(1, .int q9), (0, .ref (gA G 24)), (2, .int y2), (3, .int y3)]) (k := 1) (v := y1 + (1 : Int32)) F dX7_settle_99 rfl rfl (by decide) (fun _ => rfl) (fun x99 => ?_)
      refine r_goto (tgt := 11) F dX7_settle_102 (by decide) ?_
      refine r_sub [1, 0] rfl ?_
      exact H11 x99 M98
    · refine r_aload_n F 0 dX7_settle_33 rfl rfl ?_
      refine gf_X7_7 F dX7_settle_34 (rfl : kd 24 = 7) ?_
      refine r_aload_n F 0 dX7_settle_37 rfl rfl ?_
      refine gf_X7_22 F dX7_settle_38 (rfl : kd 24 = 7) ?_
      refine r_iload_n F 3 dX7_settle_41 rfl rfl ?_
      refine r_chk (fun h6 => ?_)
      refine r_iald F dX7_settle_42 (rfl : kd 29 = 8) (rfl : al 29 = 7) h6 ?_
      refine r_aload_n F 0 dX7_settle_43 rfl rfl ?_
      refine gf_X7_22 F dX7_settle_44 (rfl : kd 24 = 7) ?_
      refine r_iload_n F 3 dX7_settle_47 rfl rfl ?_
      refine r_iconst F dX7_settle_48 (v := 1) (by decide) ?_
      refine r_iadd F dX7_settle_49 ?_
      refine r_aload_n F 0 dX7_settle_50 rfl rfl ?_
      refine gf_X7_135 F dX7_settle_51 (rfl : kd 24 = 7) ?_
      refine r_chk (fun h7 => ?_)
      refine r_irem F dX7_settle_54 (by simpa using h7) ?_
      refine r_chk (fun h8 => ?_)
      refine r_iald F dX7_settle_55 (rfl : kd 29 = 8) (rfl : al 29 = 7) h8 ?_
      refine r_cS (val := vI) (As := [.int (M.1 29 y3.toNatClampNeg), .int (M.1 29 ((y3 + (1 : Int32)) - (y3 + (1 : Int32)) / (M.1 24 13) * (M.1 24 13)).toNatClampNeg)]) (rest := [.ref (gA G 25)]) (fun q9 => .int q9 :: [.ref (gA G 25)]) F (c_X7_owes F.st F.gg (M.1 29 y3.toNatClampNeg) (M.1 29 ((y3 + (1 : Int32)) - (y3 + (1 : Int32)) / (M.1 24 13) * (M.1 24 13)).toNatClampNeg) M) (fun _ _ => rfl) dX7_settle_56 ml_X7_123 ys_X7_owes rfl (by decide) rfl (Nat.le_of_ble_eq_true rfl) (fun _ => rfl) (fun r56 M56 => ?_)
      refine r_dup2 F dX7_settle_59 rfl rfl ?_
      refine r_chk (fun h9 => ?_)
      refine r_iald F dX7_settle_60 (rfl : kd 25 = 8) (rfl : al 25 = 3424) h9 ?_
      refine r_iload_n F 2 dX7_settle_61 rfl rfl ?_
      refine r_isub F dX7_settle_62 ?_
      refine r_chk (fun h10 => ?_)
      refine r_iast F dX7_settle_63 (rfl : kd 25 = 8) (rfl : al 25 = 3424) h10 (fun M63 => ?_)
      refine r_iinc (ls' := fun q9 => [(3, .int q9), (0, .ref (gA G 24)), (1, .int y1), (2, .int y2)]) (k := 3) (v := y3 + (1 : Int32)) F dX7_settle_64 rfl rfl (by decide) (fun _ => rfl) (fun x64 => ?_)
      refine r_goto (tgt := 25) F dX7_settle_67 (by decide) ?_
      refine r_sub [1, 2, 3, 0] rfl ?_
      exact ih y1 y2 x64 M63

def f_X7_settle_11 : Nat → Int32 → Mem → Option (Int32 × Mem)
  | 0, _, _ => none
  | n + 1, y1, M => bn (f_X7_findsRing M) fun r12 M12 => if r12 = 0 then (some (y1, M12)) else (bn (f_X7_leastOfRing M12) fun r19 M19 => f_X7_settle_25 (f_X7_settle_11  n) FU y1 r19 (0 : Int32) M19)

set_option maxRecDepth 100000 in
set_option maxHeartbeats 4000000 in
theorem l_X7_settle_11 {G : GM} {p : Program} {l : Launch} {e : Env} {s : State} {m : MethodId} {args : Array Value} {below : List Frame} {meth : Method} {c : Code} (F : Fx G p l s m args meth c cX7_settle RX7 4 (some .int)) : ∀ (n : Nat) (y1 : Int32) (M : Mem), Rf G p l e s m args below meth c 10 4 emI (f_X7_settle_11  n y1 M) 11 [(0, .ref (gA G 24)), (1, .int y1)] [] M := by
  intro n
  induction n with
  | zero => intros; exact r_none
  | succ n ih =>
    intro y1 M
    rw [f_X7_settle_11]
    refine r_aload_n F 0 dX7_settle_11 rfl rfl ?_
    refine r_cV (val := vI) (As := []) (rest := []) (fun q9 => .int q9 :: []) F (c_X7_findsRing F.st F.gg  M) (fun _ _ => rfl) dX7_settle_12 ml_X7_138 yv_X7_findsRing (rfl : kd 24 = 7) (by decide) rfl rfl (by decide) rfl (Nat.le_of_ble_eq_true rfl) (fun _ => rfl) (fun r12 M12 => ?_)
    refine r_if_eq (tgt := 105) F dX7_settle_15 (by decide) (fun c1 => ?_) (fun c1 => ?_)
    · refine r_iload_n F 1 dX7_settle_105 rfl rfl ?_
      exact r_iret F rfl dX7_settle_106 rfl
    · refine r_aload_n F 0 dX7_settle_18 rfl rfl ?_
      refine r_cV (val := vI) (As := []) (rest := []) (fun q9 => .int q9 :: []) F (c_X7_leastOfRing F.st F.gg  M12) (fun _ _ => rfl) dX7_settle_19 ml_X7_142 yv_X7_leastOfRing (rfl : kd 24 = 7) (by decide) rfl rfl (by decide) rfl (Nat.le_of_ble_eq_true rfl) (fun _ => rfl) (fun r19 M19 => ?_)
      refine r_istore_n (ls' := [(2, .int r19), (0, .ref (gA G 24)), (1, .int y1)]) F dX7_settle_22 rfl (by decide) rfl ?_
      refine r_iconst F dX7_settle_23 (v := 0) (by decide) ?_
      refine r_istore_n (ls' := [(3, .int (0 : Int32)), (2, .int r19), (0, .ref (gA G 24)), (1, .int y1)]) F dX7_settle_24 rfl (by decide) rfl ?_
      refine r_sub [2, 3, 1, 0] rfl ?_
      exact l_X7_settle_25 F (f_X7_settle_11  n) (fun q0 M9 => ih q0 M9) FU y1 r19 (0 : Int32) M19

def f_X7_settle  (M : Mem) : Option (Int32 × Mem) := bnd (mw M 24 2 (0 : Int32)) fun M2 => bn (f_X7_keep M2) fun _ M6 => f_X7_settle_11  FU (0 : Int32) M6

set_option maxRecDepth 100000 in
set_option maxHeartbeats 4000000 in
theorem b_X7_settle {G : GM} {p : Program} {l : Launch} {e : Env} {s : State} {m : MethodId} {args : Array Value} {below : List Frame} {meth : Method} {c : Code} (F : Fx G p l s m args meth c cX7_settle RX7 4 (some .int))  (M : Mem) : Rf G p l e s m args below meth c 10 4 emI (f_X7_settle  M) 0 [(0, .ref (gA G 24))] [] M := by
  unfold f_X7_settle
  refine r_aload_n F 0 dX7_settle_0 rfl rfl ?_
  refine r_iconst F dX7_settle_1 (v := 0) (by decide) ?_
  refine pf_X7_37 F dX7_settle_2 (rfl : kd 24 = 7) (fun M2 => ?_)
  refine r_aload_n F 0 dX7_settle_5 rfl rfl ?_
  refine r_cV (val := vU) (As := []) (rest := []) (fun _ => []) F (c_X7_keep F.st F.gg  M2) (fun _ _ => rfl) dX7_settle_6 ml_X7_64 yv_X7_keep (rfl : kd 24 = 7) (by decide) rfl rfl (by decide) rfl (Nat.le_of_ble_eq_true rfl) (fun _ => rfl) (fun _ M6 => ?_)
  refine r_iconst F dX7_settle_9 (v := 0) (by decide) ?_
  refine r_istore_n (ls' := [(1, .int (0 : Int32)), (0, .ref (gA G 24))]) F dX7_settle_10 rfl (by decide) rfl ?_
  refine r_sub [1, 0] rfl ?_
  exact l_X7_settle_11 F   FU (0 : Int32) M6

set_option maxRecDepth 100000 in
set_option maxHeartbeats 4000000 in
theorem c_X7_settle {l : Launch} {G : GM} (hl : l.stackTraces = false) (hG : GG G)  (M : Mem) : ∀ r, f_X7_settle  M = some r → Ctr l G yX7_settle (.code yX7_settle cX7_settle 4 (some .int) :: wsA) 10 [.ref (gA G 24)] M (emI r) :=
  ctr_of (by decide) hl hG (Nat.le_of_ble_eq_true rfl) (fun p e s m args below meth c F => b_X7_settle F  M)

