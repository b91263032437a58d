-- ===== X6_checkSetting DrumTowns.checkSetting(I)V =====
theorem ys_X6_checkSetting : yS yX6_checkSetting cX6_checkSetting 1 none 1 := ⟨sc_X6_checkSetting, ini_X6, cd_X6_checkSetting, ⟨by decide, by decide, by decide +kernel⟩, by decide⟩

def f_X6_checkSetting_9  (M : Mem) : Option ((Unit ⊕ String) × Mem) := some (.inr exI, M)

set_option maxRecDepth 100000 in
set_option maxHeartbeats 4000000 in
theorem l_X6_checkSetting_9 {G : GM} {p : Program} {l : Launch} {e : Env} {s : State} {m : MethodId} {args : Array Value} {below : List Frame} {meth : Method} {c : Code} (F : Fx G p l s m args meth c cX6_checkSetting RX6 1 none)  (M : Mem) : Rf G p l e s m args below meth c 6 1 (emT vU) (f_X6_checkSetting_9   M) 9 [] [] M := by
  unfold f_X6_checkSetting_9
  exact r_throwW F atI cl_X6_355 ini_IndexOutOfBoundsException (by decide : (364, "there is no such setting") ∈ strW) dX6_checkSetting_9 dX6_checkSetting_12 dX6_checkSetting_13 dX6_checkSetting_16 dX6_checkSetting_19 (by decide) (Nat.le_of_ble_eq_true rfl)

def f_X6_checkSetting (a0 : Int32) (M : Mem) : Option ((Unit ⊕ String) × Mem) := if a0 < 0 then (f_X6_checkSetting_9   M) else (if a0 < (3 : Int32) then (some (.inl (), M)) else (f_X6_checkSetting_9   M))

set_option maxRecDepth 100000 in
set_option maxHeartbeats 4000000 in
theorem b_X6_checkSetting {G : GM} {p : Program} {l : Launch} {e : Env} {s : State} {m : MethodId} {args : Array Value} {below : List Frame} {meth : Method} {c : Code} (F : Fx G p l s m args meth c cX6_checkSetting RX6 1 none) (a0 : Int32) (M : Mem) : Rf G p l e s m args below meth c 6 1 (emT vU) (f_X6_checkSetting a0 M) 0 [(0, .int a0)] [] M := by
  unfold f_X6_checkSetting
  refine r_iload_n F 0 dX6_checkSetting_0 rfl rfl ?_
  refine r_if_lt (tgt := 9) F dX6_checkSetting_1 (by decide) (fun c1 => ?_) (fun c1 => ?_)
  · refine r_sub [] rfl ?_
    exact l_X6_checkSetting_9 F    M
  · refine r_iload_n F 0 dX6_checkSetting_4 rfl rfl ?_
    refine r_iconst F dX6_checkSetting_5 (v := 3) (by decide) ?_
    refine r_icmp_lt (tgt := 20) F dX6_checkSetting_6 (by decide) (fun c2 => ?_) (fun c2 => ?_)
    · exact r_vret F rfl dX6_checkSetting_20 rfl
    · refine r_sub [] rfl ?_
      exact l_X6_checkSetting_9 F    M

set_option maxRecDepth 100000 in
set_option maxHeartbeats 4000000 in
theorem c_X6_checkSetting {l : Launch} {G : GM} (hl : l.stackTraces = false) (hG : GG G) (a0 : Int32) (M : Mem) : ∀ r, f_X6_checkSetting a0 M = some r → Ctr l G yX6_checkSetting (.code yX6_checkSetting cX6_checkSetting 1 none :: wsA) 6 [.int a0] M ((emT vU) r) :=
  ctr_of (by decide) hl hG (Nat.le_of_ble_eq_true rfl) (fun p e s m args below meth c F => b_X6_checkSetting F a0 M)

-- ===== X6_clearBuffer DrumTowns.clearBuffer()I =====
theorem yv_X6_clearBuffer : yV yX6_clearBuffer cX6_clearBuffer 2 (some .int) 0 := ⟨im_X6_clearBuffer, sl_X6_clearBuffer, ini_X6, cd_X6_clearBuffer, ⟨by decide, by decide, by decide +kernel⟩, by decide⟩

def f_X6_clearBuffer  (M : Mem) : Option (Int32 × Mem) := bnd (M.1 2 1) fun x7 => bnd (mw M 2 1 (0 : Int32)) fun M13 => some (x7, M13)

set_option maxRecDepth 100000 in
set_option maxHeartbeats 4000000 in
theorem b_X6_clearBuffer {G : GM} {p : Program} {l : Launch} {e : Env} {s : State} {m : MethodId} {args : Array Value} {below : List Frame} {meth : Method} {c : Code} (F : Fx G p l s m args meth c cX6_clearBuffer RX6 2 (some .int))  (M : Mem) : Rf G p l e s m args below meth c 6 2 emI (f_X6_clearBuffer  M) 0 [(0, .ref (gA G 0))] [] M := by
  unfold f_X6_clearBuffer
  refine r_aload_n F 0 dX6_clearBuffer_0 rfl rfl ?_
  refine gf_X6_23 F dX6_clearBuffer_1 (rfl : kd 0 = 0) ?_
  refine gf_X6_189 F dX6_clearBuffer_4 (rfl : kd 2 = 6) ?_
  refine r_bi (fun x7 => ?_)
  refine r_istore_n (ls' := [(1, .int x7), (0, .ref (gA G 0))]) F dX6_clearBuffer_7 rfl (by decide) rfl ?_
  refine r_aload_n F 1 dX6_clearBuffer_8 rfl rfl ?_
  refine gf_X6_23 F dX6_clearBuffer_9 (rfl : kd 0 = 0) ?_
  refine r_iconst F dX6_clearBuffer_12 (v := 0) (by decide) ?_
  refine pf_X6_189 F dX6_clearBuffer_13 (rfl : kd 2 = 6) (fun M13 => ?_)
  refine r_iload_n F 0 dX6_clearBuffer_16 rfl rfl ?_
  exact r_iret F rfl dX6_clearBuffer_17 rfl

set_option maxRecDepth 100000 in
set_option maxHeartbeats 4000000 in
theorem c_X6_clearBuffer {l : Launch} {G : GM} (hl : l.stackTraces = false) (hG : GG G)  (M : Mem) : ∀ r, f_X6_clearBuffer  M = some r → Ctr l G yX6_clearBuffer (.code yX6_clearBuffer cX6_clearBuffer 2 (some .int) :: wsA) 6 [.ref (gA G 0)] M (emI r) :=
  ctr_of (by decide) hl hG (Nat.le_of_ble_eq_true rfl) (fun p e s m args below meth c F => b_X6_clearBuffer F  M)

-- ===== X6_count DrumTowns.count(I)I =====
theorem yv_X6_count : yV yX6_count cX6_count 2 (some .int) 1 := ⟨im_X6_count, sl_X6_count, ini_X6, cd_X6_count, ⟨by decide, by decide, by decide +kernel⟩, by decide⟩

def f_X6_count (a1 : Int32) (M : Mem) : Option ((Int32 ⊕ String) × Mem) := if a1 = 0 then (some (.inl (M.1 34 1), M)) else (if a1 = 1 then (bn (f_X0_pinsInBoxes 34 M) fun r72 M72 => bn (f_X0_pinsInDrums 34 M72) fun r79 M79 => some (.inl (r72 + r79), M79)) else (if a1 = 2 then (bn (f_X0_pinsInBoxes 34 M) fun r88 M88 => some (.inl r88, M88)) else (if a1 = 3 then (bn (f_X0_allDebts 34 M) fun r96 M96 => some (.inl r96, M96)) else (if a1 = 4 then (bn (f_X0_owingPairs 34 M) fun r104 M104 => some (.inl r104, M104)) else (if a1 = 5 then (some (.inl (M.1 34 4), M)) else (if a1 = 6 then (some (.inl (M.1 34 5), M)) else (if a1 = 7 then (some (.inl (M.1 34 6), M)) else (if a1 = 8 then (some (.inl (M.1 34 7), M)) else (if a1 = 9 then (bn (f_X0_allRightPins 34 M) fun r144 M144 => some (.inl r144, M144)) else (if a1 = 10 then (some (.inl (M.1 0 2), M)) else (some (.inr exA, M))))))))))))

set_option maxRecDepth 100000 in
set_option maxHeartbeats 4000000 in
theorem b_X6_count {G : GM} {p : Program} {l : Launch} {e : Env} {s : State} {m : MethodId} {args : Array Value} {below : List Frame} {meth : Method} {c : Code} (F : Fx G p l s m args meth c cX6_count RX6 2 (some .int)) (a1 : Int32) (M : Mem) : Rf G p l e s m args below meth c 10 2 (emT vI) (f_X6_count a1 M) 0 [(0, .ref (gA G 0)), (1, .int a1)] [] M := by
  unfold f_X6_count
  refine r_iload_n F 1 dX6_count_0 rfl rfl ?_
  refine r_ite (fun c1 => ?_) (fun c1 => ?_)
  · refine r_tabIn (tgt := 60) F dX6_count_1 c1 (by decide) (by decide) rfl (by decide) ?_
    refine r_aload_n F 0 dX6_count_60 rfl rfl ?_
    refine gf_X6_10 F dX6_count_61 (rfl : kd 0 = 0) ?_
    refine gf_X6_59 F dX6_count_64 (rfl : kd 34 = 1) ?_
    exact r_iret F rfl dX6_count_67 rfl
  refine r_ite (fun c2 => ?_) (fun c2 => ?_)
  · refine r_tabIn (tgt := 68) F dX6_count_1 c2 (by decide) (by decide) rfl (by decide) ?_
    refine r_aload_n F 0 dX6_count_68 rfl rfl ?_
    refine gf_X6_10 F dX6_count_69 (rfl : kd 0 = 0) ?_
    refine r_cVN (val := vI) (As := []) (rest := []) (fun q9 => .int q9 :: []) F (c_X0_pinsInBoxes F.st F.gg 34 M) (fun _ _ => rfl) dX6_count_72 mn_X6_244 yv_X0_pinsInBoxes (rfl : kd 34 = 1) (by decide) rfl rfl (by decide) rfl (Nat.le_of_ble_eq_true rfl) (fun _ => rfl) (fun r72 M72 => ?_)
    refine r_aload_n F 0 dX6_count_75 rfl rfl ?_
    refine gf_X6_10 F dX6_count_76 (rfl : kd 0 = 0) ?_
    refine r_cVN (val := vI) (As := []) (rest := [.int r72]) (fun q9 => .int q9 :: [.int r72]) F (c_X0_pinsInDrums F.st F.gg 34 M72) (fun _ _ => rfl) dX6_count_79 mn_X6_247 yv_X0_pinsInDrums (rfl : kd 34 = 1) (by decide) rfl rfl (by decide) rfl (Nat.le_of_ble_eq_true rfl) (fun _ => rfl) (fun r79 M79 => ?_)
    refine r_iadd F dX6_count_82 ?_
    exact r_iret F rfl dX6_count_83 rfl
  refine r_ite (fun c3 => ?_) (fun c3 => ?_)
  · refine r_tabIn (tgt := 84) F dX6_count_1 c3 (by decide) (by decide) rfl (by decide) ?_
    refine r_aload_n F 0 dX6_count_84 rfl rfl ?_
    refine gf_X6_10 F dX6_count_85 (rfl : kd 0 = 0) ?_
    refine r_cVN (val := vI) (As := []) (rest := []) (fun q9 => .int q9 :: []) F (c_X0_pinsInBoxes F.st F.gg 34 M) (fun _ _ => rfl) dX6_count_88 mn_X6_244 yv_X0_pinsInBoxes (rfl : kd 34 = 1) (by decide) rfl rfl (by decide) rfl (Nat.le_of_ble_eq_true rfl) (fun _ => rfl) (fun r88 M88 => ?_)
    exact r_iret F rfl dX6_count_91 rfl
  refine r_ite (fun c4 => ?_) (fun c4 => ?_)
  · refine r_tabIn (tgt := 92) F dX6_count_1 c4 (by decide) (by decide) rfl (by decide) ?_
    refine r_aload_n F 0 dX6_count_92 rfl rfl ?_
    refine gf_X6_10 F dX6_count_93 (rfl : kd 0 = 0) ?_
    refine r_cVN (val := vI) (As := []) (rest := []) (fun q9 => .int q9 :: []) F (c_X0_allDebts F.st F.gg 34 M) (fun _ _ => rfl) dX6_count_96 mn_X6_250 yv_X0_allDebts (rfl : kd 34 = 1) (by decide) rfl rfl (by decide) rfl (Nat.le_of_ble_eq_true rfl) (fun _ => rfl) (fun r96 M96 => ?_)
    exact r_iret F rfl dX6_count_99 rfl
  refine r_ite (fun c5 => ?_) (fun c5 => ?_)
  · refine r_tabIn (tgt := 100) F dX6_count_1 c5 (by decide) (by decide) rfl (by decide) ?_
    refine r_aload_n F 0 dX6_count_100 rfl rfl ?_
    refine gf_X6_10 F dX6_count_101 (rfl : kd 0 = 0) ?_
    refine r_cVN (val := vI) (As := []) (rest := []) (fun q9 => .int q9 :: []) F (c_X0_owingPairs F.st F.gg 34 M) (fun _ _ => rfl) dX6_count_104 mn_X6_253 yv_X0_owingPairs (rfl : kd 34 = 1) (by decide) rfl rfl (by decide) rfl (Nat.le_of_ble_eq_true rfl) (fun _ => rfl) (fun r104 M104 => ?_)
    exact r_iret F rfl dX6_count_107 rfl
  refine r_ite (fun c6 => ?_) (fun c6 => ?_)
  · refine r_tabIn (tgt := 108) F dX6_count_1 c6 (by decide) (by decide) rfl (by decide) ?_
    refine r_aload_n F 0 dX6_count_108 rfl rfl ?_
    refine gf_X6_10 F dX6_count_109 (rfl : kd 0 = 0) ?_
    refine gf_X6_168 F dX6_count_112 (rfl : kd 34 = 1) ?_
    exact r_iret F rfl dX6_count_115 rfl
  refine r_ite (fun c7 => ?_) (fun c7 => ?_)
  · refine r_tabIn (tgt := 116) F dX6_count_1 c7 (by decide) (by decide) rfl (by decide) ?_
    refine r_aload_n F 0 dX6_count_116 rfl rfl ?_
    refine gf_X6_10 F dX6_count_117 (rfl : kd 0 = 0) ?_
    refine gf_X6_173 F dX6_count_120 (rfl : kd 34 = 1) ?_
    exact r_iret F rfl dX6_count_123 rfl
  refine r_ite (fun c8 => ?_) (fun c8 => ?_)
  · refine r_tabIn (tgt := 124) F dX6_count_1 c8 (by decide) (by decide) rfl (by decide) ?_
    refine r_aload_n F 0 dX6_count_124 rfl rfl ?_
    refine gf_X6_10 F dX6_count_125 (rfl : kd 0 = 0) ?_
    refine gf_X6_256 F dX6_count_128 (rfl : kd 34 = 1) ?_
    exact r_iret F rfl dX6_count_131 rfl
  refine r_ite (fun c9 => ?_) (fun c9 => ?_)
  · refine r_tabIn (tgt := 132) F dX6_count_1 c9 (by decide) (by decide) rfl (by decide) ?_
    refine r_aload_n F 0 dX6_count_132 rfl rfl ?_
    refine gf_X6_10 F dX6_count_133 (rfl : kd 0 = 0) ?_
    refine gf_X6_259 F dX6_count_136 (rfl : kd 34 = 1) ?_
    exact r_iret F rfl dX6_count_139 rfl
  refine r_ite (fun c10 => ?_) (fun c10 => ?_)
  · refine r_tabIn (tgt := 140) F dX6_count_1 c10 (by decide) (by decide) rfl (by decide) ?_
    refine r_aload_n F 0 dX6_count_140 rfl rfl ?_
    refine gf_X6_10 F dX6_count_141 (rfl : kd 0 = 0) ?_
    refine r_cVN (val := vI) (As := []) (rest := []) (fun q9 => .int q9 :: []) F (c_X0_allRightPins F.st F.gg 34 M) (fun _ _ => rfl) dX6_count_144 mn_X6_262 yv_X0_allRightPins (rfl : kd 34 = 1) (by decide) rfl rfl (by decide) rfl (Nat.le_of_ble_eq_true rfl) (fun _ => rfl) (fun r144 M144 => ?_)
    exact r_iret F rfl dX6_count_147 rfl
  refine r_ite (fun c11 => ?_) (fun c11 => ?_)
  · refine r_tabIn (tgt := 148) F dX6_count_1 c11 (by decide) (by decide) rfl (by decide) ?_
    refine r_aload_n F 0 dX6_count_148 rfl rfl ?_
    refine gf_X6_208 F dX6_count_149 (rfl : kd 0 = 0) ?_
    exact r_iret F rfl dX6_count_152 rfl
  refine r_tabOut (tgt := 153) F dX6_count_1 (by have n0 := lv_neT (a := 0) c1 (by decide); have n1 := lv_neT (a := 1) c2 (by decide); have n2 := lv_neT (a := 2) c3 (by decide); have n3 := lv_neT (a := 3) c4 (by decide); have n4 := lv_neT (a := 4) c5 (by decide); have n5 := lv_neT (a := 5) c6 (by decide); have n6 := lv_neT (a := 6) c7 (by decide); have n7 := lv_neT (a := 7) c8 (by decide); have n8 := lv_neT (a := 8) c9 (by decide); have n9 := lv_neT (a := 9) c10 (by decide); have n10 := lv_neT (a := 10) c11 (by decide); omega) (by decide) ?_
  exact r_throwW F atA cl_X6_52 ini_IllegalArgumentException (by decide : (265, "what is not 0 to 10") ∈ strW) dX6_count_153 dX6_count_156 dX6_count_157 dX6_count_160 dX6_count_163 (by decide) (Nat.le_of_ble_eq_true rfl)

set_option maxRecDepth 100000 in
set_option maxHeartbeats 4000000 in
theorem c_X6_count {l : Launch} {G : GM} (hl : l.stackTraces = false) (hG : GG G) (a1 : Int32) (M : Mem) : ∀ r, f_X6_count a1 M = some r → Ctr l G yX6_count (.code yX6_count cX6_count 2 (some .int) :: wsA) 10 [.ref (gA G 0), .int a1] M ((emT vI) r) :=
  ctr_of (by decide) hl hG (Nat.le_of_ble_eq_true rfl) (fun p e s m args below meth c F => b_X6_count F a1 M)

-- ===== X6_debt DrumTowns.debt(II)I =====
theorem yv_X6_debt : yV yX6_debt cX6_debt 3 (some .int) 2 := ⟨im_X6_debt, sl_X6_debt, ini_X6, cd_X6_debt, ⟨by decide, by decide, by decide +kernel⟩, by decide⟩

def f_X6_debt (a1 : Int32) (a2 : Int32) (M : Mem) : Option ((Int32 ⊕ String) × Mem) := bt (f_X6_checkTown a1 M) fun _ M2 => bt (f_X6_checkTown a2 M2) fun _ M7 => chk (inb a1 6) <| bnd (rw' 37 a1) fun b18 => chk (inb a2 6) <| some (.inl (M7.1 b18 a2.toNatClampNeg), M7)

set_option maxRecDepth 100000 in
set_option maxHeartbeats 4000000 in
theorem b_X6_debt {G : GM} {p : Program} {l : Launch} {e : Env} {s : State} {m : MethodId} {args : Array Value} {below : List Frame} {meth : Method} {c : Code} (F : Fx G p l s m args meth c cX6_debt RX6 3 (some .int)) (a1 : Int32) (a2 : Int32) (M : Mem) : Rf G p l e s m args below meth c 7 3 (emT vI) (f_X6_debt a1 a2 M) 0 [(0, .ref (gA G 0)), (1, .int a1), (2, .int a2)] [] M := by
  unfold f_X6_debt
  refine r_aload_n F 0 dX6_debt_0 rfl rfl ?_
  refine r_iload_n F 1 dX6_debt_1 rfl rfl ?_
  refine r_tV (val := vU) (As := [.int a1]) (rest := []) (fun _ => []) F (c_X6_checkTown F.st F.gg a1 M) dX6_debt_2 ml_X6_120 yv_X6_checkTown (rfl : kd 0 = 0) (by decide) rfl rfl (by decide) rfl (Nat.le_of_ble_eq_true rfl) (fun _ => rfl) (fun _ M2 => ?_)
  refine r_aload_n F 0 dX6_debt_5 rfl rfl ?_
  refine r_iload_n F 2 dX6_debt_6 rfl rfl ?_
  refine r_tV (val := vU) (As := [.int a2]) (rest := []) (fun _ => []) F (c_X6_checkTown F.st F.gg a2 M2) dX6_debt_7 ml_X6_120 yv_X6_checkTown (rfl : kd 0 = 0) (by decide) rfl rfl (by decide) rfl (Nat.le_of_ble_eq_true rfl) (fun _ => rfl) (fun _ M7 => ?_)
  refine r_aload_n F 0 dX6_debt_10 rfl rfl ?_
  refine gf_X6_10 F dX6_debt_11 (rfl : kd 0 = 0) ?_
  refine gf_X6_164 F dX6_debt_14 (rfl : kd 34 = 1) ?_
  refine r_iload_n F 1 dX6_debt_17 rfl rfl ?_
  refine r_chk (fun h1 => ?_)
  refine r_aaldR F dX6_debt_18 (rfl : kd 37 = 11) h1 ?_
  refine r_bra (kRw (rfl : kd 37 = 11) h1) (aRw (rfl : kd 37 = 11) h1) (fun b18 k18 k18a => ?_)
  refine r_iload_n F 2 dX6_debt_19 rfl rfl ?_
  refine r_chk (fun h2 => ?_)
  refine r_iald F dX6_debt_20 k18 k18a h2 ?_
  exact r_iret F rfl dX6_debt_21 rfl

set_option maxRecDepth 100000 in
set_option maxHeartbeats 4000000 in
theorem c_X6_debt {l : Launch} {G : GM} (hl : l.stackTraces = false) (hG : GG G) (a1 : Int32) (a2 : Int32) (M : Mem) : ∀ r, f_X6_debt a1 a2 M = some r → Ctr l G yX6_debt (.code yX6_debt cX6_debt 3 (some .int) :: wsA) 7 [.ref (gA G 0), .int a1, .int a2] M ((emT vI) r) :=
  ctr_of (by decide) hl hG (Nat.le_of_ble_eq_true rfl) (fun p e s m args below meth c F => b_X6_debt F a1 a2 M)

-- ===== X6_mixed DrumTowns.mixed(JJ)J =====
theorem ys_X6_mixed : yS yX6_mixed cX6_mixed 4 (some .long) 2 := ⟨sc_X6_mixed, ini_X6, cd_X6_mixed, ⟨by decide, by decide, by decide +kernel⟩, by decide⟩

def f_X6_mixed (a0 : Int64) (a2 : Int64) (M : Mem) : Option (Int64 × Mem) := some ((((31 : Int64) * a0) + a2), M)

set_option maxRecDepth 100000 in
set_option maxHeartbeats 4000000 in
theorem b_X6_mixed {G : GM} {p : Program} {l : Launch} {e : Env} {s : State} {m : MethodId} {args : Array Value} {below : List Frame} {meth : Method} {c : Code} (F : Fx G p l s m args meth c cX6_mixed RX6 4 (some .long)) (a0 : Int64) (a2 : Int64) (M : Mem) : Rf G p l e s m args below meth c 6 4 emL (f_X6_mixed a0 a2 M) 0 [(0, .long a0), (2, .long a2)] [] M := by
  unfold f_X6_mixed
  refine r_ldc2 F dX6_mixed_0 kc_X6_334 ?_
  refine r_lload_n F 0 dX6_mixed_3 rfl rfl ?_
  refine r_lmul F dX6_mixed_4 ?_
  refine r_lload_n F 1 dX6_mixed_5 rfl rfl ?_
  refine r_ladd F dX6_mixed_6 ?_
  exact r_lret F rfl dX6_mixed_7 rfl

set_option maxRecDepth 100000 in
set_option maxHeartbeats 4000000 in
theorem c_X6_mixed {l : Launch} {G : GM} (hl : l.stackTraces = false) (hG : GG G) (a0 : Int64) (a2 : Int64) (M : Mem) : ∀ r, f_X6_mixed a0 a2 M = some r → Ctr l G yX6_mixed (.code yX6_mixed cX6_mixed 4 (some .long) :: wsA) 6 [.long a0, .long a2] M (emL r) :=
  ctr_of (by decide) hl hG (Nat.le_of_ble_eq_true rfl) (fun p e s m args below meth c F => b_X6_mixed F a0 a2 M)

-- ===== X6_mixedWithRing DrumTowns.mixedWithRing(J)J =====
theorem yv_X6_mixedWithRing : yV yX6_mixedWithRing cX6_mixedWithRing 6 (some .long) 1 := ⟨im_X6_mixedWithRing, sl_X6_mixedWithRing, ini_X6, cd_X6_mixedWithRing, ⟨by decide, by decide, by decide +kernel⟩, by decide⟩

def f_X6_mixedWithRing_42 : Nat → Int64 → Int32 → Mem → Option (Int64 × Mem)
  | 0, _, _, _ => none
  | n + 1, y3, y5, M => if (6 : Int32) ≤ y5 then (some (y3, M)) else (bn (f_X2_tell ((10 : Int32) + y5) M) fun r59 M59 => bn (f_X6_mixed y3 ((r59).toInt64) M59) fun r63 M63 => bnd (y5 + (1 : Int32)) fun x67 => f_X6_mixedWithRing_42  n r63 x67 M63)

set_option maxRecDepth 100000 in
set_option maxHeartbeats 4000000 in
theorem l_X6_mixedWithRing_42 {G : GM} {p : Program} {l : Launch} {e : Env} {s : State} {m : MethodId} {args : Array Value} {below : List Frame} {meth : Method} {c : Code} (F : Fx G p l s m args meth c cX6_mixedWithRing RX6 6 (some .long)) : ∀ (n : Nat) (y3 : Int64) (y5 : Int32) (M : Mem), Rf G p l e s m args below meth c 17 6 emL (f_X6_mixedWithRing_42  n y3 y5 M) 42 [(0, .ref (gA G 0)), (3, .long y3), (5, .int y5)] [] M := by
  intro n
  induction n with
  | zero => intros; exact r_none
  | succ n ih =>
    intro y3 y5 M
    rw [f_X6_mixedWithRing_42]
    refine r_iload F 2 dX6_mixedWithRing_42 rfl ?_
    refine r_bipush F dX6_mixedWithRing_44 (v := 6) (by decide) ?_
    refine r_icmp_ge (tgt := 73) F dX6_mixedWithRing_46 (by decide) (fun c1 => ?_) (fun c1 => ?_)
    · refine r_lload_n F 1 dX6_mixedWithRing_73 rfl rfl ?_
      exact r_lret F rfl dX6_mixedWithRing_74 rfl
    · refine r_lload_n F 1 dX6_mixedWithRing_49 rfl rfl ?_
      refine r_aload_n F 0 dX6_mixedWithRing_50 rfl rfl ?_
      refine gf_X6_37 F dX6_mixedWithRing_51 (rfl : kd 0 = 0) ?_
      refine r_bipush F dX6_mixedWithRing_54 (v := 10) (by decide) ?_
      refine r_iload F 2 dX6_mixedWithRing_56 rfl ?_
      refine r_iadd F dX6_mixedWithRing_58 ?_
      refine r_cVN (val := vI) (As := [.int ((10 : Int32) + y5)]) (rest := [.long y3]) (fun q9 => .int q9 :: [.long y3]) F (c_X2_tell F.st F.gg ((10 : Int32) + y5) M) (fun _ _ => rfl) dX6_mixedWithRing_59 mn_X6_302 yv_X2_tell (rfl : kd 10 = 4) (by decide) rfl rfl (by decide) rfl (Nat.le_of_ble_eq_true rfl) (fun _ => rfl) (fun r59 M59 => ?_)
      refine r_i2l F dX6_mixedWithRing_62 ?_
      refine r_cS (val := vL) (As := [.long y3, .long ((r59).toInt64)]) (rest := []) (fun q9 => .long q9 :: []) F (c_X6_mixed F.st F.gg y3 ((r59).toInt64) M59) (fun _ _ => rfl) dX6_mixedWithRing_63 ml_X6_308 ys_X6_mixed rfl (by decide) rfl (Nat.le_of_ble_eq_true rfl) (fun _ => rfl) (fun r63 M63 => ?_)
      refine r_lstore_n (ls' := [(3, .long r63), (0, .ref (gA G 0)), (5, .int y5)]) F dX6_mixedWithRing_66 rfl (by decide) rfl ?_
      refine r_iinc (ls' := fun q9 => [(5, .int q9), (3, .long r63), (0, .ref (gA G 0))]) (k := 2) (v := y5 + (1 : Int32)) F dX6_mixedWithRing_67 rfl rfl (by decide) (fun _ => rfl) (fun x67 => ?_)
      refine r_goto (tgt := 42) F dX6_mixedWithRing_70 (by decide) ?_
      refine r_sub [2, 1, 0] rfl ?_
      exact ih r63 x67 M63

def f_X6_mixedWithRing (a1 : Int64) (M : Mem) : Option (Int64 × Mem) := bn (f_X2_find 34 M) fun _ M8 => bn (f_X2_tell (0 : Int32) M8) fun r17 M17 => bn (f_X6_mixed a1 ((r17).toInt64) M17) fun r21 M21 => bn (f_X2_tell (1 : Int32) M21) fun r31 M31 => bn (f_X6_mixed r21 ((r31).toInt64) M31) fun r35 M35 => f_X6_mixedWithRing_42  FU r35 (0 : Int32) M35

set_option maxRecDepth 100000 in
set_option maxHeartbeats 4000000 in
theorem b_X6_mixedWithRing {G : GM} {p : Program} {l : Launch} {e : Env} {s : State} {m : MethodId} {args : Array Value} {below : List Frame} {meth : Method} {c : Code} (F : Fx G p l s m args meth c cX6_mixedWithRing RX6 6 (some .long)) (a1 : Int64) (M : Mem) : Rf G p l e s m args below meth c 17 6 emL (f_X6_mixedWithRing a1 M) 0 [(0, .ref (gA G 0)), (1, .long a1)] [] M := by
  unfold f_X6_mixedWithRing
  refine r_aload_n F 0 dX6_mixedWithRing_0 rfl rfl ?_
  refine gf_X6_37 F dX6_mixedWithRing_1 (rfl : kd 0 = 0) ?_
  refine r_aload_n F 0 dX6_mixedWithRing_4 rfl rfl ?_
  refine gf_X6_10 F dX6_mixedWithRing_5 (rfl : kd 0 = 0) ?_
  refine r_cVN (val := vU) (As := [.ref (gA G 34)]) (rest := []) (fun _ => []) F (c_X2_find F.st F.gg 34 M) (fun _ _ => rfl) dX6_mixedWithRing_8 mn_X6_176 yv_X2_find (rfl : kd 10 = 4) (by decide) rfl rfl (by decide) rfl (Nat.le_of_ble_eq_true rfl) (fun _ => rfl) (fun _ M8 => ?_)
  refine r_lload_n F 1 dX6_mixedWithRing_11 rfl rfl ?_
  refine r_aload_n F 0 dX6_mixedWithRing_12 rfl rfl ?_
  refine gf_X6_37 F dX6_mixedWithRing_13 (rfl : kd 0 = 0) ?_
  refine r_iconst F dX6_mixedWithRing_16 (v := 0) (by decide) ?_
  refine r_cVN (val := vI) (As := [.int (0 : Int32)]) (rest := [.long a1]) (fun q9 => .int q9 :: [.long a1]) F (c_X2_tell F.st F.gg (0 : Int32) M8) (fun _ _ => rfl) dX6_mixedWithRing_17 mn_X6_302 yv_X2_tell (rfl : kd 10 = 4) (by decide) rfl rfl (by decide) rfl (Nat.le_of_ble_eq_true rfl) (fun _ => rfl) (fun r17 M17 => ?_)
  refine r_i2l F dX6_mixedWithRing_20 ?_
  refine r_cS (val := vL) (As := [.long a1, .long ((r17).toInt64)]) (rest := []) (fun q9 => .long q9 :: []) F (c_X6_mixed F.st F.gg a1 ((r17).toInt64) M17) (fun _ _ => rfl) dX6_mixedWithRing_21 ml_X6_308 ys_X6_mixed rfl (by decide) rfl (Nat.le_of_ble_eq_true rfl) (fun _ => rfl) (fun r21 M21 => ?_)
  refine r_lstore_n (ls' := [(3, .long r21), (0, .ref (gA G 0)), (1, .long a1)]) F dX6_mixedWithRing_24 rfl (by decide) rfl ?_
  refine r_lload_n F 0 dX6_mixedWithRing_25 rfl rfl ?_
  refine r_aload_n F 1 dX6_mixedWithRing_26 rfl rfl ?_
  refine gf_X6_37 F dX6_mixedWithRing_27 (rfl : kd 0 = 0) ?_
  refine r_iconst F dX6_mixedWithRing_30 (v := 1) (by decide) ?_
  refine r_cVN (val := vI) (As := [.int (1 : Int32)]) (rest := [.long r21]) (fun q9 => .int q9 :: [.long r21]) F (c_X2_tell F.st F.gg (1 : Int32) M21) (fun _ _ => rfl) dX6_mixedWithRing_31 mn_X6_302 yv_X2_tell (rfl : kd 10 = 4) (by decide) rfl rfl (by decide) rfl (Nat.le_of_ble_eq_true rfl) (fun _ => rfl) (fun r31 M31 => ?_)
  refine r_i2l F dX6_mixedWithRing_34 ?_
  refine r_cS (val := vL) (As := [.long r21, .long ((r31).toInt64)]) (rest := []) (fun q9 => .long q9 :: []) F (c_X6_mixed F.st F.gg r21 ((r31).toInt64) M31) (fun _ _ => rfl) dX6_mixedWithRing_35 ml_X6_308 ys_X6_mixed rfl (by decide) rfl (Nat.le_of_ble_eq_true rfl) (fun _ => rfl) (fun r35 M35 => ?_)
  refine r_lstore_n (ls' := [(3, .long r35), (0, .ref (gA G 0)), (1, .long a1)]) F dX6_mixedWithRing_38 rfl (by decide) rfl ?_
  refine r_iconst F dX6_mixedWithRing_39 (v := 0) (by decide) ?_
  refine r_istore (ls' := [(5, .int (0 : Int32)), (3, .long r35), (0, .ref (gA G 0)), (1, .long a1)]) F dX6_mixedWithRing_40 (by decide) rfl ?_
  refine r_sub [2, 1, 0] rfl ?_
  exact l_X6_mixedWithRing_42 F   FU r35 (0 : Int32) M35

set_option maxRecDepth 100000 in
set_option maxHeartbeats 4000000 in
theorem c_X6_mixedWithRing {l : Launch} {G : GM} (hl : l.stackTraces = false) (hG : GG G) (a1 : Int64) (M : Mem) : ∀ r, f_X6_mixedWithRing a1 M = some r → Ctr l G yX6_mixedWithRing (.code yX6_mixedWithRing cX6_mixedWithRing 6 (some .long) :: wsA) 17 [.ref (gA G 0), .long a1] M (emL r) :=
  ctr_of (by decide) hl hG (Nat.le_of_ble_eq_true rfl) (fun p e s m args below meth c F => b_X6_mixedWithRing F a1 M)

-- ===== X6_foresee DrumTowns.foresee(I)V =====
theorem yv_X6_foresee : yV yX6_foresee cX6_foresee 3 none 1 := ⟨im_X6_foresee, sl_X6_foresee, ini_X6, cd_X6_foresee, ⟨by decide, by decide, by decide +kernel⟩, by decide⟩

def f_X6_foresee (a1 : Int32) (M : Mem) : Option (Unit × Mem) := chk (inb a1 6) <| bnd (tw 35 a1) fun b8 => bn (f_X1_begin b8 36 M) fun _ M22 => bn (f_X1_goThrough (b8 + 2) M22) fun _ M33 => some ((), M33)

set_option maxRecDepth 100000 in
set_option maxHeartbeats 4000000 in
theorem b_X6_foresee {G : GM} {p : Program} {l : Launch} {e : Env} {s : State} {m : MethodId} {args : Array Value} {below : List Frame} {meth : Method} {c : Code} (F : Fx G p l s m args meth c cX6_foresee RX6 3 none) (a1 : Int32) (M : Mem) : Rf G p l e s m args below meth c 9 3 emV (f_X6_foresee a1 M) 0 [(0, .ref (gA G 0)), (1, .int a1)] [] M := by
  unfold f_X6_foresee
  refine r_aload_n F 0 dX6_foresee_0 rfl rfl ?_
  refine gf_X6_10 F dX6_foresee_1 (rfl : kd 0 = 0) ?_
  refine gf_X6_76 F dX6_foresee_4 (rfl : kd 34 = 1) ?_
  refine r_iload_n F 1 dX6_foresee_7 rfl rfl ?_
  refine r_chk (fun h1 => ?_)
  refine r_aaldT F dX6_foresee_8 (rfl : kd 35 = 9) h1 ?_
  refine r_br (kTw' (rfl : kd 35 = 9) h1) (fun b8 k8 => ?_)
  refine r_astore_n (ls' := [(2, .ref (gA G b8)), (0, .ref (gA G 0)), (1, .int a1)]) F dX6_foresee_9 rfl (by decide) rfl ?_
  refine r_aload_n F 1 dX6_foresee_10 rfl rfl ?_
  refine gf_X6_30 F dX6_foresee_11 (rfl : kd 0 = 0) ?_
  refine r_aload_n F 0 dX6_foresee_14 rfl rfl ?_
  refine r_aload_n F 1 dX6_foresee_15 rfl rfl ?_
  refine gf_X6_10 F dX6_foresee_16 (rfl : kd 0 = 0) ?_
  refine gf_X6_68 F dX6_foresee_19 (rfl : kd 34 = 1) ?_
  refine r_cVN (val := vU) (As := [.ref (gA G b8), .ref (gA G 36)]) (rest := []) (fun _ => []) F (c_X1_begin F.st F.gg b8 36 M) (fun _ _ => rfl) dX6_foresee_22 mn_X6_272 yv_X1_begin (rfl : kd 5 = 3) (by decide) rfl rfl (by decide) rfl (Nat.le_of_ble_eq_true rfl) (fun _ => rfl) (fun _ M22 => ?_)
  refine r_aload_n F 1 dX6_foresee_25 rfl rfl ?_
  refine gf_X6_30 F dX6_foresee_26 (rfl : kd 0 = 0) ?_
  refine r_aload_n F 0 dX6_foresee_29 rfl rfl ?_
  refine gf_X6_207 F dX6_foresee_30 k8 ?_
  refine r_cVN (val := vU) (As := [.ref (gA G (b8 + 2))]) (rest := []) (fun _ => []) F (c_X1_goThrough F.st F.gg (b8 + 2) M22) (fun _ _ => rfl) dX6_foresee_33 mn_X6_276 yv_X1_goThrough (rfl : kd 5 = 3) (by decide) rfl rfl (by decide) rfl (Nat.le_of_ble_eq_true rfl) (fun _ => rfl) (fun _ M33 => ?_)
  exact r_vret F rfl dX6_foresee_36 rfl

set_option maxRecDepth 100000 in
set_option maxHeartbeats 4000000 in
theorem c_X6_foresee {l : Launch} {G : GM} (hl : l.stackTraces = false) (hG : GG G) (a1 : Int32) (M : Mem) : ∀ r, f_X6_foresee a1 M = some r → Ctr l G yX6_foresee (.code yX6_foresee cX6_foresee 3 none :: wsA) 9 [.ref (gA G 0), .int a1] M (emV r) :=
  ctr_of (by decide) hl hG (Nat.le_of_ble_eq_true rfl) (fun p e s m args below meth c F => b_X6_foresee F a1 M)

-- ===== X6_mixedWithRows DrumTowns.mixedWithRows(JI)J =====
theorem yv_X6_mixedWithRows : yV yX6_mixedWithRows cX6_mixedWithRows 8 (some .long) 2 := ⟨im_X6_mixedWithRows, sl_X6_mixedWithRows, ini_X6, cd_X6_mixedWithRows, ⟨by decide, by decide, by decide +kernel⟩, by decide⟩

def f_X6_mixedWithRows_95 : Nat → Int64 → Nat → Int32 → Mem → Option (Int64 × Mem)
  | 0, _, _, _, _ => none
  | n + 1, y4, y6, y7, M => if (24 : Int32) ≤ y7 then (some (y4, M)) else (chk (kb y6 2) <| chk (inb y7 24) <| bn (f_X6_mixed y4 (((M.1 (y6 + 1) y7.toNatClampNeg)).toInt64) M) fun r113 M113 => chk (inb y7 24) <| bn (f_X6_mixed r113 (((M113.1 (y6 + 2) y7.toNatClampNeg)).toInt64) M113) fun r129 M129 => chk (inb y7 24) <| bn (f_X6_mixed r129 (((M129.1 9 y7.toNatClampNeg)).toInt64) M129) fun r147 M147 => bnd (y7 + (1 : Int32)) fun x152 => f_X6_mixedWithRows_95  n r147 y6 x152 M147)

set_option maxRecDepth 100000 in
set_option maxHeartbeats 4000000 in
theorem l_X6_mixedWithRows_95 {G : GM} {p : Program} {l : Launch} {e : Env} {s : State} {m : MethodId} {args : Array Value} {below : List Frame} {meth : Method} {c : Code} (F : Fx G p l s m args meth c cX6_mixedWithRows RX6 8 (some .long)) : ∀ (n : Nat) (y4 : Int64) (y6 : Nat) (y7 : Int32) (M : Mem), Rf G p l e s m args below meth c 10 8 emL (f_X6_mixedWithRows_95  n y4 y6 y7 M) 95 [(0, .ref (gA G 0)), (4, .long y4), (6, .ref (gA G y6)), (7, .int y7)] [] M := by
  intro n
  induction n with
  | zero => intros; exact r_none
  | succ n ih =>
    intro y4 y6 y7 M
    rw [f_X6_mixedWithRows_95]
    refine r_iload F 3 dX6_mixedWithRows_95 rfl ?_
    refine r_bipush F dX6_mixedWithRows_97 (v := 24) (by decide) ?_
    refine r_icmp_ge (tgt := 158) F dX6_mixedWithRows_99 (by decide) (fun c1 => ?_) (fun c1 => ?_)
    · refine r_lload F 1 dX6_mixedWithRows_158 rfl ?_
      exact r_lret F rfl dX6_mixedWithRows_160 rfl
    · refine r_lload F 1 dX6_mixedWithRows_102 rfl ?_
      refine r_aload F 2 dX6_mixedWithRows_104 rfl ?_
      refine r_chk (fun h2 => ?_)
      refine gf_X6_109 F dX6_mixedWithRows_106 (kb_k h2) ?_
      refine r_iload F 3 dX6_mixedWithRows_109 rfl ?_
      refine r_chk (fun h3 => ?_)
      refine r_iald F dX6_mixedWithRows_111 (kTd (kb_k h2)) (aTd (kb_k h2)) h3 ?_
      refine r_i2l F dX6_mixedWithRows_112 ?_
      refine r_cS (val := vL) (As := [.long y4, .long (((M.1 (y6 + 1) y7.toNatClampNeg)).toInt64)]) (rest := []) (fun q9 => .long q9 :: []) F (c_X6_mixed F.st F.gg y4 (((M.1 (y6 + 1) y7.toNatClampNeg)).toInt64) M) (fun _ _ => rfl) dX6_mixedWithRows_113 ml_X6_308 ys_X6_mixed rfl (by decide) rfl (Nat.le_of_ble_eq_true rfl) (fun _ => rfl) (fun r113 M113 => ?_)
      refine r_lstore (ls' := [(4, .long r113), (0, .ref (gA G 0)), (6, .ref (gA G y6)), (7, .int y7)]) F dX6_mixedWithRows_116 (by decide) rfl ?_
      refine r_lload F 0 dX6_mixedWithRows_118 rfl ?_
      refine r_aload F 2 dX6_mixedWithRows_120 rfl ?_
      refine gf_X6_207 F dX6_mixedWithRows_122 (kb_k h2) ?_
      refine r_iload F 3 dX6_mixedWithRows_125 rfl ?_
      refine r_chk (fun h4 => ?_)
      refine r_iald F dX6_mixedWithRows_127 (kTt (kb_k h2)) (aTt (kb_k h2)) h4 ?_
      refine r_i2l F dX6_mixedWithRows_128 ?_
      refine r_cS (val := vL) (As := [.long r113, .long (((M113.1 (y6 + 2) y7.toNatClampNeg)).toInt64)]) (rest := []) (fun q9 => .long q9 :: []) F (c_X6_mixed F.st F.gg r113 (((M113.1 (y6 + 2) y7.toNatClampNeg)).toInt64) M113) (fun _ _ => rfl) dX6_mixedWithRows_129 ml_X6_308 ys_X6_mixed rfl (by decide) rfl (Nat.le_of_ble_eq_true rfl) (fun _ => rfl) (fun r129 M129 => ?_)
      refine r_lstore (ls' := [(4, .long r129), (0, .ref (gA G 0)), (6, .ref (gA G y6)), (7, .int y7)]) F dX6_mixedWithRows_132 (by decide) rfl ?_
      refine r_lload F 0 dX6_mixedWithRows_134 rfl ?_
      refine r_aload_n F 1 dX6_mixedWithRows_136 rfl rfl ?_
      refine gf_X6_30 F dX6_mixedWithRows_137 (rfl : kd 0 = 0) ?_
      refine gf_X6_239 F dX6_mixedWithRows_140 (rfl : kd 5 = 3) ?_
      refine r_iload F 3 dX6_mixedWithRows_143 rfl ?_
      refine r_chk (fun h5 => ?_)
      refine r_iald F dX6_mixedWithRows_145 (rfl : kd 9 = 8) (rfl : al 9 = 24) h5 ?_
      refine r_i2l F dX6_mixedWithRows_146 ?_
      refine r_cS (val := vL) (As := [.long r129, .long (((M129.1 9 y7.toNatClampNeg)).toInt64)]) (rest := []) (fun q9 => .long q9 :: []) F (c_X6_mixed F.st F.gg r129 (((M129.1 9 y7.toNatClampNeg)).toInt64) M129) (fun _ _ => rfl) dX6_mixedWithRows_147 ml_X6_308 ys_X6_mixed rfl (by decide) rfl (Nat.le_of_ble_eq_true rfl) (fun _ => rfl) (fun r147 M147 => ?_)
      refine r_lstore (ls' := [(4, .long r147), (0, .ref (gA G 0)), (6, .ref (gA G y6)), (7, .int y7)]) F dX6_mixedWithRows_150 (by decide) rfl ?_
      refine r_iinc (ls' := fun q9 => [(7, .int q9), (4, .long r147), (0, .ref (gA G 0)), (6, .ref (gA G y6))]) (k := 3) (v := y7 + (1 : Int32)) F dX6_mixedWithRows_152 rfl rfl (by decide) (fun _ => rfl) (fun x152 => ?_)
      refine r_goto (tgt := 95) F dX6_mixedWithRows_155 (by decide) ?_
      refine r_sub [2, 1, 3, 0] rfl ?_
      exact ih r147 y6 x152 M147

def f_X6_mixedWithRows_49 : Nat → Int32 → Int64 → Nat → Int32 → Mem → Option (Int64 × Mem)
  | 0, _, _, _, _, _ => none
  | n + 1, y3, y4, y6, y7, M => if (M.1 34 1) ≤ y7 then (bn (f_X6_foresee y3 M) fun _ M89 => f_X6_mixedWithRows_95  FU y4 y6 (0 : Int32) M89) else (chk (inb y3 6) <| bnd (rw' 37 y3) fun b71 => chk (inb y7 6) <| bn (f_X6_mixed y4 (((M.1 b71 y7.toNatClampNeg)).toInt64) M) fun r76 M76 => bnd (y7 + (1 : Int32)) fun x81 => f_X6_mixedWithRows_49  n y3 r76 y6 x81 M76)

set_option maxRecDepth 100000 in
set_option maxHeartbeats 4000000 in
theorem l_X6_mixedWithRows_49 {G : GM} {p : Program} {l : Launch} {e : Env} {s : State} {m : MethodId} {args : Array Value} {below : List Frame} {meth : Method} {c : Code} (F : Fx G p l s m args meth c cX6_mixedWithRows RX6 8 (some .long)) : ∀ (n : Nat) (y3 : Int32) (y4 : Int64) (y6 : Nat) (y7 : Int32) (M : Mem), Rf G p l e s m args below meth c 10 8 emL (f_X6_mixedWithRows_49  n y3 y4 y6 y7 M) 49 [(0, .ref (gA G 0)), (3, .int y3), (4, .long y4), (6, .ref (gA G y6)), (7, .int y7)] [] M := by
  intro n
  induction n with
  | zero => intros; exact r_none
  | succ n ih =>
    intro y3 y4 y6 y7 M
    rw [f_X6_mixedWithRows_49]
    refine r_iload F 4 dX6_mixedWithRows_49 rfl ?_
    refine r_aload_n F 0 dX6_mixedWithRows_51 rfl rfl ?_
    refine gf_X6_10 F dX6_mixedWithRows_52 (rfl : kd 0 = 0) ?_
    refine gf_X6_59 F dX6_mixedWithRows_55 (rfl : kd 34 = 1) ?_
    refine r_icmp_ge (tgt := 87) F dX6_mixedWithRows_58 (by decide) (fun c1 => ?_) (fun c1 => ?_)
    · refine r_aload_n F 0 dX6_mixedWithRows_87 rfl rfl ?_
      refine r_iload_n F 1 dX6_mixedWithRows_88 rfl rfl ?_
      refine r_cV (val := vU) (As := [.int y3]) (rest := []) (fun _ => []) F (c_X6_foresee F.st F.gg y3 M) (fun _ _ => rfl) dX6_mixedWithRows_89 ml_X6_145 yv_X6_foresee (rfl : kd 0 = 0) (by decide) rfl rfl (by decide) rfl (Nat.le_of_ble_eq_true rfl) (fun _ => rfl) (fun _ M89 => ?_)
      refine r_iconst F dX6_mixedWithRows_92 (v := 0) (by decide) ?_
      refine r_istore (ls' := [(7, .int (0 : Int32)), (0, .ref (gA G 0)), (3, .int y3), (4, .long y4), (6, .ref (gA G y6))]) F dX6_mixedWithRows_93 (by decide) rfl ?_
      refine r_sub [1, 3, 4, 0] rfl ?_
      exact l_X6_mixedWithRows_95 F   FU y4 y6 (0 : Int32) M89
    · refine r_lload F 2 dX6_mixedWithRows_61 rfl ?_
      refine r_aload_n F 0 dX6_mixedWithRows_63 rfl rfl ?_
      refine gf_X6_10 F dX6_mixedWithRows_64 (rfl : kd 0 = 0) ?_
      refine gf_X6_164 F dX6_mixedWithRows_67 (rfl : kd 34 = 1) ?_
      refine r_iload_n F 1 dX6_mixedWithRows_70 rfl rfl ?_
      refine r_chk (fun h2 => ?_)
      refine r_aaldR F dX6_mixedWithRows_71 (rfl : kd 37 = 11) h2 ?_
      refine r_bra (kRw (rfl : kd 37 = 11) h2) (aRw (rfl : kd 37 = 11) h2) (fun b71 k71 k71a => ?_)
      refine r_iload F 4 dX6_mixedWithRows_72 rfl ?_
      refine r_chk (fun h3 => ?_)
      refine r_iald F dX6_mixedWithRows_74 k71 k71a h3 ?_
      refine r_i2l F dX6_mixedWithRows_75 ?_
      refine r_cS (val := vL) (As := [.long y4, .long (((M.1 b71 y7.toNatClampNeg)).toInt64)]) (rest := []) (fun q9 => .long q9 :: []) F (c_X6_mixed F.st F.gg y4 (((M.1 b71 y7.toNatClampNeg)).toInt64) M) (fun _ _ => rfl) dX6_mixedWithRows_76 ml_X6_308 ys_X6_mixed rfl (by decide) rfl (Nat.le_of_ble_eq_true rfl) (fun _ => rfl) (fun r76 M76 => ?_)
      refine r_lstore (ls' := [(4, .long r76), (0, .ref (gA G 0)), (3, .int y3), (6, .ref (gA G y6)), (7, .int y7)]) F dX6_mixedWithRows_79 (by decide) rfl ?_
      refine r_iinc (ls' := fun q9 => [(7, .int q9), (4, .long r76), (0, .ref (gA G 0)), (3, .int y3), (6, .ref (gA G y6))]) (k := 4) (v := y7 + (1 : Int32)) F dX6_mixedWithRows_81 rfl rfl (by decide) (fun _ => rfl) (fun x81 => ?_)
      refine r_goto (tgt := 49) F dX6_mixedWithRows_84 (by decide) ?_
      refine r_sub [2, 3, 1, 4, 0] rfl ?_
      exact ih y3 r76 y6 x81 M76

def f_X6_mixedWithRows_17 : Nat → Int32 → Int64 → Nat → Int32 → Mem → Option (Int64 × Mem)
  | 0, _, _, _, _, _ => none
  | n + 1, y3, y4, y6, y7, M => if (12 : Int32) ≤ y7 then (f_X6_mixedWithRows_49  FU y3 y4 y6 (0 : Int32) M) else (chk (kb y6 2) <| chk (inb y7 12) <| bn (f_X6_mixed y4 (((M.1 (y6 + 3) y7.toNatClampNeg)).toInt64) M) fun r35 M35 => bnd (y7 + (1 : Int32)) fun x40 => f_X6_mixedWithRows_17  n y3 r35 y6 x40 M35)

set_option maxRecDepth 100000 in
set_option maxHeartbeats 4000000 in
theorem l_X6_mixedWithRows_17 {G : GM} {p : Program} {l : Launch} {e : Env} {s : State} {m : MethodId} {args : Array Value} {below : List Frame} {meth : Method} {c : Code} (F : Fx G p l s m args meth c cX6_mixedWithRows RX6 8 (some .long)) : ∀ (n : Nat) (y3 : Int32) (y4 : Int64) (y6 : Nat) (y7 : Int32) (M : Mem), Rf G p l e s m args below meth c 10 8 emL (f_X6_mixedWithRows_17  n y3 y4 y6 y7 M) 17 [(0, .ref (gA G 0)), (3, .int y3), (4, .long y4), (6, .ref (gA G y6)), (7, .int y7)] [] M := by
  intro n
  induction n with
  | zero => intros; exact r_none
  | succ n ih =>
    intro y3 y4 y6 y7 M
    rw [f_X6_mixedWithRows_17]
    refine r_iload F 4 dX6_mixedWithRows_17 rfl ?_
    refine r_bipush F dX6_mixedWithRows_19 (v := 12) (by decide) ?_
    refine r_icmp_ge (tgt := 46) F dX6_mixedWithRows_21 (by decide) (fun c1 => ?_) (fun c1 => ?_)
    · refine r_iconst F dX6_mixedWithRows_46 (v := 0) (by decide) ?_
      refine r_istore (ls' := [(7, .int (0 : Int32)), (0, .ref (gA G 0)), (3, .int y3), (4, .long y4), (6, .ref (gA G y6))]) F dX6_mixedWithRows_47 (by decide) rfl ?_
      refine r_sub [1, 2, 3, 4, 0] rfl ?_
      exact l_X6_mixedWithRows_49 F   FU y3 y4 y6 (0 : Int32) M
    · refine r_lload F 2 dX6_mixedWithRows_24 rfl ?_
      refine r_aload F 3 dX6_mixedWithRows_26 rfl ?_
      refine r_chk (fun h2 => ?_)
      refine gf_X6_142 F dX6_mixedWithRows_28 (kb_k h2) ?_
      refine r_iload F 4 dX6_mixedWithRows_31 rfl ?_
      refine r_chk (fun h3 => ?_)
      refine r_iald F dX6_mixedWithRows_33 (kTw (kb_k h2)) (aTw (kb_k h2)) h3 ?_
      refine r_i2l F dX6_mixedWithRows_34 ?_
      refine r_cS (val := vL) (As := [.long y4, .long (((M.1 (y6 + 3) y7.toNatClampNeg)).toInt64)]) (rest := []) (fun q9 => .long q9 :: []) F (c_X6_mixed F.st F.gg y4 (((M.1 (y6 + 3) y7.toNatClampNeg)).toInt64) M) (fun _ _ => rfl) dX6_mixedWithRows_35 ml_X6_308 ys_X6_mixed rfl (by decide) rfl (Nat.le_of_ble_eq_true rfl) (fun _ => rfl) (fun r35 M35 => ?_)
      refine r_lstore (ls' := [(4, .long r35), (0, .ref (gA G 0)), (3, .int y3), (6, .ref (gA G y6)), (7, .int y7)]) F dX6_mixedWithRows_38 (by decide) rfl ?_
      refine r_iinc (ls' := fun q9 => [(7, .int q9), (4, .long r35), (0, .ref (gA G 0)), (3, .int y3), (6, .ref (gA G y6))]) (k := 4) (v := y7 + (1 : Int32)) F dX6_mixedWithRows_40 rfl rfl (by decide) (fun _ => rfl) (fun x40 => ?_)
      refine r_goto (tgt := 17) F dX6_mixedWithRows_43 (by decide) ?_
      refine r_sub [2, 3, 1, 4, 0] rfl ?_
      exact ih y3 r35 y6 x40 M35

def f_X6_mixedWithRows (a1 : Int64) (a3 : Int32) (M : Mem) : Option (Int64 × Mem) := chk (inb a3 6) <| bnd (tw 35 a3) fun b11 => f_X6_mixedWithRows_17  FU a3 a1 b11 (0 : Int32) M

set_option maxRecDepth 100000 in
set_option maxHeartbeats 4000000 in
theorem b_X6_mixedWithRows {G : GM} {p : Program} {l : Launch} {e : Env} {s : State} {m : MethodId} {args : Array Value} {below : List Frame} {meth : Method} {c : Code} (F : Fx G p l s m args meth c cX6_mixedWithRows RX6 8 (some .long)) (a1 : Int64) (a3 : Int32) (M : Mem) : Rf G p l e s m args below meth c 10 8 emL (f_X6_mixedWithRows a1 a3 M) 0 [(0, .ref (gA G 0)), (1, .long a1), (3, .int a3)] [] M := by
  unfold f_X6_mixedWithRows
  refine r_lload_n F 1 dX6_mixedWithRows_0 rfl rfl ?_
  refine r_lstore (ls' := [(4, .long a1), (0, .ref (gA G 0)), (1, .long a1), (3, .int a3)]) F dX6_mixedWithRows_1 (by decide) rfl ?_
  refine r_aload_n F 1 dX6_mixedWithRows_3 rfl rfl ?_
  refine gf_X6_10 F dX6_mixedWithRows_4 (rfl : kd 0 = 0) ?_
  refine gf_X6_76 F dX6_mixedWithRows_7 (rfl : kd 34 = 1) ?_
  refine r_iload_n F 3 dX6_mixedWithRows_10 rfl rfl ?_
  refine r_chk (fun h1 => ?_)
  refine r_aaldT F dX6_mixedWithRows_11 (rfl : kd 35 = 9) h1 ?_
  refine r_br (kTw' (rfl : kd 35 = 9) h1) (fun b11 k11 => ?_)
  refine r_astore (ls' := [(6, .ref (gA G b11)), (4, .long a1), (0, .ref (gA G 0)), (1, .long a1), (3, .int a3)]) F dX6_mixedWithRows_12 (by decide) rfl ?_
  refine r_iconst F dX6_mixedWithRows_14 (v := 0) (by decide) ?_
  refine r_istore (ls' := [(7, .int (0 : Int32)), (6, .ref (gA G b11)), (4, .long a1), (0, .ref (gA G 0)), (1, .long a1), (3, .int a3)]) F dX6_mixedWithRows_15 (by decide) rfl ?_
  refine r_sub [3, 5, 2, 1, 0] rfl ?_
  exact l_X6_mixedWithRows_17 F   FU a3 a1 b11 (0 : Int32) M

set_option maxRecDepth 100000 in
set_option maxHeartbeats 4000000 in
theorem c_X6_mixedWithRows {l : Launch} {G : GM} (hl : l.stackTraces = false) (hG : GG G) (a1 : Int64) (a3 : Int32) (M : Mem) : ∀ r, f_X6_mixedWithRows a1 a3 M = some r → Ctr l G yX6_mixedWithRows (.code yX6_mixedWithRows cX6_mixedWithRows 8 (some .long) :: wsA) 10 [.ref (gA G 0), .long a1, .int a3] M (emL r) :=
  ctr_of (by decide) hl hG (Nat.le_of_ble_eq_true rfl) (fun p e s m args below meth c F => b_X6_mixedWithRows F a1 a3 M)

-- ===== X6_lastsFor DrumTowns.lastsFor(I)I =====
theorem yv_X6_lastsFor : yV yX6_lastsFor cX6_lastsFor 4 (some .int) 1 := ⟨im_X6_lastsFor, sl_X6_lastsFor, ini_X6, cd_X6_lastsFor, ⟨by decide, by decide, by decide +kernel⟩, by decide⟩

def f_X6_lastsFor_32 : Nat → Nat → Int32 → Mem → Option ((Int32 ⊕ String) × Mem)
  | 0, _, _, _ => none
  | n + 1, y2, y3, M => if (200 : Int32) < y3 then (some (.inl (-1 : Int32), M)) else (chk (kb y2 2) <| bn (f_X1_goThrough (y2 + 2) M) fun _ M47 => if (M47.1 5 10) ≤ 0 then (if (M47.1 5 6) = 0 then (some (.inl (-1 : Int32), M47)) else (bnd (y3 + (1 : Int32)) fun x74 => f_X6_lastsFor_32  n y2 x74 M47)) else (some (.inl y3, M47)))

set_option maxRecDepth 100000 in
set_option maxHeartbeats 4000000 in
theorem l_X6_lastsFor_32 {G : GM} {p : Program} {l : Launch} {e : Env} {s : State} {m : MethodId} {args : Array Value} {below : List Frame} {meth : Method} {c : Code} (F : Fx G p l s m args meth c cX6_lastsFor RX6 4 (some .int)) : ∀ (n : Nat) (y2 : Nat) (y3 : Int32) (M : Mem), Rf G p l e s m args below meth c 9 4 (emT vI) (f_X6_lastsFor_32  n y2 y3 M) 32 [(0, .ref (gA G 0)), (2, .ref (gA G y2)), (3, .int y3)] [] M := by
  intro n
  induction n with
  | zero => intros; exact r_none
  | succ n ih =>
    intro y2 y3 M
    rw [f_X6_lastsFor_32]
    refine r_iload_n F 2 dX6_lastsFor_32 rfl rfl ?_
    refine r_sipush F dX6_lastsFor_33 (v := 200) (by decide) ?_
    refine r_icmp_gt (tgt := 80) F dX6_lastsFor_36 (by decide) (fun c1 => ?_) (fun c1 => ?_)
    · refine r_iconst F dX6_lastsFor_80 (v := -1) (by decide) ?_
      exact r_iret F rfl dX6_lastsFor_81 rfl
    · refine r_aload_n F 0 dX6_lastsFor_39 rfl rfl ?_
      refine gf_X6_30 F dX6_lastsFor_40 (rfl : kd 0 = 0) ?_
      refine r_aload_n F 1 dX6_lastsFor_43 rfl rfl ?_
      refine r_chk (fun h2 => ?_)
      refine gf_X6_207 F dX6_lastsFor_44 (kb_k h2) ?_
      refine r_cVN (val := vU) (As := [.ref (gA G (y2 + 2))]) (rest := []) (fun _ => []) F (c_X1_goThrough F.st F.gg (y2 + 2) M) (fun _ _ => rfl) dX6_lastsFor_47 mn_X6_276 yv_X1_goThrough (rfl : kd 5 = 3) (by decide) rfl rfl (by decide) rfl (Nat.le_of_ble_eq_true rfl) (fun _ => rfl) (fun _ M47 => ?_)
      refine r_aload_n F 0 dX6_lastsFor_50 rfl rfl ?_
      refine gf_X6_30 F dX6_lastsFor_51 (rfl : kd 0 = 0) ?_
      refine gf_X6_280 F dX6_lastsFor_54 (rfl : kd 5 = 3) ?_
      refine r_if_le (tgt := 62) F dX6_lastsFor_57 (by decide) (fun c3 => ?_) (fun c3 => ?_)
      · refine r_aload_n F 0 dX6_lastsFor_62 rfl rfl ?_
        refine gf_X6_30 F dX6_lastsFor_63 (rfl : kd 0 = 0) ?_
        refine gf_X6_152 F dX6_lastsFor_66 (rfl : kd 5 = 3) ?_
        refine r_if_ne (tgt := 74) F dX6_lastsFor_69 (by decide) (fun c4 => ?_) (fun c4 => ?_)
        · refine r_iconst F dX6_lastsFor_72 (v := -1) (by decide) ?_
          exact r_iret F rfl dX6_lastsFor_73 rfl
        · refine r_iinc (ls' := fun q9 => [(3, .int q9), (0, .ref (gA G 0)), (2, .ref (gA G y2))]) (k := 2) (v := y3 + (1 : Int32)) F dX6_lastsFor_74 rfl rfl (by decide) (fun _ => rfl) (fun x74 => ?_)
          refine r_goto (tgt := 32) F dX6_lastsFor_77 (by decide) ?_
          refine r_sub [1, 2, 0] rfl ?_
          exact ih y2 x74 M47
      · refine r_iload_n F 2 dX6_lastsFor_60 rfl rfl ?_
        exact r_iret F rfl dX6_lastsFor_61 rfl

def f_X6_lastsFor (a1 : Int32) (M : Mem) : Option ((Int32 ⊕ String) × Mem) := bt (f_X6_checkTown a1 M) fun _ M2 => chk (inb a1 6) <| bnd (tw 35 a1) fun b13 => bn (f_X1_begin b13 36 M2) fun _ M27 => f_X6_lastsFor_32  FU b13 (1 : Int32) M27

set_option maxRecDepth 100000 in
set_option maxHeartbeats 4000000 in
theorem b_X6_lastsFor {G : GM} {p : Program} {l : Launch} {e : Env} {s : State} {m : MethodId} {args : Array Value} {below : List Frame} {meth : Method} {c : Code} (F : Fx G p l s m args meth c cX6_lastsFor RX6 4 (some .int)) (a1 : Int32) (M : Mem) : Rf G p l e s m args below meth c 9 4 (emT vI) (f_X6_lastsFor a1 M) 0 [(0, .ref (gA G 0)), (1, .int a1)] [] M := by
  unfold f_X6_lastsFor
  refine r_aload_n F 0 dX6_lastsFor_0 rfl rfl ?_
  refine r_iload_n F 1 dX6_lastsFor_1 rfl rfl ?_
  refine r_tV (val := vU) (As := [.int a1]) (rest := []) (fun _ => []) F (c_X6_checkTown F.st F.gg a1 M) dX6_lastsFor_2 ml_X6_120 yv_X6_checkTown (rfl : kd 0 = 0) (by decide) rfl rfl (by decide) rfl (Nat.le_of_ble_eq_true rfl) (fun _ => rfl) (fun _ M2 => ?_)
  refine r_aload_n F 0 dX6_lastsFor_5 rfl rfl ?_
  refine gf_X6_10 F dX6_lastsFor_6 (rfl : kd 0 = 0) ?_
  refine gf_X6_76 F dX6_lastsFor_9 (rfl : kd 34 = 1) ?_
  refine r_iload_n F 1 dX6_lastsFor_12 rfl rfl ?_
  refine r_chk (fun h1 => ?_)
  refine r_aaldT F dX6_lastsFor_13 (rfl : kd 35 = 9) h1 ?_
  refine r_br (kTw' (rfl : kd 35 = 9) h1) (fun b13 k13 => ?_)
  refine r_astore_n (ls' := [(2, .ref (gA G b13)), (0, .ref (gA G 0)), (1, .int a1)]) F dX6_lastsFor_14 rfl (by decide) rfl ?_
  refine r_aload_n F 1 dX6_lastsFor_15 rfl rfl ?_
  refine gf_X6_30 F dX6_lastsFor_16 (rfl : kd 0 = 0) ?_
  refine r_aload_n F 0 dX6_lastsFor_19 rfl rfl ?_
  refine r_aload_n F 1 dX6_lastsFor_20 rfl rfl ?_
  refine gf_X6_10 F dX6_lastsFor_21 (rfl : kd 0 = 0) ?_
  refine gf_X6_68 F dX6_lastsFor_24 (rfl : kd 34 = 1) ?_
  refine r_cVN (val := vU) (As := [.ref (gA G b13), .ref (gA G 36)]) (rest := []) (fun _ => []) F (c_X1_begin F.st F.gg b13 36 M2) (fun _ _ => rfl) dX6_lastsFor_27 mn_X6_272 yv_X1_begin (rfl : kd 5 = 3) (by decide) rfl rfl (by decide) rfl (Nat.le_of_ble_eq_true rfl) (fun _ => rfl) (fun _ M27 => ?_)
  refine r_iconst F dX6_lastsFor_30 (v := 1) (by decide) ?_
  refine r_istore_n (ls' := [(3, .int (1 : Int32)), (2, .ref (gA G b13)), (0, .ref (gA G 0)), (1, .int a1)]) F dX6_lastsFor_31 rfl (by decide) rfl ?_
  refine r_sub [2, 1, 0] rfl ?_
  exact l_X6_lastsFor_32 F   FU b13 (1 : Int32) M27

set_option maxRecDepth 100000 in
set_option maxHeartbeats 4000000 in
theorem c_X6_lastsFor {l : Launch} {G : GM} (hl : l.stackTraces = false) (hG : GG G) (a1 : Int32) (M : Mem) : ∀ r, f_X6_lastsFor a1 M = some r → Ctr l G yX6_lastsFor (.code yX6_lastsFor cX6_lastsFor 4 (some .int) :: wsA) 9 [.ref (gA G 0), .int a1] M ((emT vI) r) :=
  ctr_of (by decide) hl hG (Nat.le_of_ble_eq_true rfl) (fun p e s m args below meth c F => b_X6_lastsFor F a1 M)

-- ===== X6_town DrumTowns.town(II)I =====
theorem yv_X6_town : yV yX6_town cX6_town 4 (some .int) 2 := ⟨im_X6_town, sl_X6_town, ini_X6, cd_X6_town, ⟨by decide, by decide, by decide +kernel⟩, by decide⟩

def f_X6_town (a1 : Int32) (a2 : Int32) (M : Mem) : Option ((Int32 ⊕ String) × Mem) := bt (f_X6_checkTown a1 M) fun _ M2 => chk (inb a1 6) <| bnd (tw 35 a1) fun b13 => if a2 = 0 then (some (.inl (M2.1 b13 0), M2)) else (if a2 = 1 then (bn (f_X6_sizeOf (b13 + 1) M2) fun r89 M89 => some (.inl r89, M89)) else (if a2 = 2 then (bn (f_X6_sizeOf (b13 + 2) M2) fun r97 M97 => some (.inl r97, M97)) else (if a2 = 3 then (bn (f_X3_rightPins b13 M2) fun r102 M102 => some (.inl r102, M102)) else (if a2 = 4 then (bn (f_X6_sizeOf (b13 + 1) M2) fun r110 M110 => bn (f_X3_rightPins b13 M110) fun r114 M114 => some (.inl (r110 - r114), M114)) else (if a2 = 5 then (bn (f_X6_sizeOf (b13 + 2) M2) fun r123 M123 => bn (f_X3_rightPins b13 M123) fun r127 M127 => some (.inl (r123 - r127), M127)) else (if a2 = 6 then (bn (f_X0_owedBy 34 a1 M2) fun r137 M137 => some (.inl r137, M137)) else (if a2 = 7 then (bn (f_X0_owedTo 34 a1 M2) fun r146 M146 => some (.inl r146, M146)) else (if a2 = 8 then (some (.inl (M2.1 b13 4), M2)) else (if a2 = 9 then (some (.inl (M2.1 b13 5), M2)) else (if a2 = 10 then (some (.inl (M2.1 b13 6), M2)) else (if a2 = 11 then (chk (inb (1 : Int32) 3) <| bn (f_X6_dullTeeth (b13 + 3) (M2.1 36 (1 : Int32).toNatClampNeg) M2) fun r178 M178 => some (.inl r178, M178)) else (some (.inr exA, M2)))))))))))))

set_option maxRecDepth 100000 in
set_option maxHeartbeats 4000000 in
theorem b_X6_town {G : GM} {p : Program} {l : Launch} {e : Env} {s : State} {m : MethodId} {args : Array Value} {below : List Frame} {meth : Method} {c : Code} (F : Fx G p l s m args meth c cX6_town RX6 4 (some .int)) (a1 : Int32) (a2 : Int32) (M : Mem) : Rf G p l e s m args below meth c 9 4 (emT vI) (f_X6_town a1 a2 M) 0 [(0, .ref (gA G 0)), (1, .int a1), (2, .int a2)] [] M := by
  unfold f_X6_town
  refine r_aload_n F 0 dX6_town_0 rfl rfl ?_
  refine r_iload_n F 1 dX6_town_1 rfl rfl ?_
  refine r_tV (val := vU) (As := [.int a1]) (rest := []) (fun _ => []) F (c_X6_checkTown F.st F.gg a1 M) dX6_town_2 ml_X6_120 yv_X6_checkTown (rfl : kd 0 = 0) (by decide) rfl rfl (by decide) rfl (Nat.le_of_ble_eq_true rfl) (fun _ => rfl) (fun _ M2 => ?_)
  refine r_aload_n F 0 dX6_town_5 rfl rfl ?_
  refine gf_X6_10 F dX6_town_6 (rfl : kd 0 = 0) ?_
  refine gf_X6_76 F dX6_town_9 (rfl : kd 34 = 1) ?_
  refine r_iload_n F 1 dX6_town_12 rfl rfl ?_
  refine r_chk (fun h1 => ?_)
  refine r_aaldT F dX6_town_13 (rfl : kd 35 = 9) h1 ?_
  refine r_br (kTw' (rfl : kd 35 = 9) h1) (fun b13 k13 => ?_)
  refine r_astore_n (ls' := [(3, .ref (gA G b13)), (0, .ref (gA G 0)), (1, .int a1), (2, .int a2)]) F dX6_town_14 rfl (by decide) rfl ?_
  refine r_iload_n F 3 dX6_town_15 rfl rfl ?_
  refine r_ite (fun c2 => ?_) (fun c2 => ?_)
  · refine r_tabIn (tgt := 80) F dX6_town_16 c2 (by decide) (by decide) rfl (by decide) ?_
    refine r_aload_n F 0 dX6_town_80 rfl rfl ?_
    refine gf_X6_80 F dX6_town_81 k13 ?_
    exact r_iret F rfl dX6_town_84 rfl
  refine r_ite (fun c3 => ?_) (fun c3 => ?_)
  · refine r_tabIn (tgt := 85) F dX6_town_16 c3 (by decide) (by decide) rfl (by decide) ?_
    refine r_aload_n F 0 dX6_town_85 rfl rfl ?_
    refine gf_X6_109 F dX6_town_86 k13 ?_
    refine r_cS (val := vI) (As := [.ref (gA G (b13 + 1))]) (rest := []) (fun q9 => .int q9 :: []) F (c_X6_sizeOf F.st F.gg (b13 + 1) M2) (fun _ _ => rfl) dX6_town_89 ml_X6_112 ys_X6_sizeOf rfl (by decide) rfl (Nat.le_of_ble_eq_true rfl) (fun _ => rfl) (fun r89 M89 => ?_)
    exact r_iret F rfl dX6_town_92 rfl
  refine r_ite (fun c4 => ?_) (fun c4 => ?_)
  · refine r_tabIn (tgt := 93) F dX6_town_16 c4 (by decide) (by decide) rfl (by decide) ?_
    refine r_aload_n F 0 dX6_town_93 rfl rfl ?_
    refine gf_X6_207 F dX6_town_94 k13 ?_
    refine r_cS (val := vI) (As := [.ref (gA G (b13 + 2))]) (rest := []) (fun q9 => .int q9 :: []) F (c_X6_sizeOf F.st F.gg (b13 + 2) M2) (fun _ _ => rfl) dX6_town_97 ml_X6_112 ys_X6_sizeOf rfl (by decide) rfl (Nat.le_of_ble_eq_true rfl) (fun _ => rfl) (fun r97 M97 => ?_)
    exact r_iret F rfl dX6_town_100 rfl
  refine r_ite (fun c5 => ?_) (fun c5 => ?_)
  · refine r_tabIn (tgt := 101) F dX6_town_16 c5 (by decide) (by decide) rfl (by decide) ?_
    refine r_aload_n F 0 dX6_town_101 rfl rfl ?_
    refine r_cVN (val := vI) (As := []) (rest := []) (fun q9 => .int q9 :: []) F (c_X3_rightPins F.st F.gg b13 M2) (fun _ _ => rfl) dX6_town_102 mn_X6_129 yv_X3_rightPins k13 (by decide) rfl rfl (by decide) rfl (Nat.le_of_ble_eq_true rfl) (fun _ => rfl) (fun r102 M102 => ?_)
    exact r_iret F rfl dX6_town_105 rfl
  refine r_ite (fun c6 => ?_) (fun c6 => ?_)
  · refine r_tabIn (tgt := 106) F dX6_town_16 c6 (by decide) (by decide) rfl (by decide) ?_
    refine r_aload_n F 0 dX6_town_106 rfl rfl ?_
    refine gf_X6_109 F dX6_town_107 k13 ?_
    refine r_cS (val := vI) (As := [.ref (gA G (b13 + 1))]) (rest := []) (fun q9 => .int q9 :: []) F (c_X6_sizeOf F.st F.gg (b13 + 1) M2) (fun _ _ => rfl) dX6_town_110 ml_X6_112 ys_X6_sizeOf rfl (by decide) rfl (Nat.le_of_ble_eq_true rfl) (fun _ => rfl) (fun r110 M110 => ?_)
    refine r_aload_n F 0 dX6_town_113 rfl rfl ?_
    refine r_cVN (val := vI) (As := []) (rest := [.int r110]) (fun q9 => .int q9 :: [.int r110]) F (c_X3_rightPins F.st F.gg b13 M110) (fun _ _ => rfl) dX6_town_114 mn_X6_129 yv_X3_rightPins k13 (by decide) rfl rfl (by decide) rfl (Nat.le_of_ble_eq_true rfl) (fun _ => rfl) (fun r114 M114 => ?_)
    refine r_isub F dX6_town_117 ?_
    exact r_iret F rfl dX6_town_118 rfl
  refine r_ite (fun c7 => ?_) (fun c7 => ?_)
  · refine r_tabIn (tgt := 119) F dX6_town_16 c7 (by decide) (by decide) rfl (by decide) ?_
    refine r_aload_n F 0 dX6_town_119 rfl rfl ?_
    refine gf_X6_207 F dX6_town_120 k13 ?_
    refine r_cS (val := vI) (As := [.ref (gA G (b13 + 2))]) (rest := []) (fun q9 => .int q9 :: []) F (c_X6_sizeOf F.st F.gg (b13 + 2) M2) (fun _ _ => rfl) dX6_town_123 ml_X6_112 ys_X6_sizeOf rfl (by decide) rfl (Nat.le_of_ble_eq_true rfl) (fun _ => rfl) (fun r123 M123 => ?_)
    refine r_aload_n F 0 dX6_town_126 rfl rfl ?_
    refine r_cVN (val := vI) (As := []) (rest := [.int r123]) (fun q9 => .int q9 :: [.int r123]) F (c_X3_rightPins F.st F.gg b13 M123) (fun _ _ => rfl) dX6_town_127 mn_X6_129 yv_X3_rightPins k13 (by decide) rfl rfl (by decide) rfl (Nat.le_of_ble_eq_true rfl) (fun _ => rfl) (fun r127 M127 => ?_)
    refine r_isub F dX6_town_130 ?_
    exact r_iret F rfl dX6_town_131 rfl
  refine r_ite (fun c8 => ?_) (fun c8 => ?_)
  · refine r_tabIn (tgt := 132) F dX6_town_16 c8 (by decide) (by decide) rfl (by decide) ?_
    refine r_aload_n F 1 dX6_town_132 rfl rfl ?_
    refine gf_X6_10 F dX6_town_133 (rfl : kd 0 = 0) ?_
    refine r_iload_n F 2 dX6_town_136 rfl rfl ?_
    refine r_cVN (val := vI) (As := [.int a1]) (rest := []) (fun q9 => .int q9 :: []) F (c_X0_owedBy F.st F.gg 34 a1 M2) (fun _ _ => rfl) dX6_town_137 mn_X6_216 yv_X0_owedBy (rfl : kd 34 = 1) (by decide) rfl rfl (by decide) rfl (Nat.le_of_ble_eq_true rfl) (fun _ => rfl) (fun r137 M137 => ?_)
    exact r_iret F rfl dX6_town_140 rfl
  refine r_ite (fun c9 => ?_) (fun c9 => ?_)
  · refine r_tabIn (tgt := 141) F dX6_town_16 c9 (by decide) (by decide) rfl (by decide) ?_
    refine r_aload_n F 1 dX6_town_141 rfl rfl ?_
    refine gf_X6_10 F dX6_town_142 (rfl : kd 0 = 0) ?_
    refine r_iload_n F 2 dX6_town_145 rfl rfl ?_
    refine r_cVN (val := vI) (As := [.int a1]) (rest := []) (fun q9 => .int q9 :: []) F (c_X0_owedTo F.st F.gg 34 a1 M2) (fun _ _ => rfl) dX6_town_146 mn_X6_220 yv_X0_owedTo (rfl : kd 34 = 1) (by decide) rfl rfl (by decide) rfl (Nat.le_of_ble_eq_true rfl) (fun _ => rfl) (fun r146 M146 => ?_)
    exact r_iret F rfl dX6_town_149 rfl
  refine r_ite (fun c10 => ?_) (fun c10 => ?_)
  · refine r_tabIn (tgt := 150) F dX6_town_16 c10 (by decide) (by decide) rfl (by decide) ?_
    refine r_aload_n F 0 dX6_town_150 rfl rfl ?_
    refine gf_X6_223 F dX6_town_151 k13 ?_
    exact r_iret F rfl dX6_town_154 rfl
  refine r_ite (fun c11 => ?_) (fun c11 => ?_)
  · refine r_tabIn (tgt := 155) F dX6_town_16 c11 (by decide) (by decide) rfl (by decide) ?_
    refine r_aload_n F 0 dX6_town_155 rfl rfl ?_
    refine gf_X6_226 F dX6_town_156 k13 ?_
    exact r_iret F rfl dX6_town_159 rfl
  refine r_ite (fun c12 => ?_) (fun c12 => ?_)
  · refine r_tabIn (tgt := 160) F dX6_town_16 c12 (by decide) (by decide) rfl (by decide) ?_
    refine r_aload_n F 0 dX6_town_160 rfl rfl ?_
    refine gf_X6_227 F dX6_town_161 k13 ?_
    exact r_iret F rfl dX6_town_164 rfl
  refine r_ite (fun c13 => ?_) (fun c13 => ?_)
  · refine r_tabIn (tgt := 165) F dX6_town_16 c13 (by decide) (by decide) rfl (by decide) ?_
    refine r_aload_n F 0 dX6_town_165 rfl rfl ?_
    refine gf_X6_142 F dX6_town_166 k13 ?_
    refine r_aload_n F 1 dX6_town_169 rfl rfl ?_
    refine gf_X6_10 F dX6_town_170 (rfl : kd 0 = 0) ?_
    refine gf_X6_68 F dX6_town_173 (rfl : kd 34 = 1) ?_
    refine r_iconst F dX6_town_176 (v := 1) (by decide) ?_
    refine r_chk (fun h14 => ?_)
    refine r_iald F dX6_town_177 (rfl : kd 36 = 8) (rfl : al 36 = 3) h14 ?_
    refine r_cS (val := vI) (As := [.ref (gA G (b13 + 3)), .int (M2.1 36 (1 : Int32).toNatClampNeg)]) (rest := []) (fun q9 => .int q9 :: []) F (c_X6_dullTeeth F.st F.gg (b13 + 3) (M2.1 36 (1 : Int32).toNatClampNeg) M2) (fun _ _ => rfl) dX6_town_178 ml_X6_230 ys_X6_dullTeeth rfl (by decide) rfl (Nat.le_of_ble_eq_true rfl) (fun _ => rfl) (fun r178 M178 => ?_)
    exact r_iret F rfl dX6_town_181 rfl
  refine r_tabOut (tgt := 182) F dX6_town_16 (by have n0 := lv_neT (a := 0) c2 (by decide); have n1 := lv_neT (a := 1) c3 (by decide); have n2 := lv_neT (a := 2) c4 (by decide); have n3 := lv_neT (a := 3) c5 (by decide); have n4 := lv_neT (a := 4) c6 (by decide); have n5 := lv_neT (a := 5) c7 (by decide); have n6 := lv_neT (a := 6) c8 (by decide); have n7 := lv_neT (a := 7) c9 (by decide); have n8 := lv_neT (a := 8) c10 (by decide); have n9 := lv_neT (a := 9) c11 (by decide); have n10 := lv_neT (a := 10) c12 (by decide); have n11 := lv_neT (a := 11) c13 (by decide); omega) (by decide) ?_
  exact r_throw F atA cl_X6_52 ini_IllegalArgumentException (by decide : (234, "what is not 0 to 11") ∈ strW) dX6_town_182 dX6_town_185 dX6_town_186 dX6_town_188 dX6_town_191 (by decide) (Nat.le_of_ble_eq_true rfl)

set_option maxRecDepth 100000 in
set_option maxHeartbeats 4000000 in
theorem c_X6_town {l : Launch} {G : GM} (hl : l.stackTraces = false) (hG : GG G) (a1 : Int32) (a2 : Int32) (M : Mem) : ∀ r, f_X6_town a1 a2 M = some r → Ctr l G yX6_town (.code yX6_town cX6_town 4 (some .int) :: wsA) 9 [.ref (gA G 0), .int a1, .int a2] M ((emT vI) r) :=
  ctr_of (by decide) hl hG (Nat.le_of_ble_eq_true rfl) (fun p e s m args below meth c F => b_X6_town F a1 a2 M)

-- ===== X6_mixedWithTown DrumTowns.mixedWithTown(JI)J =====
theorem yv_X6_mixedWithTown : yV yX6_mixedWithTown cX6_mixedWithTown 7 (some .long) 2 := ⟨im_X6_mixedWithTown, sl_X6_mixedWithTown, ini_X6, cd_X6_mixedWithTown, ⟨by decide, by decide, by decide +kernel⟩, by decide⟩

def f_X6_mixedWithTown_42 : Nat → Int32 → Int64 → Int32 → Mem → Option ((Int64 ⊕ String) × Mem)
  | 0, _, _, _, _ => none
  | n + 1, y3, y4, y6, M => if (5 : Int32) ≤ y6 then (bt (f_X6_lastsFor y3 M) fun r75 M75 => bn (f_X6_mixed y4 ((r75).toInt64) M75) fun r79 M79 => bt (f_X6_bestTurn y3 (0 : Int32) M79) fun r89 M89 => bn (f_X6_mixed r79 ((r89).toInt64) M89) fun r93 M93 => bt (f_X6_bestTurn y3 (1 : Int32) M93) fun r103 M103 => bn (f_X6_mixed r93 ((r103).toInt64) M103) fun r107 M107 => bt (f_X6_bestDrum y3 M107) fun r116 M116 => bn (f_X6_mixed r107 ((r116).toInt64) M116) fun r120 M120 => some (.inl r120, M120)) else (bn (f_X1_tell y6 M) fun r56 M56 => bn (f_X6_mixed y4 ((r56).toInt64) M56) fun r60 M60 => bnd (y6 + (1 : Int32)) fun x65 => f_X6_mixedWithTown_42  n y3 r60 x65 M60)

set_option maxRecDepth 100000 in
set_option maxHeartbeats 4000000 in
theorem l_X6_mixedWithTown_42 {G : GM} {p : Program} {l : Launch} {e : Env} {s : State} {m : MethodId} {args : Array Value} {below : List Frame} {meth : Method} {c : Code} (F : Fx G p l s m args meth c cX6_mixedWithTown RX6 7 (some .long)) : ∀ (n : Nat) (y3 : Int32) (y4 : Int64) (y6 : Int32) (M : Mem), Rf G p l e s m args below meth c 10 7 (emT vL) (f_X6_mixedWithTown_42  n y3 y4 y6 M) 42 [(0, .ref (gA G 0)), (3, .int y3), (4, .long y4), (6, .int y6)] [] M := by
  intro n
  induction n with
  | zero => intros; exact r_none
  | succ n ih =>
    intro y3 y4 y6 M
    rw [f_X6_mixedWithTown_42]
    refine r_iload F 3 dX6_mixedWithTown_42 rfl ?_
    refine r_iconst F dX6_mixedWithTown_44 (v := 5) (by decide) ?_
    refine r_icmp_ge (tgt := 71) F dX6_mixedWithTown_45 (by decide) (fun c1 => ?_) (fun c1 => ?_)
    · refine r_lload F 2 dX6_mixedWithTown_71 rfl ?_
      refine r_aload_n F 0 dX6_mixedWithTown_73 rfl rfl ?_
      refine r_iload_n F 1 dX6_mixedWithTown_74 rfl rfl ?_
      refine r_tV (val := vI) (As := [.int y3]) (rest := [.long y4]) (fun q9 => .int q9 :: [.long y4]) F (c_X6_lastsFor F.st F.gg y3 M) dX6_mixedWithTown_75 ml_X6_340 yv_X6_lastsFor (rfl : kd 0 = 0) (by decide) rfl rfl (by decide) rfl (Nat.le_of_ble_eq_true rfl) (fun _ => rfl) (fun r75 M75 => ?_)
      refine r_i2l F dX6_mixedWithTown_78 ?_
      refine r_cS (val := vL) (As := [.long y4, .long ((r75).toInt64)]) (rest := []) (fun q9 => .long q9 :: []) F (c_X6_mixed F.st F.gg y4 ((r75).toInt64) M75) (fun _ _ => rfl) dX6_mixedWithTown_79 ml_X6_308 ys_X6_mixed rfl (by decide) rfl (Nat.le_of_ble_eq_true rfl) (fun _ => rfl) (fun r79 M79 => ?_)
      refine r_lstore (ls' := [(4, .long r79), (0, .ref (gA G 0)), (3, .int y3), (6, .int y6)]) F dX6_mixedWithTown_82 (by decide) rfl ?_
      refine r_lload F 0 dX6_mixedWithTown_84 rfl ?_
      refine r_aload_n F 1 dX6_mixedWithTown_86 rfl rfl ?_
      refine r_iload_n F 2 dX6_mixedWithTown_87 rfl rfl ?_
      refine r_iconst F dX6_mixedWithTown_88 (v := 0) (by decide) ?_
      refine r_tV (val := vI) (As := [.int y3, .int (0 : Int32)]) (rest := [.long r79]) (fun q9 => .int q9 :: [.long r79]) F (c_X6_bestTurn F.st F.gg y3 (0 : Int32) M79) dX6_mixedWithTown_89 ml_X6_343 yv_X6_bestTurn (rfl : kd 0 = 0) (by decide) rfl rfl (by decide) rfl (Nat.le_of_ble_eq_true rfl) (fun _ => rfl) (fun r89 M89 => ?_)
      refine r_i2l F dX6_mixedWithTown_92 ?_
      refine r_cS (val := vL) (As := [.long r79, .long ((r89).toInt64)]) (rest := []) (fun q9 => .long q9 :: []) F (c_X6_mixed F.st F.gg r79 ((r89).toInt64) M89) (fun _ _ => rfl) dX6_mixedWithTown_93 ml_X6_308 ys_X6_mixed rfl (by decide) rfl (Nat.le_of_ble_eq_true rfl) (fun _ => rfl) (fun r93 M93 => ?_)
      refine r_lstore (ls' := [(4, .long r93), (0, .ref (gA G 0)), (3, .int y3), (6, .int y6)]) F dX6_mixedWithTown_96 (by decide) rfl ?_
      refine r_lload F 0 dX6_mixedWithTown_98 rfl ?_
      refine r_aload_n F 1 dX6_mixedWithTown_100 rfl rfl ?_
      refine r_iload_n F 2 dX6_mixedWithTown_101 rfl rfl ?_
      refine r_iconst F dX6_mixedWithTown_102 (v := 1) (by decide) ?_
      refine r_tV (val := vI) (As := [.int y3, .int (1 : Int32)]) (rest := [.long r93]) (fun q9 => .int q9 :: [.long r93]) F (c_X6_bestTurn F.st F.gg y3 (1 : Int32) M93) dX6_mixedWithTown_103 ml_X6_343 yv_X6_bestTurn (rfl : kd 0 = 0) (by decide) rfl rfl (by decide) rfl (Nat.le_of_ble_eq_true rfl) (fun _ => rfl) (fun r103 M103 => ?_)
      refine r_i2l F dX6_mixedWithTown_106 ?_
      refine r_cS (val := vL) (As := [.long r93, .long ((r103).toInt64)]) (rest := []) (fun q9 => .long q9 :: []) F (c_X6_mixed F.st F.gg r93 ((r103).toInt64) M103) (fun _ _ => rfl) dX6_mixedWithTown_107 ml_X6_308 ys_X6_mixed rfl (by decide) rfl (Nat.le_of_ble_eq_true rfl) (fun _ => rfl) (fun r107 M107 => ?_)
      refine r_lstore (ls' := [(4, .long r107), (0, .ref (gA G 0)), (3, .int y3), (6, .int y6)]) F dX6_mixedWithTown_110 (by decide) rfl ?_
      refine r_lload F 0 dX6_mixedWithTown_112 rfl ?_
      refine r_aload_n F 1 dX6_mixedWithTown_114 rfl rfl ?_
      refine r_iload_n F 2 dX6_mixedWithTown_115 rfl rfl ?_
      refine r_tV (val := vI) (As := [.int y3]) (rest := [.long r107]) (fun q9 => .int q9 :: [.long r107]) F (c_X6_bestDrum F.st F.gg y3 M107) dX6_mixedWithTown_116 ml_X6_346 yv_X6_bestDrum (rfl : kd 0 = 0) (by decide) rfl rfl (by decide) rfl (Nat.le_of_ble_eq_true rfl) (fun _ => rfl) (fun r116 M116 => ?_)
      refine r_i2l F dX6_mixedWithTown_119 ?_
      refine r_cS (val := vL) (As := [.long r107, .long ((r116).toInt64)]) (rest := []) (fun q9 => .long q9 :: []) F (c_X6_mixed F.st F.gg r107 ((r116).toInt64) M116) (fun _ _ => rfl) dX6_mixedWithTown_120 ml_X6_308 ys_X6_mixed rfl (by decide) rfl (Nat.le_of_ble_eq_true rfl) (fun _ => rfl) (fun r120 M120 => ?_)
      exact r_lret F rfl dX6_mixedWithTown_123 rfl
    · refine r_lload F 2 dX6_mixedWithTown_48 rfl ?_
      refine r_aload_n F 0 dX6_mixedWithTown_50 rfl rfl ?_
      refine gf_X6_30 F dX6_mixedWithTown_51 (rfl : kd 0 = 0) ?_
      refine r_iload F 3 dX6_mixedWithTown_54 rfl ?_
      refine r_cVN (val := vI) (As := [.int y6]) (rest := [.long y4]) (fun q9 => .int q9 :: [.long y4]) F (c_X1_tell F.st F.gg y6 M) (fun _ _ => rfl) dX6_mixedWithTown_56 mn_X6_269 yv_X1_tell (rfl : kd 5 = 3) (by decide) rfl rfl (by decide) rfl (Nat.le_of_ble_eq_true rfl) (fun _ => rfl) (fun r56 M56 => ?_)
      refine r_i2l F dX6_mixedWithTown_59 ?_
      refine r_cS (val := vL) (As := [.long y4, .long ((r56).toInt64)]) (rest := []) (fun q9 => .long q9 :: []) F (c_X6_mixed F.st F.gg y4 ((r56).toInt64) M56) (fun _ _ => rfl) dX6_mixedWithTown_60 ml_X6_308 ys_X6_mixed rfl (by decide) rfl (Nat.le_of_ble_eq_true rfl) (fun _ => rfl) (fun r60 M60 => ?_)
      refine r_lstore (ls' := [(4, .long r60), (0, .ref (gA G 0)), (3, .int y3), (6, .int y6)]) F dX6_mixedWithTown_63 (by decide) rfl ?_
      refine r_iinc (ls' := fun q9 => [(6, .int q9), (4, .long r60), (0, .ref (gA G 0)), (3, .int y3)]) (k := 3) (v := y6 + (1 : Int32)) F dX6_mixedWithTown_65 rfl rfl (by decide) (fun _ => rfl) (fun x65 => ?_)
      refine r_goto (tgt := 42) F dX6_mixedWithTown_68 (by decide) ?_
      refine r_sub [2, 3, 1, 0] rfl ?_
      exact ih y3 r60 x65 M60

def f_X6_mixedWithTown_6 : Nat → Int32 → Int64 → Int32 → Mem → Option ((Int64 ⊕ String) × Mem)
  | 0, _, _, _, _ => none
  | n + 1, y3, y4, y6, M => if (12 : Int32) ≤ y6 then (bn (f_X6_foresee y3 M) fun _ M36 => f_X6_mixedWithTown_42  FU y3 y4 (0 : Int32) M36) else (bt (f_X6_town y3 y6 M) fun r19 M19 => bn (f_X6_mixed y4 ((r19).toInt64) M19) fun r23 M23 => bnd (y6 + (1 : Int32)) fun x28 => f_X6_mixedWithTown_6  n y3 r23 x28 M23)

set_option maxRecDepth 100000 in
set_option maxHeartbeats 4000000 in
theorem l_X6_mixedWithTown_6 {G : GM} {p : Program} {l : Launch} {e : Env} {s : State} {m : MethodId} {args : Array Value} {below : List Frame} {meth : Method} {c : Code} (F : Fx G p l s m args meth c cX6_mixedWithTown RX6 7 (some .long)) : ∀ (n : Nat) (y3 : Int32) (y4 : Int64) (y6 : Int32) (M : Mem), Rf G p l e s m args below meth c 10 7 (emT vL) (f_X6_mixedWithTown_6  n y3 y4 y6 M) 6 [(0, .ref (gA G 0)), (3, .int y3), (4, .long y4), (6, .int y6)] [] M := by
  intro n
  induction n with
  | zero => intros; exact r_none
  | succ n ih =>
    intro y3 y4 y6 M
    rw [f_X6_mixedWithTown_6]
    refine r_iload F 3 dX6_mixedWithTown_6 rfl ?_
    refine r_bipush F dX6_mixedWithTown_8 (v := 12) (by decide) ?_
    refine r_icmp_ge (tgt := 34) F dX6_mixedWithTown_10 (by decide) (fun c1 => ?_) (fun c1 => ?_)
    · refine r_aload_n F 0 dX6_mixedWithTown_34 rfl rfl ?_
      refine r_iload_n F 1 dX6_mixedWithTown_35 rfl rfl ?_
      refine r_cV (val := vU) (As := [.int y3]) (rest := []) (fun _ => []) F (c_X6_foresee F.st F.gg y3 M) (fun _ _ => rfl) dX6_mixedWithTown_36 ml_X6_145 yv_X6_foresee (rfl : kd 0 = 0) (by decide) rfl rfl (by decide) rfl (Nat.le_of_ble_eq_true rfl) (fun _ => rfl) (fun _ M36 => ?_)
      refine r_iconst F dX6_mixedWithTown_39 (v := 0) (by decide) ?_
      refine r_istore (ls' := [(6, .int (0 : Int32)), (0, .ref (gA G 0)), (3, .int y3), (4, .long y4)]) F dX6_mixedWithTown_40 (by decide) rfl ?_
      refine r_sub [1, 2, 3, 0] rfl ?_
      exact l_X6_mixedWithTown_42 F   FU y3 y4 (0 : Int32) M36
    · refine r_lload F 2 dX6_mixedWithTown_13 rfl ?_
      refine r_aload_n F 0 dX6_mixedWithTown_15 rfl rfl ?_
      refine r_iload_n F 1 dX6_mixedWithTown_16 rfl rfl ?_
      refine r_iload F 3 dX6_mixedWithTown_17 rfl ?_
      refine r_tV (val := vI) (As := [.int y3, .int y6]) (rest := [.long y4]) (fun q9 => .int q9 :: [.long y4]) F (c_X6_town F.st F.gg y3 y6 M) dX6_mixedWithTown_19 ml_X6_336 yv_X6_town (rfl : kd 0 = 0) (by decide) rfl rfl (by decide) rfl (Nat.le_of_ble_eq_true rfl) (fun _ => rfl) (fun r19 M19 => ?_)
      refine r_i2l F dX6_mixedWithTown_22 ?_
      refine r_cS (val := vL) (As := [.long y4, .long ((r19).toInt64)]) (rest := []) (fun q9 => .long q9 :: []) F (c_X6_mixed F.st F.gg y4 ((r19).toInt64) M19) (fun _ _ => rfl) dX6_mixedWithTown_23 ml_X6_308 ys_X6_mixed rfl (by decide) rfl (Nat.le_of_ble_eq_true rfl) (fun _ => rfl) (fun r23 M23 => ?_)
      refine r_lstore (ls' := [(4, .long r23), (0, .ref (gA G 0)), (3, .int y3), (6, .int y6)]) F dX6_mixedWithTown_26 (by decide) rfl ?_
      refine r_iinc (ls' := fun q9 => [(6, .int q9), (4, .long r23), (0, .ref (gA G 0)), (3, .int y3)]) (k := 3) (v := y6 + (1 : Int32)) F dX6_mixedWithTown_28 rfl rfl (by decide) (fun _ => rfl) (fun x28 => ?_)
      refine r_goto (tgt := 6) F dX6_mixedWithTown_31 (by decide) ?_
      refine r_sub [2, 3, 1, 0] rfl ?_
      exact ih y3 r23 x28 M23

def f_X6_mixedWithTown (a1 : Int64) (a3 : Int32) (M : Mem) : Option ((Int64 ⊕ String) × Mem) := f_X6_mixedWithTown_6  FU a3 a1 (0 : Int32) M

set_option maxRecDepth 100000 in
set_option maxHeartbeats 4000000 in
theorem b_X6_mixedWithTown {G : GM} {p : Program} {l : Launch} {e : Env} {s : State} {m : MethodId} {args : Array Value} {below : List Frame} {meth : Method} {c : Code} (F : Fx G p l s m args meth c cX6_mixedWithTown RX6 7 (some .long)) (a1 : Int64) (a3 : Int32) (M : Mem) : Rf G p l e s m args below meth c 10 7 (emT vL) (f_X6_mixedWithTown a1 a3 M) 0 [(0, .ref (gA G 0)), (1, .long a1), (3, .int a3)] [] M := by
  unfold f_X6_mixedWithTown
  refine r_lload_n F 1 dX6_mixedWithTown_0 rfl rfl ?_
  refine r_lstore (ls' := [(4, .long a1), (0, .ref (gA G 0)), (1, .long a1), (3, .int a3)]) F dX6_mixedWithTown_1 (by decide) rfl ?_
  refine r_iconst F dX6_mixedWithTown_3 (v := 0) (by decide) ?_
  refine r_istore (ls' := [(6, .int (0 : Int32)), (4, .long a1), (0, .ref (gA G 0)), (1, .long a1), (3, .int a3)]) F dX6_mixedWithTown_4 (by decide) rfl ?_
  refine r_sub [2, 4, 1, 0] rfl ?_
  exact l_X6_mixedWithTown_6 F   FU a3 a1 (0 : Int32) M

set_option maxRecDepth 100000 in
set_option maxHeartbeats 4000000 in
theorem c_X6_mixedWithTown {l : Launch} {G : GM} (hl : l.stackTraces = false) (hG : GG G) (a1 : Int64) (a3 : Int32) (M : Mem) : ∀ r, f_X6_mixedWithTown a1 a3 M = some r → Ctr l G yX6_mixedWithTown (.code yX6_mixedWithTown cX6_mixedWithTown 7 (some .long) :: wsA) 10 [.ref (gA G 0), .long a1, .int a3] M ((emT vL) r) :=
  ctr_of (by decide) hl hG (Nat.le_of_ble_eq_true rfl) (fun p e s m args below meth c F => b_X6_mixedWithTown F a1 a3 M)

