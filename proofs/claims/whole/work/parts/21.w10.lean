-- ===== X7_addTownOf DrumTownsModel.addTownOf(I)V =====
theorem yv_X7_addTownOf : yV yX7_addTownOf cX7_addTownOf 3 none 1 := ⟨im_X7_addTownOf, sl_X7_addTownOf, ini_X7, cd_X7_addTownOf, ⟨by decide, by decide, by decide +kernel⟩, by decide⟩

def f_X7_addTownOf_167 : Nat → Int32 → Int32 → Mem → Option (Unit × Mem)
  | 0, _, _, _ => none
  | n + 1, y1, y2, M => if (24 : Int32) ≤ y2 then (some ((), M)) else (bn (f_X7_at (6 : Int32) y1 y2 M) fun r182 M182 => chk (inb r182 3424) <| bn (f_X7_add (((M182.1 25 r182.toNatClampNeg)).toInt64) M182) fun _ M187 => bn (f_X7_at (150 : Int32) y1 y2 M187) fun r200 M200 => chk (inb r200 3424) <| bn (f_X7_add (((M200.1 25 r200.toNatClampNeg)).toInt64) M200) fun _ M205 => chk (inb y2 24) <| bn (f_X7_add (((M205.1 28 y2.toNatClampNeg)).toInt64) M205) fun _ M216 => bnd (y2 + (1 : Int32)) fun x219 => f_X7_addTownOf_167  n y1 x219 M216)

set_option maxRecDepth 100000 in
set_option maxHeartbeats 4000000 in
theorem l_X7_addTownOf_167 {G : GM} {p : Program} {l : Launch} {e : Env} {s : State} {m : MethodId} {args : Array Value} {below : List Frame} {meth : Method} {c : Code} (F : Fx G p l s m args meth c cX7_addTownOf RX7 3 none) : ∀ (n : Nat) (y1 : Int32) (y2 : Int32) (M : Mem), Rf G p l e s m args below meth c 11 3 emV (f_X7_addTownOf_167  n y1 y2 M) 167 [(0, .ref (gA G 24)), (1, .int y1), (2, .int y2)] [] M := by
  intro n
  induction n with
  | zero => intros; exact r_none
  | succ n ih =>
    intro y1 y2 M
    rw [f_X7_addTownOf_167]
    refine r_iload_n F 2 dX7_addTownOf_167 rfl rfl ?_
    refine r_bipush F dX7_addTownOf_168 (v := 24) (by decide) ?_
    refine r_icmp_ge (tgt := 225) F dX7_addTownOf_170 (by decide) (fun c1 => ?_) (fun c1 => ?_)
    · exact r_vret F rfl dX7_addTownOf_225 rfl
    · refine r_aload_n F 0 dX7_addTownOf_173 rfl rfl ?_
      refine r_aload_n F 0 dX7_addTownOf_174 rfl rfl ?_
      refine gf_X7_7 F dX7_addTownOf_175 (rfl : kd 24 = 7) ?_
      refine r_bipush F dX7_addTownOf_178 (v := 6) (by decide) ?_
      refine r_iload_n F 1 dX7_addTownOf_180 rfl rfl ?_
      refine r_iload_n F 2 dX7_addTownOf_181 rfl rfl ?_
      refine r_cS (val := vI) (As := [.int (6 : Int32), .int y1, .int y2]) (rest := [.ref (gA G 25), .ref (gA G 24)]) (fun q9 => .int q9 :: [.ref (gA G 25), .ref (gA G 24)]) F (c_X7_at F.st F.gg (6 : Int32) y1 y2 M) (fun _ _ => rfl) dX7_addTownOf_182 ml_X7_56 ys_X7_at rfl (by decide) rfl (Nat.le_of_ble_eq_true rfl) (fun _ => rfl) (fun r182 M182 => ?_)
      refine r_chk (fun h2 => ?_)
      refine r_iald F dX7_addTownOf_185 (rfl : kd 25 = 8) (rfl : al 25 = 3424) h2 ?_
      refine r_i2l F dX7_addTownOf_186 ?_
      refine r_cV (val := vU) (As := [.long (((M182.1 25 r182.toNatClampNeg)).toInt64)]) (rest := []) (fun _ => []) F (c_X7_add F.st F.gg (((M182.1 25 r182.toNatClampNeg)).toInt64) M182) (fun _ _ => rfl) dX7_addTownOf_187 ml_X7_214 yv_X7_add (rfl : kd 24 = 7) (by decide) rfl rfl (by decide) rfl (Nat.le_of_ble_eq_true rfl) (fun _ => rfl) (fun _ M187 => ?_)
      refine r_aload_n F 0 dX7_addTownOf_190 rfl rfl ?_
      refine r_aload_n F 0 dX7_addTownOf_191 rfl rfl ?_
      refine gf_X7_7 F dX7_addTownOf_192 (rfl : kd 24 = 7) ?_
      refine r_sipush F dX7_addTownOf_195 (v := 150) (by decide) ?_
      refine r_iload_n F 1 dX7_addTownOf_198 rfl rfl ?_
      refine r_iload_n F 2 dX7_addTownOf_199 rfl rfl ?_
      refine r_cS (val := vI) (As := [.int (150 : Int32), .int y1, .int y2]) (rest := [.ref (gA G 25), .ref (gA G 24)]) (fun q9 => .int q9 :: [.ref (gA G 25), .ref (gA G 24)]) F (c_X7_at F.st F.gg (150 : Int32) y1 y2 M187) (fun _ _ => rfl) dX7_addTownOf_200 ml_X7_56 ys_X7_at rfl (by decide) rfl (Nat.le_of_ble_eq_true rfl) (fun _ => rfl) (fun r200 M200 => ?_)
      refine r_chk (fun h3 => ?_)
      refine r_iald F dX7_addTownOf_203 (rfl : kd 25 = 8) (rfl : al 25 = 3424) h3 ?_
      refine r_i2l F dX7_addTownOf_204 ?_
      refine r_cV (val := vU) (As := [.long (((M200.1 25 r200.toNatClampNeg)).toInt64)]) (rest := []) (fun _ => []) F (c_X7_add F.st F.gg (((M200.1 25 r200.toNatClampNeg)).toInt64) M200) (fun _ _ => rfl) dX7_addTownOf_205 ml_X7_214 yv_X7_add (rfl : kd 24 = 7) (by decide) rfl rfl (by decide) rfl (Nat.le_of_ble_eq_true rfl) (fun _ => rfl) (fun _ M205 => ?_)
      refine r_aload_n F 0 dX7_addTownOf_208 rfl rfl ?_
      refine r_aload_n F 0 dX7_addTownOf_209 rfl rfl ?_
      refine gf_X7_19 F dX7_addTownOf_210 (rfl : kd 24 = 7) ?_
      refine r_iload_n F 2 dX7_addTownOf_213 rfl rfl ?_
      refine r_chk (fun h4 => ?_)
      refine r_iald F dX7_addTownOf_214 (rfl : kd 28 = 8) (rfl : al 28 = 24) h4 ?_
      refine r_i2l F dX7_addTownOf_215 ?_
      refine r_cV (val := vU) (As := [.long (((M205.1 28 y2.toNatClampNeg)).toInt64)]) (rest := []) (fun _ => []) F (c_X7_add F.st F.gg (((M205.1 28 y2.toNatClampNeg)).toInt64) M205) (fun _ _ => rfl) dX7_addTownOf_216 ml_X7_214 yv_X7_add (rfl : kd 24 = 7) (by decide) rfl rfl (by decide) rfl (Nat.le_of_ble_eq_true rfl) (fun _ => rfl) (fun _ M216 => ?_)
      refine r_iinc (ls' := fun q9 => [(2, .int q9), (0, .ref (gA G 24)), (1, .int y1)]) (k := 2) (v := y2 + (1 : Int32)) F dX7_addTownOf_219 rfl rfl (by decide) (fun _ => rfl) (fun x219 => ?_)
      refine r_goto (tgt := 167) F dX7_addTownOf_222 (by decide) ?_
      refine r_sub [1, 2, 0] rfl ?_
      exact ih y1 x219 M216

def f_X7_addTownOf_127 : Nat → Int32 → Int32 → Mem → Option (Unit × Mem)
  | 0, _, _, _ => none
  | n + 1, y1, y2, M => chk (inb (423 : Int32) 3424) <| if (M.1 25 (423 : Int32).toNatClampNeg) ≤ y2 then (bn (f_X7_tryPlaying y1 M) fun _ M162 => f_X7_addTownOf_167  FU y1 (0 : Int32) M162) else (bn (f_X7_owes y1 y2 M) fun r146 M146 => chk (inb r146 3424) <| bn (f_X7_add (((M146.1 25 r146.toNatClampNeg)).toInt64) M146) fun _ M151 => bnd (y2 + (1 : Int32)) fun x154 => f_X7_addTownOf_127  n y1 x154 M151)

set_option maxRecDepth 100000 in
set_option maxHeartbeats 4000000 in
theorem l_X7_addTownOf_127 {G : GM} {p : Program} {l : Launch} {e : Env} {s : State} {m : MethodId} {args : Array Value} {below : List Frame} {meth : Method} {c : Code} (F : Fx G p l s m args meth c cX7_addTownOf RX7 3 none) : ∀ (n : Nat) (y1 : Int32) (y2 : Int32) (M : Mem), Rf G p l e s m args below meth c 11 3 emV (f_X7_addTownOf_127  n y1 y2 M) 127 [(0, .ref (gA G 24)), (1, .int y1), (2, .int y2)] [] M := by
  intro n
  induction n with
  | zero => intros; exact r_none
  | succ n ih =>
    intro y1 y2 M
    rw [f_X7_addTownOf_127]
    refine r_iload_n F 2 dX7_addTownOf_127 rfl rfl ?_
    refine r_aload_n F 0 dX7_addTownOf_128 rfl rfl ?_
    refine gf_X7_7 F dX7_addTownOf_129 (rfl : kd 24 = 7) ?_
    refine r_sipush F dX7_addTownOf_132 (v := 423) (by decide) ?_
    refine r_chk (fun h1 => ?_)
    refine r_iald F dX7_addTownOf_135 (rfl : kd 25 = 8) (rfl : al 25 = 3424) h1 ?_
    refine r_icmp_ge (tgt := 160) F dX7_addTownOf_136 (by decide) (fun c2 => ?_) (fun c2 => ?_)
    · refine r_aload_n F 0 dX7_addTownOf_160 rfl rfl ?_
      refine r_iload_n F 1 dX7_addTownOf_161 rfl rfl ?_
      refine r_cV (val := vU) (As := [.int y1]) (rest := []) (fun _ => []) F (c_X7_tryPlaying F.st F.gg y1 M) (fun _ _ => rfl) dX7_addTownOf_162 ml_X7_103 yv_X7_tryPlaying (rfl : kd 24 = 7) (by decide) rfl rfl (by decide) rfl (Nat.le_of_ble_eq_true rfl) (fun _ => rfl) (fun _ M162 => ?_)
      refine r_iconst F dX7_addTownOf_165 (v := 0) (by decide) ?_
      refine r_istore_n (ls' := [(2, .int (0 : Int32)), (0, .ref (gA G 24)), (1, .int y1)]) F dX7_addTownOf_166 rfl (by decide) rfl ?_
      refine r_sub [1, 2, 0] rfl ?_
      exact l_X7_addTownOf_167 F   FU y1 (0 : Int32) M162
    · refine r_aload_n F 0 dX7_addTownOf_139 rfl rfl ?_
      refine r_aload_n F 0 dX7_addTownOf_140 rfl rfl ?_
      refine gf_X7_7 F dX7_addTownOf_141 (rfl : kd 24 = 7) ?_
      refine r_iload_n F 1 dX7_addTownOf_144 rfl rfl ?_
      refine r_iload_n F 2 dX7_addTownOf_145 rfl rfl ?_
      refine r_cS (val := vI) (As := [.int y1, .int y2]) (rest := [.ref (gA G 25), .ref (gA G 24)]) (fun q9 => .int q9 :: [.ref (gA G 25), .ref (gA G 24)]) F (c_X7_owes F.st F.gg y1 y2 M) (fun _ _ => rfl) dX7_addTownOf_146 ml_X7_123 ys_X7_owes rfl (by decide) rfl (Nat.le_of_ble_eq_true rfl) (fun _ => rfl) (fun r146 M146 => ?_)
      refine r_chk (fun h3 => ?_)
      refine r_iald F dX7_addTownOf_149 (rfl : kd 25 = 8) (rfl : al 25 = 3424) h3 ?_
      refine r_i2l F dX7_addTownOf_150 ?_
      refine r_cV (val := vU) (As := [.long (((M146.1 25 r146.toNatClampNeg)).toInt64)]) (rest := []) (fun _ => []) F (c_X7_add F.st F.gg (((M146.1 25 r146.toNatClampNeg)).toInt64) M146) (fun _ _ => rfl) dX7_addTownOf_151 ml_X7_214 yv_X7_add (rfl : kd 24 = 7) (by decide) rfl rfl (by decide) rfl (Nat.le_of_ble_eq_true rfl) (fun _ => rfl) (fun _ M151 => ?_)
      refine r_iinc (ls' := fun q9 => [(2, .int q9), (0, .ref (gA G 24)), (1, .int y1)]) (k := 2) (v := y2 + (1 : Int32)) F dX7_addTownOf_154 rfl rfl (by decide) (fun _ => rfl) (fun x154 => ?_)
      refine r_goto (tgt := 127) F dX7_addTownOf_157 (by decide) ?_
      refine r_sub [1, 2, 0] rfl ?_
      exact ih y1 x154 M151

def f_X7_addTownOf_93 : Nat → Int32 → Int32 → Mem → Option (Unit × Mem)
  | 0, _, _, _ => none
  | n + 1, y1, y2, M => if (12 : Int32) ≤ y2 then (f_X7_addTownOf_127  FU y1 (0 : Int32) M) else (chk (inb (((294 : Int32) + ((12 : Int32) * y1)) + y2) 3424) <| bn (f_X7_add (((M.1 25 (((294 : Int32) + ((12 : Int32) * y1)) + y2).toNatClampNeg)).toInt64) M) fun _ M116 => bnd (y2 + (1 : Int32)) fun x119 => f_X7_addTownOf_93  n y1 x119 M116)

set_option maxRecDepth 100000 in
set_option maxHeartbeats 4000000 in
theorem l_X7_addTownOf_93 {G : GM} {p : Program} {l : Launch} {e : Env} {s : State} {m : MethodId} {args : Array Value} {below : List Frame} {meth : Method} {c : Code} (F : Fx G p l s m args meth c cX7_addTownOf RX7 3 none) : ∀ (n : Nat) (y1 : Int32) (y2 : Int32) (M : Mem), Rf G p l e s m args below meth c 11 3 emV (f_X7_addTownOf_93  n y1 y2 M) 93 [(0, .ref (gA G 24)), (1, .int y1), (2, .int y2)] [] M := by
  intro n
  induction n with
  | zero => intros; exact r_none
  | succ n ih =>
    intro y1 y2 M
    rw [f_X7_addTownOf_93]
    refine r_iload_n F 2 dX7_addTownOf_93 rfl rfl ?_
    refine r_bipush F dX7_addTownOf_94 (v := 12) (by decide) ?_
    refine r_icmp_ge (tgt := 125) F dX7_addTownOf_96 (by decide) (fun c1 => ?_) (fun c1 => ?_)
    · refine r_iconst F dX7_addTownOf_125 (v := 0) (by decide) ?_
      refine r_istore_n (ls' := [(2, .int (0 : Int32)), (0, .ref (gA G 24)), (1, .int y1)]) F dX7_addTownOf_126 rfl (by decide) rfl ?_
      refine r_sub [1, 2, 0] rfl ?_
      exact l_X7_addTownOf_127 F   FU y1 (0 : Int32) M
    · refine r_aload_n F 0 dX7_addTownOf_99 rfl rfl ?_
      refine r_aload_n F 0 dX7_addTownOf_100 rfl rfl ?_
      refine gf_X7_7 F dX7_addTownOf_101 (rfl : kd 24 = 7) ?_
      refine r_sipush F dX7_addTownOf_104 (v := 294) (by decide) ?_
      refine r_bipush F dX7_addTownOf_107 (v := 12) (by decide) ?_
      refine r_iload_n F 1 dX7_addTownOf_109 rfl rfl ?_
      refine r_imul F dX7_addTownOf_110 ?_
      refine r_iadd F dX7_addTownOf_111 ?_
      refine r_iload_n F 2 dX7_addTownOf_112 rfl rfl ?_
      refine r_iadd F dX7_addTownOf_113 ?_
      refine r_chk (fun h2 => ?_)
      refine r_iald F dX7_addTownOf_114 (rfl : kd 25 = 8) (rfl : al 25 = 3424) h2 ?_
      refine r_i2l F dX7_addTownOf_115 ?_
      refine r_cV (val := vU) (As := [.long (((M.1 25 (((294 : Int32) + ((12 : Int32) * y1)) + y2).toNatClampNeg)).toInt64)]) (rest := []) (fun _ => []) F (c_X7_add F.st F.gg (((M.1 25 (((294 : Int32) + ((12 : Int32) * y1)) + y2).toNatClampNeg)).toInt64) M) (fun _ _ => rfl) dX7_addTownOf_116 ml_X7_214 yv_X7_add (rfl : kd 24 = 7) (by decide) rfl rfl (by decide) rfl (Nat.le_of_ble_eq_true rfl) (fun _ => rfl) (fun _ M116 => ?_)
      refine r_iinc (ls' := fun q9 => [(2, .int q9), (0, .ref (gA G 24)), (1, .int y1)]) (k := 2) (v := y2 + (1 : Int32)) F dX7_addTownOf_119 rfl rfl (by decide) (fun _ => rfl) (fun x119 => ?_)
      refine r_goto (tgt := 93) F dX7_addTownOf_122 (by decide) ?_
      refine r_sub [1, 2, 0] rfl ?_
      exact ih y1 x119 M116

def f_X7_addTownOf_27 : Nat → Int32 → Int32 → Mem → Option (Unit × Mem)
  | 0, _, _, _ => none
  | n + 1, y1, y2, M => if (5 : Int32) ≤ y2 then (bn (f_X7_lastsOf y1 M) fun r52 M52 => bn (f_X7_add ((r52).toInt64) M52) fun _ M56 => bn (f_X7_bestTurnOf y1 (0 : Int32) M56) fun r63 M63 => bn (f_X7_add ((r63).toInt64) M63) fun _ M67 => bn (f_X7_bestTurnOf y1 (1 : Int32) M67) fun r74 M74 => bn (f_X7_add ((r74).toInt64) M74) fun _ M78 => bn (f_X7_bestDrumOf y1 M78) fun r84 M84 => bn (f_X7_add ((r84).toInt64) M84) fun _ M88 => f_X7_addTownOf_93  FU y1 (0 : Int32) M88) else (bn (f_X7_ifPlayedOf y1 y2 M) fun r36 M36 => bn (f_X7_add ((r36).toInt64) M36) fun _ M40 => bnd (y2 + (1 : Int32)) fun x43 => f_X7_addTownOf_27  n y1 x43 M40)

set_option maxRecDepth 100000 in
set_option maxHeartbeats 4000000 in
theorem l_X7_addTownOf_27 {G : GM} {p : Program} {l : Launch} {e : Env} {s : State} {m : MethodId} {args : Array Value} {below : List Frame} {meth : Method} {c : Code} (F : Fx G p l s m args meth c cX7_addTownOf RX7 3 none) : ∀ (n : Nat) (y1 : Int32) (y2 : Int32) (M : Mem), Rf G p l e s m args below meth c 11 3 emV (f_X7_addTownOf_27  n y1 y2 M) 27 [(0, .ref (gA G 24)), (1, .int y1), (2, .int y2)] [] M := by
  intro n
  induction n with
  | zero => intros; exact r_none
  | succ n ih =>
    intro y1 y2 M
    rw [f_X7_addTownOf_27]
    refine r_iload_n F 2 dX7_addTownOf_27 rfl rfl ?_
    refine r_iconst F dX7_addTownOf_28 (v := 5) (by decide) ?_
    refine r_icmp_ge (tgt := 49) F dX7_addTownOf_29 (by decide) (fun c1 => ?_) (fun c1 => ?_)
    · refine r_aload_n F 0 dX7_addTownOf_49 rfl rfl ?_
      refine r_aload_n F 0 dX7_addTownOf_50 rfl rfl ?_
      refine r_iload_n F 1 dX7_addTownOf_51 rfl rfl ?_
      refine r_cV (val := vI) (As := [.int y1]) (rest := [.ref (gA G 24)]) (fun q9 => .int q9 :: [.ref (gA G 24)]) F (c_X7_lastsOf F.st F.gg y1 M) (fun _ _ => rfl) dX7_addTownOf_52 ml_X7_113 yv_X7_lastsOf (rfl : kd 24 = 7) (by decide) rfl rfl (by decide) rfl (Nat.le_of_ble_eq_true rfl) (fun _ => rfl) (fun r52 M52 => ?_)
      refine r_i2l F dX7_addTownOf_55 ?_
      refine r_cV (val := vU) (As := [.long ((r52).toInt64)]) (rest := []) (fun _ => []) F (c_X7_add F.st F.gg ((r52).toInt64) M52) (fun _ _ => rfl) dX7_addTownOf_56 ml_X7_214 yv_X7_add (rfl : kd 24 = 7) (by decide) rfl rfl (by decide) rfl (Nat.le_of_ble_eq_true rfl) (fun _ => rfl) (fun _ M56 => ?_)
      refine r_aload_n F 0 dX7_addTownOf_59 rfl rfl ?_
      refine r_aload_n F 0 dX7_addTownOf_60 rfl rfl ?_
      refine r_iload_n F 1 dX7_addTownOf_61 rfl rfl ?_
      refine r_iconst F dX7_addTownOf_62 (v := 0) (by decide) ?_
      refine r_cV (val := vI) (As := [.int y1, .int (0 : Int32)]) (rest := [.ref (gA G 24)]) (fun q9 => .int q9 :: [.ref (gA G 24)]) F (c_X7_bestTurnOf F.st F.gg y1 (0 : Int32) M56) (fun _ _ => rfl) dX7_addTownOf_63 ml_X7_196 yv_X7_bestTurnOf (rfl : kd 24 = 7) (by decide) rfl rfl (by decide) rfl (Nat.le_of_ble_eq_true rfl) (fun _ => rfl) (fun r63 M63 => ?_)
      refine r_i2l F dX7_addTownOf_66 ?_
      refine r_cV (val := vU) (As := [.long ((r63).toInt64)]) (rest := []) (fun _ => []) F (c_X7_add F.st F.gg ((r63).toInt64) M63) (fun _ _ => rfl) dX7_addTownOf_67 ml_X7_214 yv_X7_add (rfl : kd 24 = 7) (by decide) rfl rfl (by decide) rfl (Nat.le_of_ble_eq_true rfl) (fun _ => rfl) (fun _ M67 => ?_)
      refine r_aload_n F 0 dX7_addTownOf_70 rfl rfl ?_
      refine r_aload_n F 0 dX7_addTownOf_71 rfl rfl ?_
      refine r_iload_n F 1 dX7_addTownOf_72 rfl rfl ?_
      refine r_iconst F dX7_addTownOf_73 (v := 1) (by decide) ?_
      refine r_cV (val := vI) (As := [.int y1, .int (1 : Int32)]) (rest := [.ref (gA G 24)]) (fun q9 => .int q9 :: [.ref (gA G 24)]) F (c_X7_bestTurnOf F.st F.gg y1 (1 : Int32) M67) (fun _ _ => rfl) dX7_addTownOf_74 ml_X7_196 yv_X7_bestTurnOf (rfl : kd 24 = 7) (by decide) rfl rfl (by decide) rfl (Nat.le_of_ble_eq_true rfl) (fun _ => rfl) (fun r74 M74 => ?_)
      refine r_i2l F dX7_addTownOf_77 ?_
      refine r_cV (val := vU) (As := [.long ((r74).toInt64)]) (rest := []) (fun _ => []) F (c_X7_add F.st F.gg ((r74).toInt64) M74) (fun _ _ => rfl) dX7_addTownOf_78 ml_X7_214 yv_X7_add (rfl : kd 24 = 7) (by decide) rfl rfl (by decide) rfl (Nat.le_of_ble_eq_true rfl) (fun _ => rfl) (fun _ M78 => ?_)
      refine r_aload_n F 0 dX7_addTownOf_81 rfl rfl ?_
      refine r_aload_n F 0 dX7_addTownOf_82 rfl rfl ?_
      refine r_iload_n F 1 dX7_addTownOf_83 rfl rfl ?_
      refine r_cV (val := vI) (As := [.int y1]) (rest := [.ref (gA G 24)]) (fun q9 => .int q9 :: [.ref (gA G 24)]) F (c_X7_bestDrumOf F.st F.gg y1 M78) (fun _ _ => rfl) dX7_addTownOf_84 ml_X7_199 yv_X7_bestDrumOf (rfl : kd 24 = 7) (by decide) rfl rfl (by decide) rfl (Nat.le_of_ble_eq_true rfl) (fun _ => rfl) (fun r84 M84 => ?_)
      refine r_i2l F dX7_addTownOf_87 ?_
      refine r_cV (val := vU) (As := [.long ((r84).toInt64)]) (rest := []) (fun _ => []) F (c_X7_add F.st F.gg ((r84).toInt64) M84) (fun _ _ => rfl) dX7_addTownOf_88 ml_X7_214 yv_X7_add (rfl : kd 24 = 7) (by decide) rfl rfl (by decide) rfl (Nat.le_of_ble_eq_true rfl) (fun _ => rfl) (fun _ M88 => ?_)
      refine r_iconst F dX7_addTownOf_91 (v := 0) (by decide) ?_
      refine r_istore_n (ls' := [(2, .int (0 : Int32)), (0, .ref (gA G 24)), (1, .int y1)]) F dX7_addTownOf_92 rfl (by decide) rfl ?_
      refine r_sub [1, 2, 0] rfl ?_
      exact l_X7_addTownOf_93 F   FU y1 (0 : Int32) M88
    · refine r_aload_n F 0 dX7_addTownOf_32 rfl rfl ?_
      refine r_aload_n F 0 dX7_addTownOf_33 rfl rfl ?_
      refine r_iload_n F 1 dX7_addTownOf_34 rfl rfl ?_
      refine r_iload_n F 2 dX7_addTownOf_35 rfl rfl ?_
      refine r_cV (val := vI) (As := [.int y1, .int y2]) (rest := [.ref (gA G 24)]) (fun q9 => .int q9 :: [.ref (gA G 24)]) F (c_X7_ifPlayedOf F.st F.gg y1 y2 M) (fun _ _ => rfl) dX7_addTownOf_36 ml_X7_110 yv_X7_ifPlayedOf (rfl : kd 24 = 7) (by decide) rfl rfl (by decide) rfl (Nat.le_of_ble_eq_true rfl) (fun _ => rfl) (fun r36 M36 => ?_)
      refine r_i2l F dX7_addTownOf_39 ?_
      refine r_cV (val := vU) (As := [.long ((r36).toInt64)]) (rest := []) (fun _ => []) F (c_X7_add F.st F.gg ((r36).toInt64) M36) (fun _ _ => rfl) dX7_addTownOf_40 ml_X7_214 yv_X7_add (rfl : kd 24 = 7) (by decide) rfl rfl (by decide) rfl (Nat.le_of_ble_eq_true rfl) (fun _ => rfl) (fun _ M40 => ?_)
      refine r_iinc (ls' := fun q9 => [(2, .int q9), (0, .ref (gA G 24)), (1, .int y1)]) (k := 2) (v := y2 + (1 : Int32)) F dX7_addTownOf_43 rfl rfl (by decide) (fun _ => rfl) (fun x43 => ?_)
      refine r_goto (tgt := 27) F dX7_addTownOf_46 (by decide) ?_
      refine r_sub [1, 2, 0] rfl ?_
      exact ih y1 x43 M40

def f_X7_addTownOf_2 : Nat → Int32 → Int32 → Mem → Option (Unit × Mem)
  | 0, _, _, _ => none
  | n + 1, y1, y2, M => if (12 : Int32) ≤ y2 then (f_X7_addTownOf_27  FU y1 (0 : Int32) M) else (bn (f_X7_townOf y1 y2 M) fun r12 M12 => bn (f_X7_add ((r12).toInt64) M12) fun _ M16 => bnd (y2 + (1 : Int32)) fun x19 => f_X7_addTownOf_2  n y1 x19 M16)

set_option maxRecDepth 100000 in
set_option maxHeartbeats 4000000 in
theorem l_X7_addTownOf_2 {G : GM} {p : Program} {l : Launch} {e : Env} {s : State} {m : MethodId} {args : Array Value} {below : List Frame} {meth : Method} {c : Code} (F : Fx G p l s m args meth c cX7_addTownOf RX7 3 none) : ∀ (n : Nat) (y1 : Int32) (y2 : Int32) (M : Mem), Rf G p l e s m args below meth c 11 3 emV (f_X7_addTownOf_2  n y1 y2 M) 2 [(0, .ref (gA G 24)), (1, .int y1), (2, .int y2)] [] M := by
  intro n
  induction n with
  | zero => intros; exact r_none
  | succ n ih =>
    intro y1 y2 M
    rw [f_X7_addTownOf_2]
    refine r_iload_n F 2 dX7_addTownOf_2 rfl rfl ?_
    refine r_bipush F dX7_addTownOf_3 (v := 12) (by decide) ?_
    refine r_icmp_ge (tgt := 25) F dX7_addTownOf_5 (by decide) (fun c1 => ?_) (fun c1 => ?_)
    · refine r_iconst F dX7_addTownOf_25 (v := 0) (by decide) ?_
      refine r_istore_n (ls' := [(2, .int (0 : Int32)), (0, .ref (gA G 24)), (1, .int y1)]) F dX7_addTownOf_26 rfl (by decide) rfl ?_
      refine r_sub [1, 2, 0] rfl ?_
      exact l_X7_addTownOf_27 F   FU y1 (0 : Int32) M
    · refine r_aload_n F 0 dX7_addTownOf_8 rfl rfl ?_
      refine r_aload_n F 0 dX7_addTownOf_9 rfl rfl ?_
      refine r_iload_n F 1 dX7_addTownOf_10 rfl rfl ?_
      refine r_iload_n F 2 dX7_addTownOf_11 rfl rfl ?_
      refine r_cV (val := vI) (As := [.int y1, .int y2]) (rest := [.ref (gA G 24)]) (fun q9 => .int q9 :: [.ref (gA G 24)]) F (c_X7_townOf F.st F.gg y1 y2 M) (fun _ _ => rfl) dX7_addTownOf_12 ml_X7_181 yv_X7_townOf (rfl : kd 24 = 7) (by decide) rfl rfl (by decide) rfl (Nat.le_of_ble_eq_true rfl) (fun _ => rfl) (fun r12 M12 => ?_)
      refine r_i2l F dX7_addTownOf_15 ?_
      refine r_cV (val := vU) (As := [.long ((r12).toInt64)]) (rest := []) (fun _ => []) F (c_X7_add F.st F.gg ((r12).toInt64) M12) (fun _ _ => rfl) dX7_addTownOf_16 ml_X7_214 yv_X7_add (rfl : kd 24 = 7) (by decide) rfl rfl (by decide) rfl (Nat.le_of_ble_eq_true rfl) (fun _ => rfl) (fun _ M16 => ?_)
      refine r_iinc (ls' := fun q9 => [(2, .int q9), (0, .ref (gA G 24)), (1, .int y1)]) (k := 2) (v := y2 + (1 : Int32)) F dX7_addTownOf_19 rfl rfl (by decide) (fun _ => rfl) (fun x19 => ?_)
      refine r_goto (tgt := 2) F dX7_addTownOf_22 (by decide) ?_
      refine r_sub [1, 2, 0] rfl ?_
      exact ih y1 x19 M16

def f_X7_addTownOf (a1 : Int32) (M : Mem) : Option (Unit × Mem) := f_X7_addTownOf_2  FU a1 (0 : Int32) M

set_option maxRecDepth 100000 in
set_option maxHeartbeats 4000000 in
theorem b_X7_addTownOf {G : GM} {p : Program} {l : Launch} {e : Env} {s : State} {m : MethodId} {args : Array Value} {below : List Frame} {meth : Method} {c : Code} (F : Fx G p l s m args meth c cX7_addTownOf RX7 3 none) (a1 : Int32) (M : Mem) : Rf G p l e s m args below meth c 11 3 emV (f_X7_addTownOf a1 M) 0 [(0, .ref (gA G 24)), (1, .int a1)] [] M := by
  unfold f_X7_addTownOf
  refine r_iconst F dX7_addTownOf_0 (v := 0) (by decide) ?_
  refine r_istore_n (ls' := [(2, .int (0 : Int32)), (0, .ref (gA G 24)), (1, .int a1)]) F dX7_addTownOf_1 rfl (by decide) rfl ?_
  refine r_sub [1, 2, 0] rfl ?_
  exact l_X7_addTownOf_2 F   FU a1 (0 : Int32) M

set_option maxRecDepth 100000 in
set_option maxHeartbeats 4000000 in
theorem c_X7_addTownOf {l : Launch} {G : GM} (hl : l.stackTraces = false) (hG : GG G) (a1 : Int32) (M : Mem) : ∀ r, f_X7_addTownOf a1 M = some r → Ctr l G yX7_addTownOf (.code yX7_addTownOf cX7_addTownOf 3 none :: wsA) 11 [.ref (gA G 24), .int a1] M (emV r) :=
  ctr_of (by decide) hl hG (Nat.le_of_ble_eq_true rfl) (fun p e s m args below meth c F => b_X7_addTownOf F a1 M)

-- ===== X7_append DrumTownsModel.append(I)I =====
theorem yv_X7_append : yV yX7_append cX7_append 2 (some .int) 1 := ⟨im_X7_append, sl_X7_append, ini_X7, cd_X7_append, ⟨by decide, by decide, by decide +kernel⟩, by decide⟩

def f_X7_append_30 (y1 : Int32) (z1 : Int32) (M : Mem) : Option (Int32 × Mem) := bnd (mw M 24 2 z1) fun M30 => if (M30.1 24 2) = 0 then (chk (inb (M30.1 24 4) 60) <| bnd (mw M30 26 (M30.1 24 4).toNatClampNeg y1) fun M51 => bnd (mw M51 24 4 ((M51.1 24 4) + (1 : Int32))) fun M59 => some ((M59.1 24 4), M59)) else (some ((0 : Int32), M30))

set_option maxRecDepth 100000 in
set_option maxHeartbeats 4000000 in
theorem l_X7_append_30 {G : GM} {p : Program} {l : Launch} {e : Env} {s : State} {m : MethodId} {args : Array Value} {below : List Frame} {meth : Method} {c : Code} (F : Fx G p l s m args meth c cX7_append RX7 2 (some .int)) (y1 : Int32) (z1 : Int32) (M : Mem) : Rf G p l e s m args below meth c 7 2 emI (f_X7_append_30  y1 z1 M) 30 [(0, .ref (gA G 24)), (1, .int y1)] [.int z1, .ref (gA G 24)] M := by
  unfold f_X7_append_30
  refine pf_X7_37 F dX7_append_30 (rfl : kd 24 = 7) (fun M30 => ?_)
  refine r_aload_n F 0 dX7_append_33 rfl rfl ?_
  refine gf_X7_37 F dX7_append_34 (rfl : kd 24 = 7) ?_
  refine r_if_eq (tgt := 42) F dX7_append_37 (by decide) (fun c1 => ?_) (fun c1 => ?_)
  · refine r_aload_n F 0 dX7_append_42 rfl rfl ?_
    refine gf_X7_13 F dX7_append_43 (rfl : kd 24 = 7) ?_
    refine r_aload_n F 0 dX7_append_46 rfl rfl ?_
    refine gf_X7_149 F dX7_append_47 (rfl : kd 24 = 7) ?_
    refine r_iload_n F 1 dX7_append_50 rfl rfl ?_
    refine r_chk (fun h2 => ?_)
    refine r_iast F dX7_append_51 (rfl : kd 26 = 8) (rfl : al 26 = 60) h2 (fun M51 => ?_)
    refine r_aload_n F 0 dX7_append_52 rfl rfl ?_
    refine r_dup F dX7_append_53 rfl ?_
    refine gf_X7_149 F dX7_append_54 (rfl : kd 24 = 7) ?_
    refine r_iconst F dX7_append_57 (v := 1) (by decide) ?_
    refine r_iadd F dX7_append_58 ?_
    refine pf_X7_149 F dX7_append_59 (rfl : kd 24 = 7) (fun M59 => ?_)
    refine r_aload_n F 0 dX7_append_62 rfl rfl ?_
    refine gf_X7_149 F dX7_append_63 (rfl : kd 24 = 7) ?_
    exact r_iret F rfl dX7_append_66 rfl
  · refine r_iconst F dX7_append_40 (v := 0) (by decide) ?_
    exact r_iret F rfl dX7_append_41 rfl

def f_X7_append (a1 : Int32) (M : Mem) : Option (Int32 × Mem) := bn (f_X7_in a1 (33 : Int32) (126 : Int32) M) fun r6 M6 => if r6 = 0 then (f_X7_append_30  a1 (1 : Int32) M6) else (if (M6.1 24 4) = (60 : Int32) then (f_X7_append_30  a1 (2 : Int32) M6) else (f_X7_append_30  a1 (0 : Int32) M6))

set_option maxRecDepth 100000 in
set_option maxHeartbeats 4000000 in
theorem b_X7_append {G : GM} {p : Program} {l : Launch} {e : Env} {s : State} {m : MethodId} {args : Array Value} {below : List Frame} {meth : Method} {c : Code} (F : Fx G p l s m args meth c cX7_append RX7 2 (some .int)) (a1 : Int32) (M : Mem) : Rf G p l e s m args below meth c 7 2 emI (f_X7_append a1 M) 0 [(0, .ref (gA G 24)), (1, .int a1)] [] M := by
  unfold f_X7_append
  refine r_aload_n F 0 dX7_append_0 rfl rfl ?_
  refine r_iload_n F 1 dX7_append_1 rfl rfl ?_
  refine r_bipush F dX7_append_2 (v := 33) (by decide) ?_
  refine r_bipush F dX7_append_4 (v := 126) (by decide) ?_
  refine r_cS (val := vI) (As := [.int a1, .int (33 : Int32), .int (126 : Int32)]) (rest := [.ref (gA G 24)]) (fun q9 => .int q9 :: [.ref (gA G 24)]) F (c_X7_in F.st F.gg a1 (33 : Int32) (126 : Int32) M) (fun _ _ => rfl) dX7_append_6 ml_X7_41 ys_X7_in rfl (by decide) rfl (Nat.le_of_ble_eq_true rfl) (fun _ => rfl) (fun r6 M6 => ?_)
  refine r_if_ne (tgt := 16) F dX7_append_9 (by decide) (fun c1 => ?_) (fun c1 => ?_)
  · refine r_iconst F dX7_append_12 (v := 1) (by decide) ?_
    refine r_goto (tgt := 30) F dX7_append_13 (by decide) ?_
    refine r_sub [0, 1] rfl ?_
    exact l_X7_append_30 F   a1 (1 : Int32) M6
  · refine r_aload_n F 0 dX7_append_16 rfl rfl ?_
    refine gf_X7_149 F dX7_append_17 (rfl : kd 24 = 7) ?_
    refine r_bipush F dX7_append_20 (v := 60) (by decide) ?_
    refine r_icmp_ne (tgt := 29) F dX7_append_22 (by decide) (fun c2 => ?_) (fun c2 => ?_)
    · refine r_iconst F dX7_append_25 (v := 2) (by decide) ?_
      refine r_goto (tgt := 30) F dX7_append_26 (by decide) ?_
      refine r_sub [0, 1] rfl ?_
      exact l_X7_append_30 F   a1 (2 : Int32) M6
    · refine r_iconst F dX7_append_29 (v := 0) (by decide) ?_
      refine r_sub [0, 1] rfl ?_
      exact l_X7_append_30 F   a1 (0 : Int32) M6

set_option maxRecDepth 100000 in
set_option maxHeartbeats 4000000 in
theorem c_X7_append {l : Launch} {G : GM} (hl : l.stackTraces = false) (hG : GG G) (a1 : Int32) (M : Mem) : ∀ r, f_X7_append a1 M = some r → Ctr l G yX7_append (.code yX7_append cX7_append 2 (some .int) :: wsA) 7 [.ref (gA G 24), .int a1] M (emI r) :=
  ctr_of (by decide) hl hG (Nat.le_of_ble_eq_true rfl) (fun p e s m args below meth c F => b_X7_append F a1 M)

-- ===== X7_begins DrumTownsModel.begins(I)Z =====
theorem yv_X7_begins : yV yX7_begins cX7_begins 2 (some .boolean) 1 := ⟨im_X7_begins, sl_X7_begins, ini_X7, cd_X7_begins, ⟨by decide, by decide, by decide +kernel⟩, by decide⟩

def f_X7_begins_32  (M : Mem) : Option (Int32 × Mem) := some ((0 : Int32), M)

set_option maxRecDepth 100000 in
set_option maxHeartbeats 4000000 in
theorem l_X7_begins_32 {G : GM} {p : Program} {l : Launch} {e : Env} {s : State} {m : MethodId} {args : Array Value} {below : List Frame} {meth : Method} {c : Code} (F : Fx G p l s m args meth c cX7_begins RX7 2 (some .boolean))  (M : Mem) : Rf G p l e s m args below meth c 7 2 emI (f_X7_begins_32   M) 32 [] [] M := by
  unfold f_X7_begins_32
  refine r_iconst F dX7_begins_32 (v := 0) (by decide) ?_
  exact r_zret F rfl dX7_begins_33 rfl (by decide)

def f_X7_begins_106 (z1 : Int32) (z2 : Int32) (M : Mem) : Option (Int32 × Mem) := bnd (mw M 24 15 (z1 + z2)) fun M107 => some ((1 : Int32), M107)

set_option maxRecDepth 100000 in
set_option maxHeartbeats 4000000 in
theorem l_X7_begins_106 {G : GM} {p : Program} {l : Launch} {e : Env} {s : State} {m : MethodId} {args : Array Value} {below : List Frame} {meth : Method} {c : Code} (F : Fx G p l s m args meth c cX7_begins RX7 2 (some .boolean)) (z1 : Int32) (z2 : Int32) (M : Mem) : Rf G p l e s m args below meth c 7 2 emI (f_X7_begins_106  z1 z2 M) 106 [] [.int z2, .int z1, .ref (gA G 24)] M := by
  unfold f_X7_begins_106
  refine r_iadd F dX7_begins_106 ?_
  refine pf_X7_152 F dX7_begins_107 (rfl : kd 24 = 7) (fun M107 => ?_)
  refine r_iconst F dX7_begins_110 (v := 1) (by decide) ?_
  exact r_zret F rfl dX7_begins_111 rfl (by decide)

def f_X7_begins_76 (z1 : Int32) (M : Mem) : Option (Int32 × Mem) := chk (isb z1) <| bnd (mw M 24 16 z1) fun M76 => bnd (mw M76 24 17 (-1 : Int32)) fun M81 => bnd (mw M81 24 18 (0 : Int32)) fun M86 => if (M86.1 24 16) = 0 then (f_X7_begins_106  (M86.1 24 15) (1 : Int32) M86) else (f_X7_begins_106  (M86.1 24 15) (0 : Int32) M86)

set_option maxRecDepth 100000 in
set_option maxHeartbeats 4000000 in
theorem l_X7_begins_76 {G : GM} {p : Program} {l : Launch} {e : Env} {s : State} {m : MethodId} {args : Array Value} {below : List Frame} {meth : Method} {c : Code} (F : Fx G p l s m args meth c cX7_begins RX7 2 (some .boolean)) (z1 : Int32) (M : Mem) : Rf G p l e s m args below meth c 7 2 emI (f_X7_begins_76  z1 M) 76 [(0, .ref (gA G 24))] [.int z1, .ref (gA G 24)] M := by
  unfold f_X7_begins_76
  refine r_chk (fun h1 => ?_)
  refine pf_X7_155 F dX7_begins_76 (rfl : kd 24 = 7) h1 (fun M76 => ?_)
  refine r_aload_n F 0 dX7_begins_79 rfl rfl ?_
  refine r_iconst F dX7_begins_80 (v := -1) (by decide) ?_
  refine pf_X7_159 F dX7_begins_81 (rfl : kd 24 = 7) (fun M81 => ?_)
  refine r_aload_n F 0 dX7_begins_84 rfl rfl ?_
  refine r_iconst F dX7_begins_85 (v := 0) (by decide) ?_
  refine pf_X7_162 F dX7_begins_86 (rfl : kd 24 = 7) (fun M86 => ?_)
  refine r_aload_n F 0 dX7_begins_89 rfl rfl ?_
  refine r_dup F dX7_begins_90 rfl ?_
  refine gf_X7_152 F dX7_begins_91 (rfl : kd 24 = 7) ?_
  refine r_aload_n F 0 dX7_begins_94 rfl rfl ?_
  refine gf_X7_155 F dX7_begins_95 (rfl : kd 24 = 7) ?_
  refine r_if_eq (tgt := 105) F dX7_begins_98 (by decide) (fun c2 => ?_) (fun c2 => ?_)
  · refine r_iconst F dX7_begins_105 (v := 1) (by decide) ?_
    refine r_sub [] rfl ?_
    exact l_X7_begins_106 F   (M86.1 24 15) (1 : Int32) M86
  · refine r_iconst F dX7_begins_101 (v := 0) (by decide) ?_
    refine r_goto (tgt := 106) F dX7_begins_102 (by decide) ?_
    refine r_sub [] rfl ?_
    exact l_X7_begins_106 F   (M86.1 24 15) (0 : Int32) M86

def f_X7_begins_63 (y1 : Int32) (z1 : Int32) (z2 : Int32) (M : Mem) : Option (Int32 × Mem) := chk (inb z1 24) <| bnd (mw M 30 z1.toNatClampNeg z2) fun M63 => if y1 = (40 : Int32) then (f_X7_begins_76  (1 : Int32) M63) else (f_X7_begins_76  (0 : Int32) M63)

set_option maxRecDepth 100000 in
set_option maxHeartbeats 4000000 in
theorem l_X7_begins_63 {G : GM} {p : Program} {l : Launch} {e : Env} {s : State} {m : MethodId} {args : Array Value} {below : List Frame} {meth : Method} {c : Code} (F : Fx G p l s m args meth c cX7_begins RX7 2 (some .boolean)) (y1 : Int32) (z1 : Int32) (z2 : Int32) (M : Mem) : Rf G p l e s m args below meth c 7 2 emI (f_X7_begins_63  y1 z1 z2 M) 63 [(0, .ref (gA G 24)), (1, .int y1)] [.int z2, .int z1, .ref (gA G 30)] M := by
  unfold f_X7_begins_63
  refine r_chk (fun h1 => ?_)
  refine r_iast F dX7_begins_63 (rfl : kd 30 = 8) (rfl : al 30 = 24) h1 (fun M63 => ?_)
  refine r_aload_n F 0 dX7_begins_64 rfl rfl ?_
  refine r_iload_n F 1 dX7_begins_65 rfl rfl ?_
  refine r_bipush F dX7_begins_66 (v := 40) (by decide) ?_
  refine r_icmp_ne (tgt := 75) F dX7_begins_68 (by decide) (fun c2 => ?_) (fun c2 => ?_)
  · refine r_iconst F dX7_begins_71 (v := 1) (by decide) ?_
    refine r_goto (tgt := 76) F dX7_begins_72 (by decide) ?_
    refine r_sub [0] rfl ?_
    exact l_X7_begins_76 F   (1 : Int32) M63
  · refine r_iconst F dX7_begins_75 (v := 0) (by decide) ?_
    refine r_sub [0] rfl ?_
    exact l_X7_begins_76 F   (0 : Int32) M63

def f_X7_begins_34 (y1 : Int32) (M : Mem) : Option (Int32 × Mem) := bn (f_X7_in y1 (97 : Int32) (108 : Int32) M) fun r47 M47 => if r47 = 0 then (f_X7_begins_63  y1 (M.1 24 15) (0 : Int32) M47) else (f_X7_begins_63  y1 (M.1 24 15) ((1 : Int32) <<< ((y1 - (97 : Int32)) &&& 31)) M47)

set_option maxRecDepth 100000 in
set_option maxHeartbeats 4000000 in
theorem l_X7_begins_34 {G : GM} {p : Program} {l : Launch} {e : Env} {s : State} {m : MethodId} {args : Array Value} {below : List Frame} {meth : Method} {c : Code} (F : Fx G p l s m args meth c cX7_begins RX7 2 (some .boolean)) (y1 : Int32) (M : Mem) : Rf G p l e s m args below meth c 7 2 emI (f_X7_begins_34  y1 M) 34 [(0, .ref (gA G 24)), (1, .int y1)] [] M := by
  unfold f_X7_begins_34
  refine r_aload_n F 0 dX7_begins_34 rfl rfl ?_
  refine gf_X7_25 F dX7_begins_35 (rfl : kd 24 = 7) ?_
  refine r_aload_n F 0 dX7_begins_38 rfl rfl ?_
  refine gf_X7_152 F dX7_begins_39 (rfl : kd 24 = 7) ?_
  refine r_iload_n F 1 dX7_begins_42 rfl rfl ?_
  refine r_bipush F dX7_begins_43 (v := 97) (by decide) ?_
  refine r_bipush F dX7_begins_45 (v := 108) (by decide) ?_
  refine r_cS (val := vI) (As := [.int y1, .int (97 : Int32), .int (108 : Int32)]) (rest := [.int (M.1 24 15), .ref (gA G 30)]) (fun q9 => .int q9 :: [.int (M.1 24 15), .ref (gA G 30)]) F (c_X7_in F.st F.gg y1 (97 : Int32) (108 : Int32) M) (fun _ _ => rfl) dX7_begins_47 ml_X7_41 ys_X7_in rfl (by decide) rfl (Nat.le_of_ble_eq_true rfl) (fun _ => rfl) (fun r47 M47 => ?_)
  refine r_if_eq (tgt := 62) F dX7_begins_50 (by decide) (fun c1 => ?_) (fun c1 => ?_)
  · refine r_iconst F dX7_begins_62 (v := 0) (by decide) ?_
    refine r_sub [0, 1] rfl ?_
    exact l_X7_begins_63 F   y1 (M.1 24 15) (0 : Int32) M47
  · refine r_iconst F dX7_begins_53 (v := 1) (by decide) ?_
    refine r_iload_n F 1 dX7_begins_54 rfl rfl ?_
    refine r_bipush F dX7_begins_55 (v := 97) (by decide) ?_
    refine r_isub F dX7_begins_57 ?_
    refine r_ishl F dX7_begins_58 ?_
    refine r_goto (tgt := 63) F dX7_begins_59 (by decide) ?_
    refine r_sub [0, 1] rfl ?_
    exact l_X7_begins_63 F   y1 (M.1 24 15) ((1 : Int32) <<< ((y1 - (97 : Int32)) &&& 31)) M47

def f_X7_begins (a1 : Int32) (M : Mem) : Option (Int32 × Mem) := if (M.1 24 15) = (24 : Int32) then (f_X7_begins_32   M) else (if a1 = (45 : Int32) then (f_X7_begins_34  a1 M) else (if a1 = (40 : Int32) then (f_X7_begins_34  a1 M) else (bn (f_X7_in a1 (97 : Int32) (108 : Int32) M) fun r26 M26 => if r26 = 0 then (f_X7_begins_32   M26) else (f_X7_begins_34  a1 M26))))

set_option maxRecDepth 100000 in
set_option maxHeartbeats 4000000 in
theorem b_X7_begins {G : GM} {p : Program} {l : Launch} {e : Env} {s : State} {m : MethodId} {args : Array Value} {below : List Frame} {meth : Method} {c : Code} (F : Fx G p l s m args meth c cX7_begins RX7 2 (some .boolean)) (a1 : Int32) (M : Mem) : Rf G p l e s m args below meth c 7 2 emI (f_X7_begins a1 M) 0 [(0, .ref (gA G 24)), (1, .int a1)] [] M := by
  unfold f_X7_begins
  refine r_aload_n F 0 dX7_begins_0 rfl rfl ?_
  refine gf_X7_152 F dX7_begins_1 (rfl : kd 24 = 7) ?_
  refine r_bipush F dX7_begins_4 (v := 24) (by decide) ?_
  refine r_icmp_eq (tgt := 32) F dX7_begins_6 (by decide) (fun c1 => ?_) (fun c1 => ?_)
  · refine r_sub [] rfl ?_
    exact l_X7_begins_32 F    M
  · refine r_iload_n F 1 dX7_begins_9 rfl rfl ?_
    refine r_bipush F dX7_begins_10 (v := 45) (by decide) ?_
    refine r_icmp_eq (tgt := 34) F dX7_begins_12 (by decide) (fun c2 => ?_) (fun c2 => ?_)
    · refine r_sub [0, 1] rfl ?_
      exact l_X7_begins_34 F   a1 M
    · refine r_iload_n F 1 dX7_begins_15 rfl rfl ?_
      refine r_bipush F dX7_begins_16 (v := 40) (by decide) ?_
      refine r_icmp_eq (tgt := 34) F dX7_begins_18 (by decide) (fun c3 => ?_) (fun c3 => ?_)
      · refine r_sub [0, 1] rfl ?_
        exact l_X7_begins_34 F   a1 M
      · refine r_iload_n F 1 dX7_begins_21 rfl rfl ?_
        refine r_bipush F dX7_begins_22 (v := 97) (by decide) ?_
        refine r_bipush F dX7_begins_24 (v := 108) (by decide) ?_
        refine r_cS (val := vI) (As := [.int a1, .int (97 : Int32), .int (108 : Int32)]) (rest := []) (fun q9 => .int q9 :: []) F (c_X7_in F.st F.gg a1 (97 : Int32) (108 : Int32) M) (fun _ _ => rfl) dX7_begins_26 ml_X7_41 ys_X7_in rfl (by decide) rfl (Nat.le_of_ble_eq_true rfl) (fun _ => rfl) (fun r26 M26 => ?_)
        refine r_if_ne (tgt := 34) F dX7_begins_29 (by decide) (fun c4 => ?_) (fun c4 => ?_)
        · refine r_sub [] rfl ?_
          exact l_X7_begins_32 F    M26
        · refine r_sub [0, 1] rfl ?_
          exact l_X7_begins_34 F   a1 M26

set_option maxRecDepth 100000 in
set_option maxHeartbeats 4000000 in
theorem c_X7_begins {l : Launch} {G : GM} (hl : l.stackTraces = false) (hG : GG G) (a1 : Int32) (M : Mem) : ∀ r, f_X7_begins a1 M = some r → Ctr l G yX7_begins (.code yX7_begins cX7_begins 2 (some .boolean) :: wsA) 7 [.ref (gA G 24), .int a1] M (emI r) :=
  ctr_of (by decide) hl hG (Nat.le_of_ble_eq_true rfl) (fun p e s m args below meth c F => b_X7_begins F a1 M)

-- ===== X7_isTown DrumTownsModel.isTown(I)Z =====
theorem yv_X7_isTown : yV yX7_isTown cX7_isTown 2 (some .boolean) 1 := ⟨im_X7_isTown, sl_X7_isTown, ini_X7, cd_X7_isTown, ⟨by decide, by decide, by decide +kernel⟩, by decide⟩

def f_X7_isTown (a1 : Int32) (M : Mem) : Option (Int32 × Mem) := chk (inb (423 : Int32) 3424) <| bn (f_X7_in a1 (0 : Int32) ((M.1 25 (423 : Int32).toNatClampNeg) - (1 : Int32)) M) fun r12 M12 => chk (isb r12) <| some (r12, M12)

set_option maxRecDepth 100000 in
set_option maxHeartbeats 4000000 in
theorem b_X7_isTown {G : GM} {p : Program} {l : Launch} {e : Env} {s : State} {m : MethodId} {args : Array Value} {below : List Frame} {meth : Method} {c : Code} (F : Fx G p l s m args meth c cX7_isTown RX7 2 (some .boolean)) (a1 : Int32) (M : Mem) : Rf G p l e s m args below meth c 7 2 emI (f_X7_isTown a1 M) 0 [(0, .ref (gA G 24)), (1, .int a1)] [] M := by
  unfold f_X7_isTown
  refine r_iload_n F 1 dX7_isTown_0 rfl rfl ?_
  refine r_iconst F dX7_isTown_1 (v := 0) (by decide) ?_
  refine r_aload_n F 0 dX7_isTown_2 rfl rfl ?_
  refine gf_X7_7 F dX7_isTown_3 (rfl : kd 24 = 7) ?_
  refine r_sipush F dX7_isTown_6 (v := 423) (by decide) ?_
  refine r_chk (fun h1 => ?_)
  refine r_iald F dX7_isTown_9 (rfl : kd 25 = 8) (rfl : al 25 = 3424) h1 ?_
  refine r_iconst F dX7_isTown_10 (v := 1) (by decide) ?_
  refine r_isub F dX7_isTown_11 ?_
  refine r_cS (val := vI) (As := [.int a1, .int (0 : Int32), .int ((M.1 25 (423 : Int32).toNatClampNeg) - (1 : Int32))]) (rest := []) (fun q9 => .int q9 :: []) F (c_X7_in F.st F.gg a1 (0 : Int32) ((M.1 25 (423 : Int32).toNatClampNeg) - (1 : Int32)) M) (fun _ _ => rfl) dX7_isTown_12 ml_X7_41 ys_X7_in rfl (by decide) rfl (Nat.le_of_ble_eq_true rfl) (fun _ => rfl) (fun r12 M12 => ?_)
  refine r_chk (fun h2 => ?_)
  exact r_zret F rfl dX7_isTown_15 rfl (isb_or h2)

set_option maxRecDepth 100000 in
set_option maxHeartbeats 4000000 in
theorem c_X7_isTown {l : Launch} {G : GM} (hl : l.stackTraces = false) (hG : GG G) (a1 : Int32) (M : Mem) : ∀ r, f_X7_isTown a1 M = some r → Ctr l G yX7_isTown (.code yX7_isTown cX7_isTown 2 (some .boolean) :: wsA) 7 [.ref (gA G 24), .int a1] M (emI r) :=
  ctr_of (by decide) hl hG (Nat.le_of_ble_eq_true rfl) (fun p e s m args below meth c F => b_X7_isTown F a1 M)

-- ===== X7_bestDrum DrumTownsModel.bestDrum(I)I =====
theorem yv_X7_bestDrum : yV yX7_bestDrum cX7_bestDrum 2 (some .int) 1 := ⟨im_X7_bestDrum, sl_X7_bestDrum, ini_X7, cd_X7_bestDrum, ⟨by decide, by decide, by decide +kernel⟩, by decide⟩

def f_X7_bestDrum_33 (z0 : Int32) (M : Mem) : Option (Int32 × Mem) := some (z0, M)

set_option maxRecDepth 100000 in
set_option maxHeartbeats 4000000 in
theorem l_X7_bestDrum_33 {G : GM} {p : Program} {l : Launch} {e : Env} {s : State} {m : MethodId} {args : Array Value} {below : List Frame} {meth : Method} {c : Code} (F : Fx G p l s m args meth c cX7_bestDrum RX7 2 (some .int)) (z0 : Int32) (M : Mem) : Rf G p l e s m args below meth c 9 2 emI (f_X7_bestDrum_33  z0 M) 33 [] [.int z0] M := by
  unfold f_X7_bestDrum_33
  exact r_iret F rfl dX7_bestDrum_33 rfl

def f_X7_bestDrum_14 (y1 : Int32) (z1 : Int32) (M : Mem) : Option (Int32 × Mem) := bnd (mw M 24 2 z1) fun M14 => if (M14.1 24 2) = 0 then (bn (f_X7_bestDrumOf y1 M14) fun r26 M26 => f_X7_bestDrum_33  r26 M26) else (f_X7_bestDrum_33  (0 : Int32) M14)

set_option maxRecDepth 100000 in
set_option maxHeartbeats 4000000 in
theorem l_X7_bestDrum_14 {G : GM} {p : Program} {l : Launch} {e : Env} {s : State} {m : MethodId} {args : Array Value} {below : List Frame} {meth : Method} {c : Code} (F : Fx G p l s m args meth c cX7_bestDrum RX7 2 (some .int)) (y1 : Int32) (z1 : Int32) (M : Mem) : Rf G p l e s m args below meth c 9 2 emI (f_X7_bestDrum_14  y1 z1 M) 14 [(0, .ref (gA G 24)), (1, .int y1)] [.int z1, .ref (gA G 24)] M := by
  unfold f_X7_bestDrum_14
  refine pf_X7_37 F dX7_bestDrum_14 (rfl : kd 24 = 7) (fun M14 => ?_)
  refine r_aload_n F 0 dX7_bestDrum_17 rfl rfl ?_
  refine gf_X7_37 F dX7_bestDrum_18 (rfl : kd 24 = 7) ?_
  refine r_if_ne (tgt := 32) F dX7_bestDrum_21 (by decide) (fun c1 => ?_) (fun c1 => ?_)
  · refine r_aload_n F 0 dX7_bestDrum_24 rfl rfl ?_
    refine r_iload_n F 1 dX7_bestDrum_25 rfl rfl ?_
    refine r_cV (val := vI) (As := [.int y1]) (rest := []) (fun q9 => .int q9 :: []) F (c_X7_bestDrumOf F.st F.gg y1 M14) (fun _ _ => rfl) dX7_bestDrum_26 ml_X7_199 yv_X7_bestDrumOf (rfl : kd 24 = 7) (by decide) rfl rfl (by decide) rfl (Nat.le_of_ble_eq_true rfl) (fun _ => rfl) (fun r26 M26 => ?_)
    refine r_goto (tgt := 33) F dX7_bestDrum_29 (by decide) ?_
    refine r_sub [] rfl ?_
    exact l_X7_bestDrum_33 F   r26 M26
  · refine r_iconst F dX7_bestDrum_32 (v := 0) (by decide) ?_
    refine r_sub [] rfl ?_
    exact l_X7_bestDrum_33 F   (0 : Int32) M14

def f_X7_bestDrum (a1 : Int32) (M : Mem) : Option (Int32 × Mem) := bn (f_X7_isTown a1 M) fun r3 M3 => if r3 = 0 then (f_X7_bestDrum_14  a1 (1 : Int32) M3) else (f_X7_bestDrum_14  a1 (0 : Int32) M3)

set_option maxRecDepth 100000 in
set_option maxHeartbeats 4000000 in
theorem b_X7_bestDrum {G : GM} {p : Program} {l : Launch} {e : Env} {s : State} {m : MethodId} {args : Array Value} {below : List Frame} {meth : Method} {c : Code} (F : Fx G p l s m args meth c cX7_bestDrum RX7 2 (some .int)) (a1 : Int32) (M : Mem) : Rf G p l e s m args below meth c 9 2 emI (f_X7_bestDrum a1 M) 0 [(0, .ref (gA G 24)), (1, .int a1)] [] M := by
  unfold f_X7_bestDrum
  refine r_aload_n F 0 dX7_bestDrum_0 rfl rfl ?_
  refine r_aload_n F 0 dX7_bestDrum_1 rfl rfl ?_
  refine r_iload_n F 1 dX7_bestDrum_2 rfl rfl ?_
  refine r_cV (val := vI) (As := [.int a1]) (rest := [.ref (gA G 24)]) (fun q9 => .int q9 :: [.ref (gA G 24)]) F (c_X7_isTown F.st F.gg a1 M) (fun _ _ => rfl) dX7_bestDrum_3 ml_X7_45 yv_X7_isTown (rfl : kd 24 = 7) (by decide) rfl rfl (by decide) rfl (Nat.le_of_ble_eq_true rfl) (fun _ => rfl) (fun r3 M3 => ?_)
  refine r_if_eq (tgt := 13) F dX7_bestDrum_6 (by decide) (fun c1 => ?_) (fun c1 => ?_)
  · refine r_iconst F dX7_bestDrum_13 (v := 1) (by decide) ?_
    refine r_sub [0, 1] rfl ?_
    exact l_X7_bestDrum_14 F   a1 (1 : Int32) M3
  · refine r_iconst F dX7_bestDrum_9 (v := 0) (by decide) ?_
    refine r_goto (tgt := 14) F dX7_bestDrum_10 (by decide) ?_
    refine r_sub [0, 1] rfl ?_
    exact l_X7_bestDrum_14 F   a1 (0 : Int32) M3

set_option maxRecDepth 100000 in
set_option maxHeartbeats 4000000 in
theorem c_X7_bestDrum {l : Launch} {G : GM} (hl : l.stackTraces = false) (hG : GG G) (a1 : Int32) (M : Mem) : ∀ r, f_X7_bestDrum a1 M = some r → Ctr l G yX7_bestDrum (.code yX7_bestDrum cX7_bestDrum 2 (some .int) :: wsA) 9 [.ref (gA G 24), .int a1] M (emI r) :=
  ctr_of (by decide) hl hG (Nat.le_of_ble_eq_true rfl) (fun p e s m args below meth c F => b_X7_bestDrum F a1 M)

-- ===== X7_broughtBy DrumTownsModel.broughtBy(I)I =====
theorem yv_X7_broughtBy : yV yX7_broughtBy cX7_broughtBy 6 (some .int) 1 := ⟨im_X7_broughtBy, sl_X7_broughtBy, ini_X7, cd_X7_broughtBy, ⟨by decide, by decide, by decide +kernel⟩, by decide⟩

def f_X7_broughtBy_19 : Nat → Int32 → Int32 → Int32 → Int32 → Mem → Option (Int32 × Mem)
  | 0, _, _, _, _, _ => none
  | n + 1, y2, y3, y4, y5, M => if y5 < 0 then (some (y4, M)) else (chk (inb (423 : Int32) 3424) <| chk (!decide ((M.1 25 (423 : Int32).toNatClampNeg) = 0)) <| chk (inb y5 6) <| bnd (mw M 32 y5.toNatClampNeg (y2 - y2 / (M.1 25 (423 : Int32).toNatClampNeg) * (M.1 25 (423 : Int32).toNatClampNeg))) fun M40 => chk (inb (423 : Int32) 3424) <| chk (!decide ((M40.1 25 (423 : Int32).toNatClampNeg) = 0)) <| bnd (y2 / (M40.1 25 (423 : Int32).toNatClampNeg)) fun x51 => chk (inb y5 6) <| bn (f_X7_has y3 (M40.1 32 y5.toNatClampNeg) M40) fun r60 M60 => if r60 = 0 then (chk (inb y5 6) <| bnd (y3 ||| ((1 : Int32) <<< ((M60.1 32 y5.toNatClampNeg) &&& 31))) fun x79 => chk (inb y5 6) <| chk (inb (((6 : Int32) * y5) + (M60.1 32 y5.toNatClampNeg)) 36) <| bnd (y4 + (M60.1 31 (((6 : Int32) * y5) + (M60.1 32 y5.toNatClampNeg)).toNatClampNeg)) fun x101 => bnd (y5 + (-1 : Int32)) fun x103 => f_X7_broughtBy_19  n x51 x79 x101 x103 M60) else (some ((-1 : Int32), M60)))

set_option maxRecDepth 100000 in
set_option maxHeartbeats 4000000 in
theorem l_X7_broughtBy_19 {G : GM} {p : Program} {l : Launch} {e : Env} {s : State} {m : MethodId} {args : Array Value} {below : List Frame} {meth : Method} {c : Code} (F : Fx G p l s m args meth c cX7_broughtBy RX7 6 (some .int)) : ∀ (n : Nat) (y2 : Int32) (y3 : Int32) (y4 : Int32) (y5 : Int32) (M : Mem), Rf G p l e s m args below meth c 7 6 emI (f_X7_broughtBy_19  n y2 y3 y4 y5 M) 19 [(0, .ref (gA G 24)), (2, .int y2), (3, .int y3), (4, .int y4), (5, .int y5)] [] M := by
  intro n
  induction n with
  | zero => intros; exact r_none
  | succ n ih =>
    intro y2 y3 y4 y5 M
    rw [f_X7_broughtBy_19]
    refine r_iload F 4 dX7_broughtBy_19 rfl ?_
    refine r_if_lt (tgt := 109) F dX7_broughtBy_21 (by decide) (fun c1 => ?_) (fun c1 => ?_)
    · refine r_iload F 3 dX7_broughtBy_109 rfl ?_
      exact r_iret F rfl dX7_broughtBy_111 rfl
    · refine r_aload_n F 0 dX7_broughtBy_24 rfl rfl ?_
      refine gf_X7_31 F dX7_broughtBy_25 (rfl : kd 24 = 7) ?_
      refine r_iload F 4 dX7_broughtBy_28 rfl ?_
      refine r_iload_n F 1 dX7_broughtBy_30 rfl rfl ?_
      refine r_aload_n F 0 dX7_broughtBy_31 rfl rfl ?_
      refine gf_X7_7 F dX7_broughtBy_32 (rfl : kd 24 = 7) ?_
      refine r_sipush F dX7_broughtBy_35 (v := 423) (by decide) ?_
      refine r_chk (fun h2 => ?_)
      refine r_iald F dX7_broughtBy_38 (rfl : kd 25 = 8) (rfl : al 25 = 3424) h2 ?_
      refine r_chk (fun h3 => ?_)
      refine r_irem F dX7_broughtBy_39 (by simpa using h3) ?_
      refine r_chk (fun h4 => ?_)
      refine r_iast F dX7_broughtBy_40 (rfl : kd 32 = 8) (rfl : al 32 = 6) h4 (fun M40 => ?_)
      refine r_iload_n F 1 dX7_broughtBy_41 rfl rfl ?_
      refine r_aload_n F 0 dX7_broughtBy_42 rfl rfl ?_
      refine gf_X7_7 F dX7_broughtBy_43 (rfl : kd 24 = 7) ?_
      refine r_sipush F dX7_broughtBy_46 (v := 423) (by decide) ?_
      refine r_chk (fun h5 => ?_)
      refine r_iald F dX7_broughtBy_49 (rfl : kd 25 = 8) (rfl : al 25 = 3424) h5 ?_
      refine r_chk (fun h6 => ?_)
      refine r_idiv F dX7_broughtBy_50 (by simpa using h6) ?_
      refine r_bi (fun x51 => ?_)
      refine r_istore_n (ls' := [(2, .int x51), (0, .ref (gA G 24)), (3, .int y3), (4, .int y4), (5, .int y5)]) F dX7_broughtBy_51 rfl (by decide) rfl ?_
      refine r_iload_n F 2 dX7_broughtBy_52 rfl rfl ?_
      refine r_aload_n F 1 dX7_broughtBy_53 rfl rfl ?_
      refine gf_X7_31 F dX7_broughtBy_54 (rfl : kd 24 = 7) ?_
      refine r_iload F 4 dX7_broughtBy_57 rfl ?_
      refine r_chk (fun h7 => ?_)
      refine r_iald F dX7_broughtBy_59 (rfl : kd 32 = 8) (rfl : al 32 = 6) h7 ?_
      refine r_cS (val := vI) (As := [.int y3, .int (M40.1 32 y5.toNatClampNeg)]) (rest := []) (fun q9 => .int q9 :: []) F (c_X7_has F.st F.gg y3 (M40.1 32 y5.toNatClampNeg) M40) (fun _ _ => rfl) dX7_broughtBy_60 ml_X7_70 ys_X7_has rfl (by decide) rfl (Nat.le_of_ble_eq_true rfl) (fun _ => rfl) (fun r60 M60 => ?_)
      refine r_if_eq (tgt := 68) F dX7_broughtBy_63 (by decide) (fun c8 => ?_) (fun c8 => ?_)
      · refine r_iload_n F 2 dX7_broughtBy_68 rfl rfl ?_
        refine r_iconst F dX7_broughtBy_69 (v := 1) (by decide) ?_
        refine r_aload_n F 1 dX7_broughtBy_70 rfl rfl ?_
        refine gf_X7_31 F dX7_broughtBy_71 (rfl : kd 24 = 7) ?_
        refine r_iload F 4 dX7_broughtBy_74 rfl ?_
        refine r_chk (fun h9 => ?_)
        refine r_iald F dX7_broughtBy_76 (rfl : kd 32 = 8) (rfl : al 32 = 6) h9 ?_
        refine r_ishl F dX7_broughtBy_77 ?_
        refine r_ior F dX7_broughtBy_78 ?_
        refine r_bi (fun x79 => ?_)
        refine r_istore_n (ls' := [(3, .int x79), (2, .int x51), (0, .ref (gA G 24)), (4, .int y4), (5, .int y5)]) F dX7_broughtBy_79 rfl (by decide) rfl ?_
        refine r_iload F 3 dX7_broughtBy_80 rfl ?_
        refine r_aload_n F 2 dX7_broughtBy_82 rfl rfl ?_
        refine gf_X7_28 F dX7_broughtBy_83 (rfl : kd 24 = 7) ?_
        refine r_bipush F dX7_broughtBy_86 (v := 6) (by decide) ?_
        refine r_iload F 4 dX7_broughtBy_88 rfl ?_
        refine r_imul F dX7_broughtBy_90 ?_
        refine r_aload_n F 2 dX7_broughtBy_91 rfl rfl ?_
        refine gf_X7_31 F dX7_broughtBy_92 (rfl : kd 24 = 7) ?_
        refine r_iload F 4 dX7_broughtBy_95 rfl ?_
        refine r_chk (fun h10 => ?_)
        refine r_iald F dX7_broughtBy_97 (rfl : kd 32 = 8) (rfl : al 32 = 6) h10 ?_
        refine r_iadd F dX7_broughtBy_98 ?_
        refine r_chk (fun h11 => ?_)
        refine r_iald F dX7_broughtBy_99 (rfl : kd 31 = 8) (rfl : al 31 = 36) h11 ?_
        refine r_iadd F dX7_broughtBy_100 ?_
        refine r_bi (fun x101 => ?_)
        refine r_istore (ls' := [(4, .int x101), (3, .int x79), (2, .int x51), (0, .ref (gA G 24)), (5, .int y5)]) F dX7_broughtBy_101 (by decide) rfl ?_
        refine r_iinc (ls' := fun q9 => [(5, .int q9), (4, .int x101), (3, .int x79), (2, .int x51), (0, .ref (gA G 24))]) (k := 4) (v := y5 + (-1 : Int32)) F dX7_broughtBy_103 rfl rfl (by decide) (fun _ => rfl) (fun x103 => ?_)
        refine r_goto (tgt := 19) F dX7_broughtBy_106 (by decide) ?_
        refine r_sub [4, 3, 2, 1, 0] rfl ?_
        exact ih x51 x79 x101 x103 M60
      · refine r_iconst F dX7_broughtBy_66 (v := -1) (by decide) ?_
        exact r_iret F rfl dX7_broughtBy_67 rfl

def f_X7_broughtBy (a1 : Int32) (M : Mem) : Option (Int32 × Mem) := chk (inb (423 : Int32) 3424) <| bnd ((M.1 25 (423 : Int32).toNatClampNeg) - (1 : Int32)) fun x17 => f_X7_broughtBy_19  FU a1 (0 : Int32) (0 : Int32) x17 M

set_option maxRecDepth 100000 in
set_option maxHeartbeats 4000000 in
theorem b_X7_broughtBy {G : GM} {p : Program} {l : Launch} {e : Env} {s : State} {m : MethodId} {args : Array Value} {below : List Frame} {meth : Method} {c : Code} (F : Fx G p l s m args meth c cX7_broughtBy RX7 6 (some .int)) (a1 : Int32) (M : Mem) : Rf G p l e s m args below meth c 7 6 emI (f_X7_broughtBy a1 M) 0 [(0, .ref (gA G 24)), (1, .int a1)] [] M := by
  unfold f_X7_broughtBy
  refine r_iload_n F 1 dX7_broughtBy_0 rfl rfl ?_
  refine r_istore_n (ls' := [(2, .int a1), (0, .ref (gA G 24)), (1, .int a1)]) F dX7_broughtBy_1 rfl (by decide) rfl ?_
  refine r_iconst F dX7_broughtBy_2 (v := 0) (by decide) ?_
  refine r_istore_n (ls' := [(3, .int (0 : Int32)), (2, .int a1), (0, .ref (gA G 24)), (1, .int a1)]) F dX7_broughtBy_3 rfl (by decide) rfl ?_
  refine r_iconst F dX7_broughtBy_4 (v := 0) (by decide) ?_
  refine r_istore (ls' := [(4, .int (0 : Int32)), (3, .int (0 : Int32)), (2, .int a1), (0, .ref (gA G 24)), (1, .int a1)]) F dX7_broughtBy_5 (by decide) rfl ?_
  refine r_aload_n F 3 dX7_broughtBy_7 rfl rfl ?_
  refine gf_X7_7 F dX7_broughtBy_8 (rfl : kd 24 = 7) ?_
  refine r_sipush F dX7_broughtBy_11 (v := 423) (by decide) ?_
  refine r_chk (fun h1 => ?_)
  refine r_iald F dX7_broughtBy_14 (rfl : kd 25 = 8) (rfl : al 25 = 3424) h1 ?_
  refine r_iconst F dX7_broughtBy_15 (v := 1) (by decide) ?_
  refine r_isub F dX7_broughtBy_16 ?_
  refine r_bi (fun x17 => ?_)
  refine r_istore (ls' := [(5, .int x17), (4, .int (0 : Int32)), (3, .int (0 : Int32)), (2, .int a1), (0, .ref (gA G 24)), (1, .int a1)]) F dX7_broughtBy_17 (by decide) rfl ?_
  refine r_sub [4, 3, 2, 1, 0] rfl ?_
  exact l_X7_broughtBy_19 F   FU a1 (0 : Int32) (0 : Int32) x17 M

set_option maxRecDepth 100000 in
set_option maxHeartbeats 4000000 in
theorem c_X7_broughtBy {l : Launch} {G : GM} (hl : l.stackTraces = false) (hG : GG G) (a1 : Int32) (M : Mem) : ∀ r, f_X7_broughtBy a1 M = some r → Ctr l G yX7_broughtBy (.code yX7_broughtBy cX7_broughtBy 6 (some .int) :: wsA) 7 [.ref (gA G 24), .int a1] M (emI r) :=
  ctr_of (by decide) hl hG (Nat.le_of_ble_eq_true rfl) (fun p e s m args below meth c F => b_X7_broughtBy F a1 M)

-- ===== X7_bestTradesOf DrumTownsModel.bestTradesOf(I)I =====
theorem yv_X7_bestTradesOf : yV yX7_bestTradesOf cX7_bestTradesOf 7 (some .int) 1 := ⟨im_X7_bestTradesOf, sl_X7_bestTradesOf, ini_X7, cd_X7_bestTradesOf, ⟨by decide, by decide, by decide +kernel⟩, by decide⟩

def f_X7_bestTradesOf_62 (k4 : Int32 → Int32 → Int32 → Mem → Option (Int32 × Mem)) (y1 : Int32) (y2 : Int32) (y3 : Int32) (z1 : Int32) (z2 : Int32) (M : Mem) : Option (Int32 × Mem) := chk (inb z1 36) <| bnd (mw M 31 z1.toNatClampNeg z2) fun M62 => bnd (y3 + (1 : Int32)) fun x63 => k4 y1 y2 x63 M62

set_option maxRecDepth 100000 in
set_option maxHeartbeats 4000000 in
theorem l_X7_bestTradesOf_62 {G : GM} {p : Program} {l : Launch} {e : Env} {s : State} {m : MethodId} {args : Array Value} {below : List Frame} {meth : Method} {c : Code} (F : Fx G p l s m args meth c cX7_bestTradesOf RX7 7 (some .int)) (k4 : Int32 → Int32 → Int32 → Mem → Option (Int32 × Mem)) (H4 : ∀ (y1 : Int32) (y2 : Int32) (y3 : Int32) (M : Mem), Rf G p l e s m args below meth c 8 7 emI (k4 y1 y2 y3 M) 4 [(0, .ref (gA G 24)), (1, .int y1), (2, .int y2), (3, .int y3)] [] M) (y1 : Int32) (y2 : Int32) (y3 : Int32) (z1 : Int32) (z2 : Int32) (M : Mem) : Rf G p l e s m args below meth c 8 7 emI (f_X7_bestTradesOf_62 k4 y1 y2 y3 z1 z2 M) 62 [(0, .ref (gA G 24)), (1, .int y1), (2, .int y2), (3, .int y3)] [.int z2, .int z1, .ref (gA G 31)] M := by
  unfold f_X7_bestTradesOf_62
  refine r_chk (fun h1 => ?_)
  refine r_iast F dX7_bestTradesOf_62 (rfl : kd 31 = 8) (rfl : al 31 = 36) h1 (fun M62 => ?_)
  refine r_iinc (ls' := fun q9 => [(3, .int q9), (0, .ref (gA G 24)), (1, .int y1), (2, .int y2)]) (k := 3) (v := y3 + (1 : Int32)) F dX7_bestTradesOf_63 rfl rfl (by decide) (fun _ => rfl) (fun x63 => ?_)
  refine r_goto (tgt := 4) F dX7_bestTradesOf_66 (by decide) ?_
  refine r_sub [1, 2, 3, 0] rfl ?_
  exact H4 y1 y2 x63 M62

def f_X7_bestTradesOf_61 (k4 : Int32 → Int32 → Int32 → Mem → Option (Int32 × Mem)) (y1 : Int32) (y2 : Int32) (y3 : Int32) (z1 : Int32) (M : Mem) : Option (Int32 × Mem) := f_X7_bestTradesOf_62 k4 y1 y2 y3 z1 (0 : Int32) M

set_option maxRecDepth 100000 in
set_option maxHeartbeats 4000000 in
theorem l_X7_bestTradesOf_61 {G : GM} {p : Program} {l : Launch} {e : Env} {s : State} {m : MethodId} {args : Array Value} {below : List Frame} {meth : Method} {c : Code} (F : Fx G p l s m args meth c cX7_bestTradesOf RX7 7 (some .int)) (k4 : Int32 → Int32 → Int32 → Mem → Option (Int32 × Mem)) (H4 : ∀ (y1 : Int32) (y2 : Int32) (y3 : Int32) (M : Mem), Rf G p l e s m args below meth c 8 7 emI (k4 y1 y2 y3 M) 4 [(0, .ref (gA G 24)), (1, .int y1), (2, .int y2), (3, .int y3)] [] M) (y1 : Int32) (y2 : Int32) (y3 : Int32) (z1 : Int32) (M : Mem) : Rf G p l e s m args below meth c 8 7 emI (f_X7_bestTradesOf_61 k4 y1 y2 y3 z1 M) 61 [(0, .ref (gA G 24)), (1, .int y1), (2, .int y2), (3, .int y3)] [.int z1, .ref (gA G 31)] M := by
  unfold f_X7_bestTradesOf_61
  refine r_iconst F dX7_bestTradesOf_61 (v := 0) (by decide) ?_
  refine r_sub [0, 1, 2, 3] rfl ?_
  exact l_X7_bestTradesOf_62 F k4 H4 y1 y2 y3 z1 (0 : Int32) M

def f_X7_bestTradesOf_167 (k105 : Int32 → Int32 → Int32 → Int32 → Mem → Option (Int32 × Mem)) (y1 : Int32) (y2 : Int32) (y4 : Int32) (z0 : Int32) (M : Mem) : Option (Int32 × Mem) := bnd (y4 + (1 : Int32)) fun x168 => k105 y1 y2 z0 x168 M

set_option maxRecDepth 100000 in
set_option maxHeartbeats 4000000 in
theorem l_X7_bestTradesOf_167 {G : GM} {p : Program} {l : Launch} {e : Env} {s : State} {m : MethodId} {args : Array Value} {below : List Frame} {meth : Method} {c : Code} (F : Fx G p l s m args meth c cX7_bestTradesOf RX7 7 (some .int)) (k105 : Int32 → Int32 → Int32 → Int32 → Mem → Option (Int32 × Mem)) (H105 : ∀ (y1 : Int32) (y2 : Int32) (y3 : Int32) (y4 : Int32) (M : Mem), Rf G p l e s m args below meth c 8 7 emI (k105 y1 y2 y3 y4 M) 105 [(0, .ref (gA G 24)), (1, .int y1), (2, .int y2), (3, .int y3), (4, .int y4)] [] M) (y1 : Int32) (y2 : Int32) (y4 : Int32) (z0 : Int32) (M : Mem) : Rf G p l e s m args below meth c 8 7 emI (f_X7_bestTradesOf_167 k105 y1 y2 y4 z0 M) 167 [(0, .ref (gA G 24)), (1, .int y1), (2, .int y2), (4, .int y4)] [.int z0] M := by
  unfold f_X7_bestTradesOf_167
  refine r_istore_n (ls' := [(3, .int z0), (0, .ref (gA G 24)), (1, .int y1), (2, .int y2), (4, .int y4)]) F dX7_bestTradesOf_167 rfl (by decide) rfl ?_
  refine r_iinc (ls' := fun q9 => [(4, .int q9), (3, .int z0), (0, .ref (gA G 24)), (1, .int y1), (2, .int y2)]) (k := 4) (v := y4 + (1 : Int32)) F dX7_bestTradesOf_168 rfl rfl (by decide) (fun _ => rfl) (fun x168 => ?_)
  refine r_goto (tgt := 105) F dX7_bestTradesOf_171 (by decide) ?_
  refine r_sub [2, 3, 4, 1, 0] rfl ?_
  exact H105 y1 y2 z0 x168 M

def f_X7_bestTradesOf_155 (k105 : Int32 → Int32 → Int32 → Int32 → Mem → Option (Int32 × Mem)) (y1 : Int32) (y2 : Int32) (y3 : Int32) (y4 : Int32) (y5 : Int32) (M : Mem) : Option (Int32 × Mem) := if y5 ≤ y3 then (f_X7_bestTradesOf_167 k105 y1 y2 y4 y3 M) else (f_X7_bestTradesOf_167 k105 y1 y2 y4 y5 M)

set_option maxRecDepth 100000 in
set_option maxHeartbeats 4000000 in
theorem l_X7_bestTradesOf_155 {G : GM} {p : Program} {l : Launch} {e : Env} {s : State} {m : MethodId} {args : Array Value} {below : List Frame} {meth : Method} {c : Code} (F : Fx G p l s m args meth c cX7_bestTradesOf RX7 7 (some .int)) (k105 : Int32 → Int32 → Int32 → Int32 → Mem → Option (Int32 × Mem)) (H105 : ∀ (y1 : Int32) (y2 : Int32) (y3 : Int32) (y4 : Int32) (M : Mem), Rf G p l e s m args below meth c 8 7 emI (k105 y1 y2 y3 y4 M) 105 [(0, .ref (gA G 24)), (1, .int y1), (2, .int y2), (3, .int y3), (4, .int y4)] [] M) (y1 : Int32) (y2 : Int32) (y3 : Int32) (y4 : Int32) (y5 : Int32) (M : Mem) : Rf G p l e s m args below meth c 8 7 emI (f_X7_bestTradesOf_155 k105 y1 y2 y3 y4 y5 M) 155 [(0, .ref (gA G 24)), (1, .int y1), (2, .int y2), (3, .int y3), (4, .int y4), (5, .int y5)] [] M := by
  unfold f_X7_bestTradesOf_155
  refine r_iload F 5 dX7_bestTradesOf_155 rfl ?_
  refine r_iload_n F 3 dX7_bestTradesOf_157 rfl rfl ?_
  refine r_icmp_le (tgt := 166) F dX7_bestTradesOf_158 (by decide) (fun c1 => ?_) (fun c1 => ?_)
  · refine r_iload_n F 3 dX7_bestTradesOf_166 rfl rfl ?_
    refine r_sub [0, 1, 2, 4] rfl ?_
    exact l_X7_bestTradesOf_167 F k105 H105 y1 y2 y4 y3 M
  · refine r_iload F 5 dX7_bestTradesOf_161 rfl ?_
    refine r_goto (tgt := 167) F dX7_bestTradesOf_163 (by decide) ?_
    refine r_sub [0, 1, 2, 4] rfl ?_
    exact l_X7_bestTradesOf_167 F k105 H105 y1 y2 y4 y5 M

def f_X7_bestTradesOf_122 (k105 : Int32 → Int32 → Int32 → Int32 → Mem → Option (Int32 × Mem)) : Nat → Int32 → Int32 → Int32 → Int32 → Int32 → Int32 → Mem → Option (Int32 × Mem)
  | 0, _, _, _, _, _, _, _ => none
  | n + 1, y1, y2, y3, y4, y5, y6, M => if (6 : Int32) ≤ y6 then (f_X7_bestTradesOf_155 k105 y1 y2 y3 y4 y5 M) else (if y5 ≤ y3 then (f_X7_bestTradesOf_155 k105 y1 y2 y3 y4 y5 M) else (chk (inb y6 6) <| chk (inb y6 6) <| bnd (mw M 33 y6.toNatClampNeg (M.1 32 y6.toNatClampNeg)) fun M148 => bnd (y6 + (1 : Int32)) fun x149 => f_X7_bestTradesOf_122 k105 n y1 y2 y3 y4 y5 x149 M148))

set_option maxRecDepth 100000 in
set_option maxHeartbeats 4000000 in
theorem l_X7_bestTradesOf_122 {G : GM} {p : Program} {l : Launch} {e : Env} {s : State} {m : MethodId} {args : Array Value} {below : List Frame} {meth : Method} {c : Code} (F : Fx G p l s m args meth c cX7_bestTradesOf RX7 7 (some .int)) (k105 : Int32 → Int32 → Int32 → Int32 → Mem → Option (Int32 × Mem)) (H105 : ∀ (y1 : Int32) (y2 : Int32) (y3 : Int32) (y4 : Int32) (M : Mem), Rf G p l e s m args below meth c 8 7 emI (k105 y1 y2 y3 y4 M) 105 [(0, .ref (gA G 24)), (1, .int y1), (2, .int y2), (3, .int y3), (4, .int y4)] [] M) : ∀ (n : Nat) (y1 : Int32) (y2 : Int32) (y3 : Int32) (y4 : Int32) (y5 : Int32) (y6 : Int32) (M : Mem), Rf G p l e s m args below meth c 8 7 emI (f_X7_bestTradesOf_122 k105 n y1 y2 y3 y4 y5 y6 M) 122 [(0, .ref (gA G 24)), (1, .int y1), (2, .int y2), (3, .int y3), (4, .int y4), (5, .int y5), (6, .int y6)] [] M := by
  intro n
  induction n with
  | zero => intros; exact r_none
  | succ n ih =>
    intro y1 y2 y3 y4 y5 y6 M
    rw [f_X7_bestTradesOf_122]
    refine r_iload F 6 dX7_bestTradesOf_122 rfl ?_
    refine r_bipush F dX7_bestTradesOf_124 (v := 6) (by decide) ?_
    refine r_icmp_ge (tgt := 155) F dX7_bestTradesOf_126 (by decide) (fun c1 => ?_) (fun c1 => ?_)
    · refine r_sub [0, 1, 2, 3, 4, 5] rfl ?_
      exact l_X7_bestTradesOf_155 F k105 H105 y1 y2 y3 y4 y5 M
    · refine r_iload F 5 dX7_bestTradesOf_129 rfl ?_
      refine r_iload_n F 3 dX7_bestTradesOf_131 rfl rfl ?_
      refine r_icmp_le (tgt := 155) F dX7_bestTradesOf_132 (by decide) (fun c2 => ?_) (fun c2 => ?_)
      · refine r_sub [0, 1, 2, 3, 4, 5] rfl ?_
        exact l_X7_bestTradesOf_155 F k105 H105 y1 y2 y3 y4 y5 M
      · refine r_aload_n F 0 dX7_bestTradesOf_135 rfl rfl ?_
        refine gf_X7_34 F dX7_bestTradesOf_136 (rfl : kd 24 = 7) ?_
        refine r_iload F 6 dX7_bestTradesOf_139 rfl ?_
        refine r_aload_n F 0 dX7_bestTradesOf_141 rfl rfl ?_
        refine gf_X7_31 F dX7_bestTradesOf_142 (rfl : kd 24 = 7) ?_
        refine r_iload F 6 dX7_bestTradesOf_145 rfl ?_
        refine r_chk (fun h3 => ?_)
        refine r_iald F dX7_bestTradesOf_147 (rfl : kd 32 = 8) (rfl : al 32 = 6) h3 ?_
        refine r_chk (fun h4 => ?_)
        refine r_iast F dX7_bestTradesOf_148 (rfl : kd 33 = 8) (rfl : al 33 = 6) h4 (fun M148 => ?_)
        refine r_iinc (ls' := fun q9 => [(6, .int q9), (0, .ref (gA G 24)), (1, .int y1), (2, .int y2), (3, .int y3), (4, .int y4), (5, .int y5)]) (k := 6) (v := y6 + (1 : Int32)) F dX7_bestTradesOf_149 rfl rfl (by decide) (fun _ => rfl) (fun x149 => ?_)
        refine r_goto (tgt := 122) F dX7_bestTradesOf_152 (by decide) ?_
        refine r_sub [1, 2, 3, 4, 5, 6, 0] rfl ?_
        exact ih y1 y2 y3 y4 y5 x149 M148

def f_X7_bestTradesOf_210 (z0 : Int32) (M : Mem) : Option (Int32 × Mem) := some (z0, M)

set_option maxRecDepth 100000 in
set_option maxHeartbeats 4000000 in
theorem l_X7_bestTradesOf_210 {G : GM} {p : Program} {l : Launch} {e : Env} {s : State} {m : MethodId} {args : Array Value} {below : List Frame} {meth : Method} {c : Code} (F : Fx G p l s m args meth c cX7_bestTradesOf RX7 7 (some .int)) (z0 : Int32) (M : Mem) : Rf G p l e s m args below meth c 8 7 emI (f_X7_bestTradesOf_210  z0 M) 210 [] [.int z0] M := by
  unfold f_X7_bestTradesOf_210
  exact r_iret F rfl dX7_bestTradesOf_210 rfl

def f_X7_bestTradesOf_105 : Nat → Int32 → Int32 → Int32 → Int32 → Mem → Option (Int32 × Mem)
  | 0, _, _, _, _, _ => none
  | n + 1, y1, y2, y3, y4, M => if y2 ≤ y4 then (if y1 = 0 then (f_X7_bestTradesOf_210  y3 M) else (chk (inb (423 : Int32) 3424) <| if (M.1 25 (423 : Int32).toNatClampNeg) ≤ (y1 - (10 : Int32)) then (f_X7_bestTradesOf_210  (-1 : Int32) M) else (chk (inb (y1 - (10 : Int32)) 6) <| f_X7_bestTradesOf_210  (M.1 33 (y1 - (10 : Int32)).toNatClampNeg) M))) else (bn (f_X7_broughtBy y4 M) fun r114 M114 => f_X7_bestTradesOf_122 (f_X7_bestTradesOf_105  n) FU y1 y2 y3 y4 r114 (0 : Int32) M114)

set_option maxRecDepth 100000 in
set_option maxHeartbeats 4000000 in
theorem l_X7_bestTradesOf_105 {G : GM} {p : Program} {l : Launch} {e : Env} {s : State} {m : MethodId} {args : Array Value} {below : List Frame} {meth : Method} {c : Code} (F : Fx G p l s m args meth c cX7_bestTradesOf RX7 7 (some .int)) : ∀ (n : Nat) (y1 : Int32) (y2 : Int32) (y3 : Int32) (y4 : Int32) (M : Mem), Rf G p l e s m args below meth c 8 7 emI (f_X7_bestTradesOf_105  n y1 y2 y3 y4 M) 105 [(0, .ref (gA G 24)), (1, .int y1), (2, .int y2), (3, .int y3), (4, .int y4)] [] M := by
  intro n
  induction n with
  | zero => intros; exact r_none
  | succ n ih =>
    intro y1 y2 y3 y4 M
    rw [f_X7_bestTradesOf_105]
    refine r_iload F 4 dX7_bestTradesOf_105 rfl ?_
    refine r_iload_n F 2 dX7_bestTradesOf_107 rfl rfl ?_
    refine r_icmp_ge (tgt := 174) F dX7_bestTradesOf_108 (by decide) (fun c1 => ?_) (fun c1 => ?_)
    · refine r_iload_n F 1 dX7_bestTradesOf_174 rfl rfl ?_
      refine r_if_ne (tgt := 182) F dX7_bestTradesOf_175 (by decide) (fun c2 => ?_) (fun c2 => ?_)
      · refine r_iload_n F 3 dX7_bestTradesOf_178 rfl rfl ?_
        refine r_goto (tgt := 210) F dX7_bestTradesOf_179 (by decide) ?_
        refine r_sub [] rfl ?_
        exact l_X7_bestTradesOf_210 F   y3 M
      · refine r_iload_n F 1 dX7_bestTradesOf_182 rfl rfl ?_
        refine r_bipush F dX7_bestTradesOf_183 (v := 10) (by decide) ?_
        refine r_isub F dX7_bestTradesOf_185 ?_
        refine r_aload_n F 0 dX7_bestTradesOf_186 rfl rfl ?_
        refine gf_X7_7 F dX7_bestTradesOf_187 (rfl : kd 24 = 7) ?_
        refine r_sipush F dX7_bestTradesOf_190 (v := 423) (by decide) ?_
        refine r_chk (fun h3 => ?_)
        refine r_iald F dX7_bestTradesOf_193 (rfl : kd 25 = 8) (rfl : al 25 = 3424) h3 ?_
        refine r_icmp_ge (tgt := 209) F dX7_bestTradesOf_194 (by decide) (fun c4 => ?_) (fun c4 => ?_)
        · refine r_iconst F dX7_bestTradesOf_209 (v := -1) (by decide) ?_
          refine r_sub [] rfl ?_
          exact l_X7_bestTradesOf_210 F   (-1 : Int32) M
        · refine r_aload_n F 0 dX7_bestTradesOf_197 rfl rfl ?_
          refine gf_X7_34 F dX7_bestTradesOf_198 (rfl : kd 24 = 7) ?_
          refine r_iload_n F 1 dX7_bestTradesOf_201 rfl rfl ?_
          refine r_bipush F dX7_bestTradesOf_202 (v := 10) (by decide) ?_
          refine r_isub F dX7_bestTradesOf_204 ?_
          refine r_chk (fun h5 => ?_)
          refine r_iald F dX7_bestTradesOf_205 (rfl : kd 33 = 8) (rfl : al 33 = 6) h5 ?_
          refine r_goto (tgt := 210) F dX7_bestTradesOf_206 (by decide) ?_
          refine r_sub [] rfl ?_
          exact l_X7_bestTradesOf_210 F   (M.1 33 (y1 - (10 : Int32)).toNatClampNeg) M
    · refine r_aload_n F 0 dX7_bestTradesOf_111 rfl rfl ?_
      refine r_iload F 4 dX7_bestTradesOf_112 rfl ?_
      refine r_cV (val := vI) (As := [.int y4]) (rest := []) (fun q9 => .int q9 :: []) F (c_X7_broughtBy F.st F.gg y4 M) (fun _ _ => rfl) dX7_bestTradesOf_114 ml_X7_202 yv_X7_broughtBy (rfl : kd 24 = 7) (by decide) rfl rfl (by decide) rfl (Nat.le_of_ble_eq_true rfl) (fun _ => rfl) (fun r114 M114 => ?_)
      refine r_istore (ls' := [(5, .int r114), (0, .ref (gA G 24)), (1, .int y1), (2, .int y2), (3, .int y3), (4, .int y4)]) F dX7_bestTradesOf_117 (by decide) rfl ?_
      refine r_iconst F dX7_bestTradesOf_119 (v := 0) (by decide) ?_
      refine r_istore (ls' := [(6, .int (0 : Int32)), (5, .int r114), (0, .ref (gA G 24)), (1, .int y1), (2, .int y2), (3, .int y3), (4, .int y4)]) F dX7_bestTradesOf_120 (by decide) rfl ?_
      refine r_sub [2, 3, 4, 5, 6, 1, 0] rfl ?_
      exact l_X7_bestTradesOf_122 F (f_X7_bestTradesOf_105  n) (fun q0 q1 q2 q3 M9 => ih q0 q1 q2 q3 M9) FU y1 y2 y3 y4 r114 (0 : Int32) M114

def f_X7_bestTradesOf_71 : Nat → Int32 → Int32 → Int32 → Mem → Option (Int32 × Mem)
  | 0, _, _, _, _ => none
  | n + 1, y1, y2, y3, M => chk (inb (423 : Int32) 3424) <| if (M.1 25 (423 : Int32).toNatClampNeg) ≤ y3 then (f_X7_bestTradesOf_105  FU y1 y2 (-1 : Int32) (0 : Int32) M) else (chk (inb (423 : Int32) 3424) <| bnd (y2 * (M.1 25 (423 : Int32).toNatClampNeg)) fun x93 => bnd (y3 + (1 : Int32)) fun x94 => f_X7_bestTradesOf_71  n y1 x93 x94 M)

set_option maxRecDepth 100000 in
set_option maxHeartbeats 4000000 in
theorem l_X7_bestTradesOf_71 {G : GM} {p : Program} {l : Launch} {e : Env} {s : State} {m : MethodId} {args : Array Value} {below : List Frame} {meth : Method} {c : Code} (F : Fx G p l s m args meth c cX7_bestTradesOf RX7 7 (some .int)) : ∀ (n : Nat) (y1 : Int32) (y2 : Int32) (y3 : Int32) (M : Mem), Rf G p l e s m args below meth c 8 7 emI (f_X7_bestTradesOf_71  n y1 y2 y3 M) 71 [(0, .ref (gA G 24)), (1, .int y1), (2, .int y2), (3, .int y3)] [] M := by
  intro n
  induction n with
  | zero => intros; exact r_none
  | succ n ih =>
    intro y1 y2 y3 M
    rw [f_X7_bestTradesOf_71]
    refine r_iload_n F 3 dX7_bestTradesOf_71 rfl rfl ?_
    refine r_aload_n F 0 dX7_bestTradesOf_72 rfl rfl ?_
    refine gf_X7_7 F dX7_bestTradesOf_73 (rfl : kd 24 = 7) ?_
    refine r_sipush F dX7_bestTradesOf_76 (v := 423) (by decide) ?_
    refine r_chk (fun h1 => ?_)
    refine r_iald F dX7_bestTradesOf_79 (rfl : kd 25 = 8) (rfl : al 25 = 3424) h1 ?_
    refine r_icmp_ge (tgt := 100) F dX7_bestTradesOf_80 (by decide) (fun c2 => ?_) (fun c2 => ?_)
    · refine r_iconst F dX7_bestTradesOf_100 (v := -1) (by decide) ?_
      refine r_istore_n (ls' := [(3, .int (-1 : Int32)), (0, .ref (gA G 24)), (1, .int y1), (2, .int y2)]) F dX7_bestTradesOf_101 rfl (by decide) rfl ?_
      refine r_iconst F dX7_bestTradesOf_102 (v := 0) (by decide) ?_
      refine r_istore (ls' := [(4, .int (0 : Int32)), (3, .int (-1 : Int32)), (0, .ref (gA G 24)), (1, .int y1), (2, .int y2)]) F dX7_bestTradesOf_103 (by decide) rfl ?_
      refine r_sub [2, 3, 4, 1, 0] rfl ?_
      exact l_X7_bestTradesOf_105 F   FU y1 y2 (-1 : Int32) (0 : Int32) M
    · refine r_iload_n F 2 dX7_bestTradesOf_83 rfl rfl ?_
      refine r_aload_n F 0 dX7_bestTradesOf_84 rfl rfl ?_
      refine gf_X7_7 F dX7_bestTradesOf_85 (rfl : kd 24 = 7) ?_
      refine r_sipush F dX7_bestTradesOf_88 (v := 423) (by decide) ?_
      refine r_chk (fun h3 => ?_)
      refine r_iald F dX7_bestTradesOf_91 (rfl : kd 25 = 8) (rfl : al 25 = 3424) h3 ?_
      refine r_imul F dX7_bestTradesOf_92 ?_
      refine r_bi (fun x93 => ?_)
      refine r_istore_n (ls' := [(2, .int x93), (0, .ref (gA G 24)), (1, .int y1), (3, .int y3)]) F dX7_bestTradesOf_93 rfl (by decide) rfl ?_
      refine r_iinc (ls' := fun q9 => [(3, .int q9), (2, .int x93), (0, .ref (gA G 24)), (1, .int y1)]) (k := 3) (v := y3 + (1 : Int32)) F dX7_bestTradesOf_94 rfl rfl (by decide) (fun _ => rfl) (fun x94 => ?_)
      refine r_goto (tgt := 71) F dX7_bestTradesOf_97 (by decide) ?_
      refine r_sub [2, 3, 1, 0] rfl ?_
      exact ih y1 x93 x94 M

def f_X7_bestTradesOf_4 : Nat → Int32 → Int32 → Int32 → Mem → Option (Int32 × Mem)
  | 0, _, _, _, _ => none
  | n + 1, y1, y2, y3, M => if (36 : Int32) ≤ y3 then (f_X7_bestTradesOf_71  FU y1 y2 (0 : Int32) M) else (chk (inb (423 : Int32) 3424) <| if (M.1 25 (423 : Int32).toNatClampNeg) ≤ (y3 / (6 : Int32)) then (f_X7_bestTradesOf_61 (f_X7_bestTradesOf_4  n) y1 y2 y3 y3 M) else (chk (inb (423 : Int32) 3424) <| if (M.1 25 (423 : Int32).toNatClampNeg) ≤ (y3 - y3 / (6 : Int32) * (6 : Int32)) then (f_X7_bestTradesOf_61 (f_X7_bestTradesOf_4  n) y1 y2 y3 y3 M) else (bn (f_X7_rightOf (y3 - y3 / (6 : Int32) * (6 : Int32)) (y3 / (6 : Int32)) (0 : Int32) M) fun r55 M55 => f_X7_bestTradesOf_62 (f_X7_bestTradesOf_4  n) y1 y2 y3 y3 r55 M55)))

set_option maxRecDepth 100000 in
set_option maxHeartbeats 4000000 in
theorem l_X7_bestTradesOf_4 {G : GM} {p : Program} {l : Launch} {e : Env} {s : State} {m : MethodId} {args : Array Value} {below : List Frame} {meth : Method} {c : Code} (F : Fx G p l s m args meth c cX7_bestTradesOf RX7 7 (some .int)) : ∀ (n : Nat) (y1 : Int32) (y2 : Int32) (y3 : Int32) (M : Mem), Rf G p l e s m args below meth c 8 7 emI (f_X7_bestTradesOf_4  n y1 y2 y3 M) 4 [(0, .ref (gA G 24)), (1, .int y1), (2, .int y2), (3, .int y3)] [] M := by
  intro n
  induction n with
  | zero => intros; exact r_none
  | succ n ih =>
    intro y1 y2 y3 M
    rw [f_X7_bestTradesOf_4]
    refine r_iload_n F 3 dX7_bestTradesOf_4 rfl rfl ?_
    refine r_bipush F dX7_bestTradesOf_5 (v := 36) (by decide) ?_
    refine r_icmp_ge (tgt := 69) F dX7_bestTradesOf_7 (by decide) (fun c1 => ?_) (fun c1 => ?_)
    · refine r_iconst F dX7_bestTradesOf_69 (v := 0) (by decide) ?_
      refine r_istore_n (ls' := [(3, .int (0 : Int32)), (0, .ref (gA G 24)), (1, .int y1), (2, .int y2)]) F dX7_bestTradesOf_70 rfl (by decide) rfl ?_
      refine r_sub [1, 2, 3, 0] rfl ?_
      exact l_X7_bestTradesOf_71 F   FU y1 y2 (0 : Int32) M
    · refine r_aload_n F 0 dX7_bestTradesOf_10 rfl rfl ?_
      refine gf_X7_28 F dX7_bestTradesOf_11 (rfl : kd 24 = 7) ?_
      refine r_iload_n F 3 dX7_bestTradesOf_14 rfl rfl ?_
      refine r_iload_n F 3 dX7_bestTradesOf_15 rfl rfl ?_
      refine r_bipush F dX7_bestTradesOf_16 (v := 6) (by decide) ?_
      refine r_idiv F dX7_bestTradesOf_18 (by decide) ?_
      refine r_aload_n F 0 dX7_bestTradesOf_19 rfl rfl ?_
      refine gf_X7_7 F dX7_bestTradesOf_20 (rfl : kd 24 = 7) ?_
      refine r_sipush F dX7_bestTradesOf_23 (v := 423) (by decide) ?_
      refine r_chk (fun h2 => ?_)
      refine r_iald F dX7_bestTradesOf_26 (rfl : kd 25 = 8) (rfl : al 25 = 3424) h2 ?_
      refine r_icmp_ge (tgt := 61) F dX7_bestTradesOf_27 (by decide) (fun c3 => ?_) (fun c3 => ?_)
      · refine r_sub [0, 1, 2, 3] rfl ?_
        exact l_X7_bestTradesOf_61 F (f_X7_bestTradesOf_4  n) (fun q0 q1 q2 M9 => ih q0 q1 q2 M9) y1 y2 y3 y3 M
      · refine r_iload_n F 3 dX7_bestTradesOf_30 rfl rfl ?_
        refine r_bipush F dX7_bestTradesOf_31 (v := 6) (by decide) ?_
        refine r_irem F dX7_bestTradesOf_33 (by decide) ?_
        refine r_aload_n F 0 dX7_bestTradesOf_34 rfl rfl ?_
        refine gf_X7_7 F dX7_bestTradesOf_35 (rfl : kd 24 = 7) ?_
        refine r_sipush F dX7_bestTradesOf_38 (v := 423) (by decide) ?_
        refine r_chk (fun h4 => ?_)
        refine r_iald F dX7_bestTradesOf_41 (rfl : kd 25 = 8) (rfl : al 25 = 3424) h4 ?_
        refine r_icmp_ge (tgt := 61) F dX7_bestTradesOf_42 (by decide) (fun c5 => ?_) (fun c5 => ?_)
        · refine r_sub [0, 1, 2, 3] rfl ?_
          exact l_X7_bestTradesOf_61 F (f_X7_bestTradesOf_4  n) (fun q0 q1 q2 M9 => ih q0 q1 q2 M9) y1 y2 y3 y3 M
        · refine r_aload_n F 0 dX7_bestTradesOf_45 rfl rfl ?_
          refine r_iload_n F 3 dX7_bestTradesOf_46 rfl rfl ?_
          refine r_bipush F dX7_bestTradesOf_47 (v := 6) (by decide) ?_
          refine r_irem F dX7_bestTradesOf_49 (by decide) ?_
          refine r_iload_n F 3 dX7_bestTradesOf_50 rfl rfl ?_
          refine r_bipush F dX7_bestTradesOf_51 (v := 6) (by decide) ?_
          refine r_idiv F dX7_bestTradesOf_53 (by decide) ?_
          refine r_iconst F dX7_bestTradesOf_54 (v := 0) (by decide) ?_
          refine r_cV (val := vI) (As := [.int (y3 - y3 / (6 : Int32) * (6 : Int32)), .int (y3 / (6 : Int32)), .int (0 : Int32)]) (rest := [.int y3, .ref (gA G 31)]) (fun q9 => .int q9 :: [.int y3, .ref (gA G 31)]) F (c_X7_rightOf F.st F.gg (y3 - y3 / (6 : Int32) * (6 : Int32)) (y3 / (6 : Int32)) (0 : Int32) M) (fun _ _ => rfl) dX7_bestTradesOf_55 ml_X7_78 yv_X7_rightOf (rfl : kd 24 = 7) (by decide) rfl rfl (by decide) rfl (Nat.le_of_ble_eq_true rfl) (fun _ => rfl) (fun r55 M55 => ?_)
          refine r_goto (tgt := 62) F dX7_bestTradesOf_58 (by decide) ?_
          refine r_sub [0, 1, 2, 3] rfl ?_
          exact l_X7_bestTradesOf_62 F (f_X7_bestTradesOf_4  n) (fun q0 q1 q2 M9 => ih q0 q1 q2 M9) y1 y2 y3 y3 r55 M55

def f_X7_bestTradesOf (a1 : Int32) (M : Mem) : Option (Int32 × Mem) := f_X7_bestTradesOf_4  FU a1 (1 : Int32) (0 : Int32) M

set_option maxRecDepth 100000 in
set_option maxHeartbeats 4000000 in
theorem b_X7_bestTradesOf {G : GM} {p : Program} {l : Launch} {e : Env} {s : State} {m : MethodId} {args : Array Value} {below : List Frame} {meth : Method} {c : Code} (F : Fx G p l s m args meth c cX7_bestTradesOf RX7 7 (some .int)) (a1 : Int32) (M : Mem) : Rf G p l e s m args below meth c 8 7 emI (f_X7_bestTradesOf a1 M) 0 [(0, .ref (gA G 24)), (1, .int a1)] [] M := by
  unfold f_X7_bestTradesOf
  refine r_iconst F dX7_bestTradesOf_0 (v := 1) (by decide) ?_
  refine r_istore_n (ls' := [(2, .int (1 : Int32)), (0, .ref (gA G 24)), (1, .int a1)]) F dX7_bestTradesOf_1 rfl (by decide) rfl ?_
  refine r_iconst F dX7_bestTradesOf_2 (v := 0) (by decide) ?_
  refine r_istore_n (ls' := [(3, .int (0 : Int32)), (2, .int (1 : Int32)), (0, .ref (gA G 24)), (1, .int a1)]) F dX7_bestTradesOf_3 rfl (by decide) rfl ?_
  refine r_sub [2, 3, 1, 0] rfl ?_
  exact l_X7_bestTradesOf_4 F   FU a1 (1 : Int32) (0 : Int32) M

set_option maxRecDepth 100000 in
set_option maxHeartbeats 4000000 in
theorem c_X7_bestTradesOf {l : Launch} {G : GM} (hl : l.stackTraces = false) (hG : GG G) (a1 : Int32) (M : Mem) : ∀ r, f_X7_bestTradesOf a1 M = some r → Ctr l G yX7_bestTradesOf (.code yX7_bestTradesOf cX7_bestTradesOf 7 (some .int) :: wsA) 8 [.ref (gA G 24), .int a1] M (emI r) :=
  ctr_of (by decide) hl hG (Nat.le_of_ble_eq_true rfl) (fun p e s m args below meth c F => b_X7_bestTradesOf F a1 M)

