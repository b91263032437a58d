-- ===== X7_goTo DrumTownsModel.goTo(IIII)V =====
theorem yv_X7_goTo : yV yX7_goTo cX7_goTo 7 none 4 := ⟨im_X7_goTo, sl_X7_goTo, ini_X7, cd_X7_goTo, ⟨by decide, by decide, by decide +kernel⟩, by decide⟩

def f_X7_goTo_208  (M : Mem) : Option (Unit × Mem) := some ((), M)

set_option maxRecDepth 100000 in
set_option maxHeartbeats 4000000 in
theorem l_X7_goTo_208 {G : GM} {p : Program} {l : Launch} {e : Env} {s : State} {m : MethodId} {args : Array Value} {below : List Frame} {meth : Method} {c : Code} (F : Fx G p l s m args meth c cX7_goTo RX7 7 none)  (M : Mem) : Rf G p l e s m args below meth c 7 7 emV (f_X7_goTo_208   M) 208 [] [] M := by
  unfold f_X7_goTo_208
  exact r_vret F rfl dX7_goTo_208 rfl

def f_X7_goTo_82 (y1 : Int32) (y2 : Int32) (y3 : Int32) (y4 : Int32) (z1 : Int32) (z2 : Int32) (M : Mem) : Option (Unit × Mem) := bnd (mw M 24 11 (z1 + z2)) fun M83 => bn (f_X7_at (6 : Int32) y2 y3 M83) fun r95 M95 => chk (inb (y1 + r95) 3424) <| chk (inb (y1 + r95) 3424) <| bnd (mw M95 25 (y1 + r95).toNatClampNeg ((M95.1 25 (y1 + r95).toNatClampNeg) &&& (((1 : Int32) <<< (y4 &&& 31)) ^^^ (-1 : Int32)))) fun M108 => f_X7_goTo_208   M108

set_option maxRecDepth 100000 in
set_option maxHeartbeats 4000000 in
theorem l_X7_goTo_82 {G : GM} {p : Program} {l : Launch} {e : Env} {s : State} {m : MethodId} {args : Array Value} {below : List Frame} {meth : Method} {c : Code} (F : Fx G p l s m args meth c cX7_goTo RX7 7 none) (y1 : Int32) (y2 : Int32) (y3 : Int32) (y4 : Int32) (z1 : Int32) (z2 : Int32) (M : Mem) : Rf G p l e s m args below meth c 7 7 emV (f_X7_goTo_82  y1 y2 y3 y4 z1 z2 M) 82 [(0, .ref (gA G 24)), (1, .int y1), (2, .int y2), (3, .int y3), (4, .int y4)] [.int z2, .int z1, .ref (gA G 24)] M := by
  unfold f_X7_goTo_82
  refine r_iadd F dX7_goTo_82 ?_
  refine pf_X7_84 F dX7_goTo_83 (rfl : kd 24 = 7) (fun M83 => ?_)
  refine r_aload_n F 0 dX7_goTo_86 rfl rfl ?_
  refine gf_X7_7 F dX7_goTo_87 (rfl : kd 24 = 7) ?_
  refine r_iload_n F 1 dX7_goTo_90 rfl rfl ?_
  refine r_bipush F dX7_goTo_91 (v := 6) (by decide) ?_
  refine r_iload_n F 2 dX7_goTo_93 rfl rfl ?_
  refine r_iload_n F 3 dX7_goTo_94 rfl rfl ?_
  refine r_cS (val := vI) (As := [.int (6 : Int32), .int y2, .int y3]) (rest := [.int y1, .ref (gA G 25)]) (fun q9 => .int q9 :: [.int y1, .ref (gA G 25)]) F (c_X7_at F.st F.gg (6 : Int32) y2 y3 M83) (fun _ _ => rfl) dX7_goTo_95 ml_X7_56 ys_X7_at rfl (by decide) rfl (Nat.le_of_ble_eq_true rfl) (fun _ => rfl) (fun r95 M95 => ?_)
  refine r_iadd F dX7_goTo_98 ?_
  refine r_dup2 F dX7_goTo_99 rfl rfl ?_
  refine r_chk (fun h1 => ?_)
  refine r_iald F dX7_goTo_100 (rfl : kd 25 = 8) (rfl : al 25 = 3424) h1 ?_
  refine r_iconst F dX7_goTo_101 (v := 1) (by decide) ?_
  refine r_iload F 4 dX7_goTo_102 rfl ?_
  refine r_ishl F dX7_goTo_104 ?_
  refine r_iconst F dX7_goTo_105 (v := -1) (by decide) ?_
  refine r_ixor F dX7_goTo_106 ?_
  refine r_iand F dX7_goTo_107 ?_
  refine r_chk (fun h2 => ?_)
  refine r_iast F dX7_goTo_108 (rfl : kd 25 = 8) (rfl : al 25 = 3424) h2 (fun M108 => ?_)
  refine r_goto (tgt := 208) F dX7_goTo_109 (by decide) ?_
  refine r_sub [] rfl ?_
  exact l_X7_goTo_208 F    M108

def f_X7_goTo_172 (y3 : Int32) (y4 : Int32) (y6 : Int32) (z1 : Int32) (z2 : Int32) (M : Mem) : Option (Unit × Mem) := bnd (mw M 24 8 (z1 + z2)) fun M173 => chk (inb y3 24) <| chk (inb y3 24) <| bnd (mw M173 28 y3.toNatClampNeg ((M173.1 28 y3.toNatClampNeg) ||| ((1 : Int32) <<< (y4 &&& 31)))) fun M188 => chk (inb y4 12) <| bnd (mw M188 27 y4.toNatClampNeg y3) fun M196 => chk (inb y6 3424) <| chk (inb y6 3424) <| bnd (mw M196 25 y6.toNatClampNeg ((M196.1 25 y6.toNatClampNeg) + (1 : Int32))) fun M207 => f_X7_goTo_208   M207

set_option maxRecDepth 100000 in
set_option maxHeartbeats 4000000 in
theorem l_X7_goTo_172 {G : GM} {p : Program} {l : Launch} {e : Env} {s : State} {m : MethodId} {args : Array Value} {below : List Frame} {meth : Method} {c : Code} (F : Fx G p l s m args meth c cX7_goTo RX7 7 none) (y3 : Int32) (y4 : Int32) (y6 : Int32) (z1 : Int32) (z2 : Int32) (M : Mem) : Rf G p l e s m args below meth c 7 7 emV (f_X7_goTo_172  y3 y4 y6 z1 z2 M) 172 [(0, .ref (gA G 24)), (3, .int y3), (4, .int y4), (6, .int y6)] [.int z2, .int z1, .ref (gA G 24)] M := by
  unfold f_X7_goTo_172
  refine r_iadd F dX7_goTo_172 ?_
  refine pf_X7_93 F dX7_goTo_173 (rfl : kd 24 = 7) (fun M173 => ?_)
  refine r_aload_n F 0 dX7_goTo_176 rfl rfl ?_
  refine gf_X7_19 F dX7_goTo_177 (rfl : kd 24 = 7) ?_
  refine r_iload_n F 1 dX7_goTo_180 rfl rfl ?_
  refine r_dup2 F dX7_goTo_181 rfl rfl ?_
  refine r_chk (fun h1 => ?_)
  refine r_iald F dX7_goTo_182 (rfl : kd 28 = 8) (rfl : al 28 = 24) h1 ?_
  refine r_iconst F dX7_goTo_183 (v := 1) (by decide) ?_
  refine r_iload F 2 dX7_goTo_184 rfl ?_
  refine r_ishl F dX7_goTo_186 ?_
  refine r_ior F dX7_goTo_187 ?_
  refine r_chk (fun h2 => ?_)
  refine r_iast F dX7_goTo_188 (rfl : kd 28 = 8) (rfl : al 28 = 24) h2 (fun M188 => ?_)
  refine r_aload_n F 0 dX7_goTo_189 rfl rfl ?_
  refine gf_X7_16 F dX7_goTo_190 (rfl : kd 24 = 7) ?_
  refine r_iload F 2 dX7_goTo_193 rfl ?_
  refine r_iload_n F 1 dX7_goTo_195 rfl rfl ?_
  refine r_chk (fun h3 => ?_)
  refine r_iast F dX7_goTo_196 (rfl : kd 27 = 8) (rfl : al 27 = 12) h3 (fun M196 => ?_)
  refine r_aload_n F 0 dX7_goTo_197 rfl rfl ?_
  refine gf_X7_7 F dX7_goTo_198 (rfl : kd 24 = 7) ?_
  refine r_iload F 3 dX7_goTo_201 rfl ?_
  refine r_dup2 F dX7_goTo_203 rfl rfl ?_
  refine r_chk (fun h4 => ?_)
  refine r_iald F dX7_goTo_204 (rfl : kd 25 = 8) (rfl : al 25 = 3424) h4 ?_
  refine r_iconst F dX7_goTo_205 (v := 1) (by decide) ?_
  refine r_iadd F dX7_goTo_206 ?_
  refine r_chk (fun h5 => ?_)
  refine r_iast F dX7_goTo_207 (rfl : kd 25 = 8) (rfl : al 25 = 3424) h5 (fun M207 => ?_)
  refine r_sub [] rfl ?_
  exact l_X7_goTo_208 F    M207

def f_X7_goTo (a1 : Int32) (a2 : Int32) (a3 : Int32) (a4 : Int32) (M : Mem) : Option (Unit × Mem) := bn (f_X7_at (150 : Int32) a2 a3 M) fun r10 M10 => chk (inb (a1 + r10) 3424) <| bn (f_X7_has (M10.1 25 (a1 + r10).toNatClampNeg) a4 M10) fun r17 M17 => bnd (((a1 + (294 : Int32)) + ((12 : Int32) * a2)) + a4) fun x35 => chk (inb x35 3424) <| chk (inb (a1 + (421 : Int32)) 3424) <| if (M17.1 25 x35.toNatClampNeg) < (M17.1 25 (a1 + (421 : Int32)).toNatClampNeg) then (chk (inb a4 12) <| chk (inb (a1 + (420 : Int32)) 3424) <| if (M17.1 25 (a1 + (420 : Int32)).toNatClampNeg) ≤ (a3 - (M17.1 27 a4.toNatClampNeg)) then (bnd (mw M17 24 7 ((M17.1 24 7) + (1 : Int32))) fun M154 => if r17 = 0 then (f_X7_goTo_172  a3 a4 x35 (M154.1 24 8) (0 : Int32) M154) else (f_X7_goTo_172  a3 a4 x35 (M154.1 24 8) (1 : Int32) M154)) else (bnd (mw M17 24 9 ((M17.1 24 9) + (1 : Int32))) fun M141 => f_X7_goTo_208   M141)) else (bnd (mw M17 24 10 ((M17.1 24 10) + (1 : Int32))) fun M64 => if r17 = 0 then (f_X7_goTo_82  a1 a2 a3 a4 (M64.1 24 11) (0 : Int32) M64) else (f_X7_goTo_82  a1 a2 a3 a4 (M64.1 24 11) (1 : Int32) M64))

set_option maxRecDepth 100000 in
set_option maxHeartbeats 4000000 in
theorem b_X7_goTo {G : GM} {p : Program} {l : Launch} {e : Env} {s : State} {m : MethodId} {args : Array Value} {below : List Frame} {meth : Method} {c : Code} (F : Fx G p l s m args meth c cX7_goTo RX7 7 none) (a1 : Int32) (a2 : Int32) (a3 : Int32) (a4 : Int32) (M : Mem) : Rf G p l e s m args below meth c 7 7 emV (f_X7_goTo a1 a2 a3 a4 M) 0 [(0, .ref (gA G 24)), (1, .int a1), (2, .int a2), (3, .int a3), (4, .int a4)] [] M := by
  unfold f_X7_goTo
  refine r_aload_n F 0 dX7_goTo_0 rfl rfl ?_
  refine gf_X7_7 F dX7_goTo_1 (rfl : kd 24 = 7) ?_
  refine r_iload_n F 1 dX7_goTo_4 rfl rfl ?_
  refine r_sipush F dX7_goTo_5 (v := 150) (by decide) ?_
  refine r_iload_n F 2 dX7_goTo_8 rfl rfl ?_
  refine r_iload_n F 3 dX7_goTo_9 rfl rfl ?_
  refine r_cS (val := vI) (As := [.int (150 : Int32), .int a2, .int a3]) (rest := [.int a1, .ref (gA G 25)]) (fun q9 => .int q9 :: [.int a1, .ref (gA G 25)]) F (c_X7_at F.st F.gg (150 : Int32) a2 a3 M) (fun _ _ => rfl) dX7_goTo_10 ml_X7_56 ys_X7_at rfl (by decide) rfl (Nat.le_of_ble_eq_true rfl) (fun _ => rfl) (fun r10 M10 => ?_)
  refine r_iadd F dX7_goTo_13 ?_
  refine r_chk (fun h1 => ?_)
  refine r_iald F dX7_goTo_14 (rfl : kd 25 = 8) (rfl : al 25 = 3424) h1 ?_
  refine r_iload F 4 dX7_goTo_15 rfl ?_
  refine r_cS (val := vI) (As := [.int (M10.1 25 (a1 + r10).toNatClampNeg), .int a4]) (rest := []) (fun q9 => .int q9 :: []) F (c_X7_has F.st F.gg (M10.1 25 (a1 + r10).toNatClampNeg) a4 M10) (fun _ _ => rfl) dX7_goTo_17 ml_X7_70 ys_X7_has rfl (by decide) rfl (Nat.le_of_ble_eq_true rfl) (fun _ => rfl) (fun r17 M17 => ?_)
  refine r_istore (ls' := [(5, .int r17), (0, .ref (gA G 24)), (1, .int a1), (2, .int a2), (3, .int a3), (4, .int a4)]) F dX7_goTo_20 (by decide) rfl ?_
  refine r_iload_n F 2 dX7_goTo_22 rfl rfl ?_
  refine r_sipush F dX7_goTo_23 (v := 294) (by decide) ?_
  refine r_iadd F dX7_goTo_26 ?_
  refine r_bipush F dX7_goTo_27 (v := 12) (by decide) ?_
  refine r_iload_n F 3 dX7_goTo_29 rfl rfl ?_
  refine r_imul F dX7_goTo_30 ?_
  refine r_iadd F dX7_goTo_31 ?_
  refine r_iload F 5 dX7_goTo_32 rfl ?_
  refine r_iadd F dX7_goTo_34 ?_
  refine r_bi (fun x35 => ?_)
  refine r_istore (ls' := [(6, .int x35), (5, .int r17), (0, .ref (gA G 24)), (1, .int a1), (2, .int a2), (3, .int a3), (4, .int a4)]) F dX7_goTo_35 (by decide) rfl ?_
  refine r_aload_n F 2 dX7_goTo_37 rfl rfl ?_
  refine gf_X7_7 F dX7_goTo_38 (rfl : kd 24 = 7) ?_
  refine r_iload F 0 dX7_goTo_41 rfl ?_
  refine r_chk (fun h2 => ?_)
  refine r_iald F dX7_goTo_43 (rfl : kd 25 = 8) (rfl : al 25 = 3424) h2 ?_
  refine r_aload_n F 2 dX7_goTo_44 rfl rfl ?_
  refine gf_X7_7 F dX7_goTo_45 (rfl : kd 24 = 7) ?_
  refine r_iload_n F 3 dX7_goTo_48 rfl rfl ?_
  refine r_sipush F dX7_goTo_49 (v := 421) (by decide) ?_
  refine r_iadd F dX7_goTo_52 ?_
  refine r_chk (fun h3 => ?_)
  refine r_iald F dX7_goTo_53 (rfl : kd 25 = 8) (rfl : al 25 = 3424) h3 ?_
  refine r_icmp_lt (tgt := 112) F dX7_goTo_54 (by decide) (fun c4 => ?_) (fun c4 => ?_)
  · refine r_iload_n F 5 dX7_goTo_112 rfl rfl ?_
    refine r_aload_n F 2 dX7_goTo_113 rfl rfl ?_
    refine gf_X7_16 F dX7_goTo_114 (rfl : kd 24 = 7) ?_
    refine r_iload F 6 dX7_goTo_117 rfl ?_
    refine r_chk (fun h5 => ?_)
    refine r_iald F dX7_goTo_119 (rfl : kd 27 = 8) (rfl : al 27 = 12) h5 ?_
    refine r_isub F dX7_goTo_120 ?_
    refine r_aload_n F 2 dX7_goTo_121 rfl rfl ?_
    refine gf_X7_7 F dX7_goTo_122 (rfl : kd 24 = 7) ?_
    refine r_iload_n F 3 dX7_goTo_125 rfl rfl ?_
    refine r_sipush F dX7_goTo_126 (v := 420) (by decide) ?_
    refine r_iadd F dX7_goTo_129 ?_
    refine r_chk (fun h6 => ?_)
    refine r_iald F dX7_goTo_130 (rfl : kd 25 = 8) (rfl : al 25 = 3424) h6 ?_
    refine r_icmp_ge (tgt := 147) F dX7_goTo_131 (by decide) (fun c7 => ?_) (fun c7 => ?_)
    · refine r_aload_n F 2 dX7_goTo_147 rfl rfl ?_
      refine r_dup F dX7_goTo_148 rfl ?_
      refine gf_X7_90 F dX7_goTo_149 (rfl : kd 24 = 7) ?_
      refine r_iconst F dX7_goTo_152 (v := 1) (by decide) ?_
      refine r_iadd F dX7_goTo_153 ?_
      refine pf_X7_90 F dX7_goTo_154 (rfl : kd 24 = 7) (fun M154 => ?_)
      refine r_aload_n F 2 dX7_goTo_157 rfl rfl ?_
      refine r_dup F dX7_goTo_158 rfl ?_
      refine gf_X7_93 F dX7_goTo_159 (rfl : kd 24 = 7) ?_
      refine r_iload F 1 dX7_goTo_162 rfl ?_
      refine r_if_eq (tgt := 171) F dX7_goTo_164 (by decide) (fun c8 => ?_) (fun c8 => ?_)
      · refine r_iconst F dX7_goTo_171 (v := 0) (by decide) ?_
        refine r_sub [2, 5, 6, 0] rfl ?_
        exact l_X7_goTo_172 F   a3 a4 x35 (M154.1 24 8) (0 : Int32) M154
      · refine r_iconst F dX7_goTo_167 (v := 1) (by decide) ?_
        refine r_goto (tgt := 172) F dX7_goTo_168 (by decide) ?_
        refine r_sub [2, 5, 6, 0] rfl ?_
        exact l_X7_goTo_172 F   a3 a4 x35 (M154.1 24 8) (1 : Int32) M154
    · refine r_aload_n F 2 dX7_goTo_134 rfl rfl ?_
      refine r_dup F dX7_goTo_135 rfl ?_
      refine gf_X7_87 F dX7_goTo_136 (rfl : kd 24 = 7) ?_
      refine r_iconst F dX7_goTo_139 (v := 1) (by decide) ?_
      refine r_iadd F dX7_goTo_140 ?_
      refine pf_X7_87 F dX7_goTo_141 (rfl : kd 24 = 7) (fun M141 => ?_)
      refine r_goto (tgt := 208) F dX7_goTo_144 (by decide) ?_
      refine r_sub [] rfl ?_
      exact l_X7_goTo_208 F    M141
  · refine r_aload_n F 2 dX7_goTo_57 rfl rfl ?_
    refine r_dup F dX7_goTo_58 rfl ?_
    refine gf_X7_81 F dX7_goTo_59 (rfl : kd 24 = 7) ?_
    refine r_iconst F dX7_goTo_62 (v := 1) (by decide) ?_
    refine r_iadd F dX7_goTo_63 ?_
    refine pf_X7_81 F dX7_goTo_64 (rfl : kd 24 = 7) (fun M64 => ?_)
    refine r_aload_n F 2 dX7_goTo_67 rfl rfl ?_
    refine r_dup F dX7_goTo_68 rfl ?_
    refine gf_X7_84 F dX7_goTo_69 (rfl : kd 24 = 7) ?_
    refine r_iload F 1 dX7_goTo_72 rfl ?_
    refine r_if_eq (tgt := 81) F dX7_goTo_74 (by decide) (fun c9 => ?_) (fun c9 => ?_)
    · refine r_iconst F dX7_goTo_81 (v := 0) (by decide) ?_
      refine r_sub [2, 3, 4, 5, 6] rfl ?_
      exact l_X7_goTo_82 F   a1 a2 a3 a4 (M64.1 24 11) (0 : Int32) M64
    · refine r_iconst F dX7_goTo_77 (v := 1) (by decide) ?_
      refine r_goto (tgt := 82) F dX7_goTo_78 (by decide) ?_
      refine r_sub [2, 3, 4, 5, 6] rfl ?_
      exact l_X7_goTo_82 F   a1 a2 a3 a4 (M64.1 24 11) (1 : Int32) M64

set_option maxRecDepth 100000 in
set_option maxHeartbeats 4000000 in
theorem c_X7_goTo {l : Launch} {G : GM} (hl : l.stackTraces = false) (hG : GG G) (a1 : Int32) (a2 : Int32) (a3 : Int32) (a4 : Int32) (M : Mem) : ∀ r, f_X7_goTo a1 a2 a3 a4 M = some r → Ctr l G yX7_goTo (.code yX7_goTo cX7_goTo 7 none :: wsA) 7 [.ref (gA G 24), .int a1, .int a2, .int a3, .int a4] M (emV r) :=
  ctr_of (by decide) hl hG (Nat.le_of_ble_eq_true rfl) (fun p e s m args below meth c F => b_X7_goTo F a1 a2 a3 a4 M)

-- ===== X7_playIn DrumTownsModel.playIn(II)V =====
theorem yv_X7_playIn : yV yX7_playIn cX7_playIn 6 none 2 := ⟨im_X7_playIn, sl_X7_playIn, ini_X7, cd_X7_playIn, ⟨by decide, by decide, by decide +kernel⟩, by decide⟩

def f_X7_playIn_107 (k49 : Int32 → Int32 → Int32 → Mem → Option (Unit × Mem)) (k81 : Int32 → Int32 → Int32 → Int32 → Int32 → Mem → Option (Unit × Mem)) (y1 : Int32) (y2 : Int32) (y3 : Int32) (y4 : Int32) (y5 : Int32) (M : Mem) : Option (Unit × Mem) := bnd (y5 + (1 : Int32)) fun x107 => k81 y1 y2 y3 y4 x107 M

set_option maxRecDepth 100000 in
set_option maxHeartbeats 4000000 in
theorem l_X7_playIn_107 {G : GM} {p : Program} {l : Launch} {e : Env} {s : State} {m : MethodId} {args : Array Value} {below : List Frame} {meth : Method} {c : Code} (F : Fx G p l s m args meth c cX7_playIn RX7 6 none) (k49 : Int32 → Int32 → Int32 → Mem → Option (Unit × Mem)) (k81 : Int32 → Int32 → Int32 → Int32 → Int32 → Mem → Option (Unit × Mem)) (H49 : ∀ (y1 : Int32) (y2 : Int32) (y3 : Int32) (M : Mem), Rf G p l e s m args below meth c 8 6 emV (k49 y1 y2 y3 M) 49 [(0, .ref (gA G 24)), (1, .int y1), (2, .int y2), (3, .int y3)] [] M) (H81 : ∀ (y1 : Int32) (y2 : Int32) (y3 : Int32) (y4 : Int32) (y5 : Int32) (M : Mem), Rf G p l e s m args below meth c 8 6 emV (k81 y1 y2 y3 y4 y5 M) 81 [(0, .ref (gA G 24)), (1, .int y1), (2, .int y2), (3, .int y3), (4, .int y4), (5, .int y5)] [] M) (y1 : Int32) (y2 : Int32) (y3 : Int32) (y4 : Int32) (y5 : Int32) (M : Mem) : Rf G p l e s m args below meth c 8 6 emV (f_X7_playIn_107 k49 k81 y1 y2 y3 y4 y5 M) 107 [(0, .ref (gA G 24)), (1, .int y1), (2, .int y2), (3, .int y3), (4, .int y4), (5, .int y5)] [] M := by
  unfold f_X7_playIn_107
  refine r_iinc (ls' := fun q9 => [(5, .int q9), (0, .ref (gA G 24)), (1, .int y1), (2, .int y2), (3, .int y3), (4, .int y4)]) (k := 5) (v := y5 + (1 : Int32)) F dX7_playIn_107 rfl rfl (by decide) (fun _ => rfl) (fun x107 => ?_)
  refine r_goto (tgt := 81) F dX7_playIn_110 (by decide) ?_
  refine r_sub [1, 2, 3, 4, 5, 0] rfl ?_
  exact H81 y1 y2 y3 y4 x107 M

def f_X7_playIn_81 (k49 : Int32 → Int32 → Int32 → Mem → Option (Unit × Mem)) : Nat → Int32 → Int32 → Int32 → Int32 → Int32 → Mem → Option (Unit × Mem)
  | 0, _, _, _, _, _, _ => none
  | n + 1, y1, y2, y3, y4, y5, M => if (12 : Int32) ≤ y5 then (bnd (y3 + (1 : Int32)) fun x113 => k49 y1 y2 x113 M) else (bn (f_X7_has y4 y5 M) fun r92 M92 => if r92 = 0 then (f_X7_playIn_107 k49 (f_X7_playIn_81 k49 n) y1 y2 y3 y4 y5 M92) else (bn (f_X7_goTo y1 y2 y3 y5 M92) fun _ M104 => f_X7_playIn_107 k49 (f_X7_playIn_81 k49 n) y1 y2 y3 y4 y5 M104))

set_option maxRecDepth 100000 in
set_option maxHeartbeats 4000000 in
theorem l_X7_playIn_81 {G : GM} {p : Program} {l : Launch} {e : Env} {s : State} {m : MethodId} {args : Array Value} {below : List Frame} {meth : Method} {c : Code} (F : Fx G p l s m args meth c cX7_playIn RX7 6 none) (k49 : Int32 → Int32 → Int32 → Mem → Option (Unit × Mem)) (H49 : ∀ (y1 : Int32) (y2 : Int32) (y3 : Int32) (M : Mem), Rf G p l e s m args below meth c 8 6 emV (k49 y1 y2 y3 M) 49 [(0, .ref (gA G 24)), (1, .int y1), (2, .int y2), (3, .int y3)] [] M) : ∀ (n : Nat) (y1 : Int32) (y2 : Int32) (y3 : Int32) (y4 : Int32) (y5 : Int32) (M : Mem), Rf G p l e s m args below meth c 8 6 emV (f_X7_playIn_81 k49 n y1 y2 y3 y4 y5 M) 81 [(0, .ref (gA G 24)), (1, .int y1), (2, .int y2), (3, .int y3), (4, .int y4), (5, .int y5)] [] M := by
  intro n
  induction n with
  | zero => intros; exact r_none
  | succ n ih =>
    intro y1 y2 y3 y4 y5 M
    rw [f_X7_playIn_81]
    refine r_iload F 5 dX7_playIn_81 rfl ?_
    refine r_bipush F dX7_playIn_83 (v := 12) (by decide) ?_
    refine r_icmp_ge (tgt := 113) F dX7_playIn_85 (by decide) (fun c1 => ?_) (fun c1 => ?_)
    · refine r_iinc (ls' := fun q9 => [(3, .int q9), (0, .ref (gA G 24)), (1, .int y1), (2, .int y2), (4, .int y4), (5, .int y5)]) (k := 3) (v := y3 + (1 : Int32)) F dX7_playIn_113 rfl rfl (by decide) (fun _ => rfl) (fun x113 => ?_)
      refine r_goto (tgt := 49) F dX7_playIn_116 (by decide) ?_
      refine r_sub [1, 2, 3, 0] rfl ?_
      exact H49 y1 y2 x113 M
    · refine r_iload F 4 dX7_playIn_88 rfl ?_
      refine r_iload F 5 dX7_playIn_90 rfl ?_
      refine r_cS (val := vI) (As := [.int y4, .int y5]) (rest := []) (fun q9 => .int q9 :: []) F (c_X7_has F.st F.gg y4 y5 M) (fun _ _ => rfl) dX7_playIn_92 ml_X7_70 ys_X7_has rfl (by decide) rfl (Nat.le_of_ble_eq_true rfl) (fun _ => rfl) (fun r92 M92 => ?_)
      refine r_if_eq (tgt := 107) F dX7_playIn_95 (by decide) (fun c2 => ?_) (fun c2 => ?_)
      · refine r_sub [0, 1, 2, 3, 4, 5] rfl ?_
        exact l_X7_playIn_107 F k49 (f_X7_playIn_81 k49 n) H49 (fun q0 q1 q2 q3 q4 M9 => ih q0 q1 q2 q3 q4 M9) y1 y2 y3 y4 y5 M92
      · refine r_aload_n F 0 dX7_playIn_98 rfl rfl ?_
        refine r_iload_n F 1 dX7_playIn_99 rfl rfl ?_
        refine r_iload_n F 2 dX7_playIn_100 rfl rfl ?_
        refine r_iload_n F 3 dX7_playIn_101 rfl rfl ?_
        refine r_iload F 5 dX7_playIn_102 rfl ?_
        refine r_cV (val := vU) (As := [.int y1, .int y2, .int y3, .int y5]) (rest := []) (fun _ => []) F (c_X7_goTo F.st F.gg y1 y2 y3 y5 M92) (fun _ _ => rfl) dX7_playIn_104 ml_X7_96 yv_X7_goTo (rfl : kd 24 = 7) (by decide) rfl rfl (by decide) rfl (Nat.le_of_ble_eq_true rfl) (fun _ => rfl) (fun _ M104 => ?_)
        refine r_sub [0, 1, 2, 3, 4, 5] rfl ?_
        exact l_X7_playIn_107 F k49 (f_X7_playIn_81 k49 n) H49 (fun q0 q1 q2 q3 q4 M9 => ih q0 q1 q2 q3 q4 M9) y1 y2 y3 y4 y5 M104

def f_X7_playIn_49 : Nat → Int32 → Int32 → Int32 → Mem → Option (Unit × Mem)
  | 0, _, _, _, _ => none
  | n + 1, y1, y2, y3, M => if (24 : Int32) ≤ y3 then (some ((), M)) else (bn (f_X7_at (6 : Int32) y2 y3 M) fun r64 M64 => chk (inb (y1 + r64) 3424) <| bnd (M64.1 25 (y1 + r64).toNatClampNeg) fun x69 => chk (inb y3 24) <| bnd (mw M64 28 y3.toNatClampNeg (0 : Int32)) fun M77 => f_X7_playIn_81 (f_X7_playIn_49  n) FU y1 y2 y3 x69 (0 : Int32) M77)

set_option maxRecDepth 100000 in
set_option maxHeartbeats 4000000 in
theorem l_X7_playIn_49 {G : GM} {p : Program} {l : Launch} {e : Env} {s : State} {m : MethodId} {args : Array Value} {below : List Frame} {meth : Method} {c : Code} (F : Fx G p l s m args meth c cX7_playIn RX7 6 none) : ∀ (n : Nat) (y1 : Int32) (y2 : Int32) (y3 : Int32) (M : Mem), Rf G p l e s m args below meth c 8 6 emV (f_X7_playIn_49  n y1 y2 y3 M) 49 [(0, .ref (gA G 24)), (1, .int y1), (2, .int y2), (3, .int y3)] [] M := by
  intro n
  induction n with
  | zero => intros; exact r_none
  | succ n ih =>
    intro y1 y2 y3 M
    rw [f_X7_playIn_49]
    refine r_iload_n F 3 dX7_playIn_49 rfl rfl ?_
    refine r_bipush F dX7_playIn_50 (v := 24) (by decide) ?_
    refine r_icmp_ge (tgt := 119) F dX7_playIn_52 (by decide) (fun c1 => ?_) (fun c1 => ?_)
    · exact r_vret F rfl dX7_playIn_119 rfl
    · refine r_aload_n F 0 dX7_playIn_55 rfl rfl ?_
      refine gf_X7_7 F dX7_playIn_56 (rfl : kd 24 = 7) ?_
      refine r_iload_n F 1 dX7_playIn_59 rfl rfl ?_
      refine r_bipush F dX7_playIn_60 (v := 6) (by decide) ?_
      refine r_iload_n F 2 dX7_playIn_62 rfl rfl ?_
      refine r_iload_n F 3 dX7_playIn_63 rfl rfl ?_
      refine r_cS (val := vI) (As := [.int (6 : Int32), .int y2, .int y3]) (rest := [.int y1, .ref (gA G 25)]) (fun q9 => .int q9 :: [.int y1, .ref (gA G 25)]) F (c_X7_at F.st F.gg (6 : Int32) y2 y3 M) (fun _ _ => rfl) dX7_playIn_64 ml_X7_56 ys_X7_at rfl (by decide) rfl (Nat.le_of_ble_eq_true rfl) (fun _ => rfl) (fun r64 M64 => ?_)
      refine r_iadd F dX7_playIn_67 ?_
      refine r_chk (fun h2 => ?_)
      refine r_iald F dX7_playIn_68 (rfl : kd 25 = 8) (rfl : al 25 = 3424) h2 ?_
      refine r_bi (fun x69 => ?_)
      refine r_istore (ls' := [(4, .int x69), (0, .ref (gA G 24)), (1, .int y1), (2, .int y2), (3, .int y3)]) F dX7_playIn_69 (by decide) rfl ?_
      refine r_aload_n F 1 dX7_playIn_71 rfl rfl ?_
      refine gf_X7_19 F dX7_playIn_72 (rfl : kd 24 = 7) ?_
      refine r_iload_n F 4 dX7_playIn_75 rfl rfl ?_
      refine r_iconst F dX7_playIn_76 (v := 0) (by decide) ?_
      refine r_chk (fun h3 => ?_)
      refine r_iast F dX7_playIn_77 (rfl : kd 28 = 8) (rfl : al 28 = 24) h3 (fun M77 => ?_)
      refine r_iconst F dX7_playIn_78 (v := 0) (by decide) ?_
      refine r_istore (ls' := [(5, .int (0 : Int32)), (4, .int x69), (0, .ref (gA G 24)), (1, .int y1), (2, .int y2), (3, .int y3)]) F dX7_playIn_79 (by decide) rfl ?_
      refine r_sub [2, 3, 4, 5, 1, 0] rfl ?_
      exact l_X7_playIn_81 F (f_X7_playIn_49  n) (fun q0 q1 q2 M9 => ih q0 q1 q2 M9) FU y1 y2 y3 x69 (0 : Int32) M77

def f_X7_playIn_27 : Nat → Int32 → Int32 → Int32 → Mem → Option (Unit × Mem)
  | 0, _, _, _, _ => none
  | n + 1, y1, y2, y3, M => if (12 : Int32) ≤ y3 then (f_X7_playIn_49  FU y1 y2 (0 : Int32) M) else (chk (inb y3 12) <| bnd (mw M 27 y3.toNatClampNeg (-100 : Int32)) fun M40 => bnd (y3 + (1 : Int32)) fun x41 => f_X7_playIn_27  n y1 y2 x41 M40)

set_option maxRecDepth 100000 in
set_option maxHeartbeats 4000000 in
theorem l_X7_playIn_27 {G : GM} {p : Program} {l : Launch} {e : Env} {s : State} {m : MethodId} {args : Array Value} {below : List Frame} {meth : Method} {c : Code} (F : Fx G p l s m args meth c cX7_playIn RX7 6 none) : ∀ (n : Nat) (y1 : Int32) (y2 : Int32) (y3 : Int32) (M : Mem), Rf G p l e s m args below meth c 8 6 emV (f_X7_playIn_27  n y1 y2 y3 M) 27 [(0, .ref (gA G 24)), (1, .int y1), (2, .int y2), (3, .int y3)] [] M := by
  intro n
  induction n with
  | zero => intros; exact r_none
  | succ n ih =>
    intro y1 y2 y3 M
    rw [f_X7_playIn_27]
    refine r_iload_n F 3 dX7_playIn_27 rfl rfl ?_
    refine r_bipush F dX7_playIn_28 (v := 12) (by decide) ?_
    refine r_icmp_ge (tgt := 47) F dX7_playIn_30 (by decide) (fun c1 => ?_) (fun c1 => ?_)
    · refine r_iconst F dX7_playIn_47 (v := 0) (by decide) ?_
      refine r_istore_n (ls' := [(3, .int (0 : Int32)), (0, .ref (gA G 24)), (1, .int y1), (2, .int y2)]) F dX7_playIn_48 rfl (by decide) rfl ?_
      refine r_sub [1, 2, 3, 0] rfl ?_
      exact l_X7_playIn_49 F   FU y1 y2 (0 : Int32) M
    · refine r_aload_n F 0 dX7_playIn_33 rfl rfl ?_
      refine gf_X7_16 F dX7_playIn_34 (rfl : kd 24 = 7) ?_
      refine r_iload_n F 3 dX7_playIn_37 rfl rfl ?_
      refine r_bipush F dX7_playIn_38 (v := -100) (by decide) ?_
      refine r_chk (fun h2 => ?_)
      refine r_iast F dX7_playIn_40 (rfl : kd 27 = 8) (rfl : al 27 = 12) h2 (fun M40 => ?_)
      refine r_iinc (ls' := fun q9 => [(3, .int q9), (0, .ref (gA G 24)), (1, .int y1), (2, .int y2)]) (k := 3) (v := y3 + (1 : Int32)) F dX7_playIn_41 rfl rfl (by decide) (fun _ => rfl) (fun x41 => ?_)
      refine r_goto (tgt := 27) F dX7_playIn_44 (by decide) ?_
      refine r_sub [1, 2, 3, 0] rfl ?_
      exact ih y1 y2 x41 M40

def f_X7_playIn (a1 : Int32) (a2 : Int32) (M : Mem) : Option (Unit × Mem) := bnd (mw M 24 7 (0 : Int32)) fun M2 => bnd (mw M2 24 8 (0 : Int32)) fun M7 => bnd (mw M7 24 9 (0 : Int32)) fun M12 => bnd (mw M12 24 10 (0 : Int32)) fun M17 => bnd (mw M17 24 11 (0 : Int32)) fun M22 => f_X7_playIn_27  FU a1 a2 (0 : Int32) M22

set_option maxRecDepth 100000 in
set_option maxHeartbeats 4000000 in
theorem b_X7_playIn {G : GM} {p : Program} {l : Launch} {e : Env} {s : State} {m : MethodId} {args : Array Value} {below : List Frame} {meth : Method} {c : Code} (F : Fx G p l s m args meth c cX7_playIn RX7 6 none) (a1 : Int32) (a2 : Int32) (M : Mem) : Rf G p l e s m args below meth c 8 6 emV (f_X7_playIn a1 a2 M) 0 [(0, .ref (gA G 24)), (1, .int a1), (2, .int a2)] [] M := by
  unfold f_X7_playIn
  refine r_aload_n F 0 dX7_playIn_0 rfl rfl ?_
  refine r_iconst F dX7_playIn_1 (v := 0) (by decide) ?_
  refine pf_X7_90 F dX7_playIn_2 (rfl : kd 24 = 7) (fun M2 => ?_)
  refine r_aload_n F 0 dX7_playIn_5 rfl rfl ?_
  refine r_iconst F dX7_playIn_6 (v := 0) (by decide) ?_
  refine pf_X7_93 F dX7_playIn_7 (rfl : kd 24 = 7) (fun M7 => ?_)
  refine r_aload_n F 0 dX7_playIn_10 rfl rfl ?_
  refine r_iconst F dX7_playIn_11 (v := 0) (by decide) ?_
  refine pf_X7_87 F dX7_playIn_12 (rfl : kd 24 = 7) (fun M12 => ?_)
  refine r_aload_n F 0 dX7_playIn_15 rfl rfl ?_
  refine r_iconst F dX7_playIn_16 (v := 0) (by decide) ?_
  refine pf_X7_81 F dX7_playIn_17 (rfl : kd 24 = 7) (fun M17 => ?_)
  refine r_aload_n F 0 dX7_playIn_20 rfl rfl ?_
  refine r_iconst F dX7_playIn_21 (v := 0) (by decide) ?_
  refine pf_X7_84 F dX7_playIn_22 (rfl : kd 24 = 7) (fun M22 => ?_)
  refine r_iconst F dX7_playIn_25 (v := 0) (by decide) ?_
  refine r_istore_n (ls' := [(3, .int (0 : Int32)), (0, .ref (gA G 24)), (1, .int a1), (2, .int a2)]) F dX7_playIn_26 rfl (by decide) rfl ?_
  refine r_sub [1, 2, 3, 0] rfl ?_
  exact l_X7_playIn_27 F   FU a1 a2 (0 : Int32) M22

set_option maxRecDepth 100000 in
set_option maxHeartbeats 4000000 in
theorem c_X7_playIn {l : Launch} {G : GM} (hl : l.stackTraces = false) (hG : GG G) (a1 : Int32) (a2 : Int32) (M : Mem) : ∀ r, f_X7_playIn a1 a2 M = some r → Ctr l G yX7_playIn (.code yX7_playIn cX7_playIn 6 none :: wsA) 8 [.ref (gA G 24), .int a1, .int a2] M (emV r) :=
  ctr_of (by decide) hl hG (Nat.le_of_ble_eq_true rfl) (fun p e s m args below meth c F => b_X7_playIn F a1 a2 M)

-- ===== X7_tryPlaying DrumTownsModel.tryPlaying(I)V =====
theorem yv_X7_tryPlaying : yV yX7_tryPlaying cX7_tryPlaying 2 none 1 := ⟨im_X7_tryPlaying, sl_X7_tryPlaying, ini_X7, cd_X7_tryPlaying, ⟨by decide, by decide, by decide +kernel⟩, by decide⟩

def f_X7_tryPlaying (a1 : Int32) (M : Mem) : Option (Unit × Mem) := bn (f_X7_copy (0 : Int32) (2996 : Int32) M) fun _ M5 => bn (f_X7_playIn (2996 : Int32) a1 M5) fun _ M13 => some ((), M13)

set_option maxRecDepth 100000 in
set_option maxHeartbeats 4000000 in
theorem b_X7_tryPlaying {G : GM} {p : Program} {l : Launch} {e : Env} {s : State} {m : MethodId} {args : Array Value} {below : List Frame} {meth : Method} {c : Code} (F : Fx G p l s m args meth c cX7_tryPlaying RX7 2 none) (a1 : Int32) (M : Mem) : Rf G p l e s m args below meth c 9 2 emV (f_X7_tryPlaying a1 M) 0 [(0, .ref (gA G 24)), (1, .int a1)] [] M := by
  unfold f_X7_tryPlaying
  refine r_aload_n F 0 dX7_tryPlaying_0 rfl rfl ?_
  refine r_iconst F dX7_tryPlaying_1 (v := 0) (by decide) ?_
  refine r_sipush F dX7_tryPlaying_2 (v := 2996) (by decide) ?_
  refine r_cV (val := vU) (As := [.int (0 : Int32), .int (2996 : Int32)]) (rest := []) (fun _ => []) F (c_X7_copy F.st F.gg (0 : Int32) (2996 : Int32) M) (fun _ _ => rfl) dX7_tryPlaying_5 ml_X7_52 yv_X7_copy (rfl : kd 24 = 7) (by decide) rfl rfl (by decide) rfl (Nat.le_of_ble_eq_true rfl) (fun _ => rfl) (fun _ M5 => ?_)
  refine r_aload_n F 0 dX7_tryPlaying_8 rfl rfl ?_
  refine r_sipush F dX7_tryPlaying_9 (v := 2996) (by decide) ?_
  refine r_iload_n F 1 dX7_tryPlaying_12 rfl rfl ?_
  refine r_cV (val := vU) (As := [.int (2996 : Int32), .int a1]) (rest := []) (fun _ => []) F (c_X7_playIn F.st F.gg (2996 : Int32) a1 M5) (fun _ _ => rfl) dX7_tryPlaying_13 ml_X7_100 yv_X7_playIn (rfl : kd 24 = 7) (by decide) rfl rfl (by decide) rfl (Nat.le_of_ble_eq_true rfl) (fun _ => rfl) (fun _ M13 => ?_)
  exact r_vret F rfl dX7_tryPlaying_16 rfl

set_option maxRecDepth 100000 in
set_option maxHeartbeats 4000000 in
theorem c_X7_tryPlaying {l : Launch} {G : GM} (hl : l.stackTraces = false) (hG : GG G) (a1 : Int32) (M : Mem) : ∀ r, f_X7_tryPlaying a1 M = some r → Ctr l G yX7_tryPlaying (.code yX7_tryPlaying cX7_tryPlaying 2 none :: wsA) 9 [.ref (gA G 24), .int a1] M (emV r) :=
  ctr_of (by decide) hl hG (Nat.le_of_ble_eq_true rfl) (fun p e s m args below meth c F => b_X7_tryPlaying F a1 M)

-- ===== X7_ifPlayedOf DrumTownsModel.ifPlayedOf(II)I =====
theorem yv_X7_ifPlayedOf : yV yX7_ifPlayedOf cX7_ifPlayedOf 3 (some .int) 2 := ⟨im_X7_ifPlayedOf, sl_X7_ifPlayedOf, ini_X7, cd_X7_ifPlayedOf, ⟨by decide, by decide, by decide +kernel⟩, by decide⟩

def f_X7_ifPlayedOf_60 (z0 : Int32) (M : Mem) : Option (Int32 × Mem) := some (z0, M)

set_option maxRecDepth 100000 in
set_option maxHeartbeats 4000000 in
theorem l_X7_ifPlayedOf_60 {G : GM} {p : Program} {l : Launch} {e : Env} {s : State} {m : MethodId} {args : Array Value} {below : List Frame} {meth : Method} {c : Code} (F : Fx G p l s m args meth c cX7_ifPlayedOf RX7 3 (some .int)) (z0 : Int32) (M : Mem) : Rf G p l e s m args below meth c 10 3 emI (f_X7_ifPlayedOf_60  z0 M) 60 [] [.int z0] M := by
  unfold f_X7_ifPlayedOf_60
  exact r_iret F rfl dX7_ifPlayedOf_60 rfl

def f_X7_ifPlayedOf (a1 : Int32) (a2 : Int32) (M : Mem) : Option (Int32 × Mem) := bn (f_X7_tryPlaying a1 M) fun _ M2 => if a2 = 0 then (f_X7_ifPlayedOf_60  (M2.1 24 7) M2) else (if a2 = (1 : Int32) then (f_X7_ifPlayedOf_60  (M2.1 24 9) M2) else (if a2 = (2 : Int32) then (f_X7_ifPlayedOf_60  (M2.1 24 10) M2) else (if a2 = (3 : Int32) then (f_X7_ifPlayedOf_60  (M2.1 24 8) M2) else (bn (f_X7_dullIn (2996 : Int32) a1 M2) fun r57 M57 => f_X7_ifPlayedOf_60  r57 M57))))

set_option maxRecDepth 100000 in
set_option maxHeartbeats 4000000 in
theorem b_X7_ifPlayedOf {G : GM} {p : Program} {l : Launch} {e : Env} {s : State} {m : MethodId} {args : Array Value} {below : List Frame} {meth : Method} {c : Code} (F : Fx G p l s m args meth c cX7_ifPlayedOf RX7 3 (some .int)) (a1 : Int32) (a2 : Int32) (M : Mem) : Rf G p l e s m args below meth c 10 3 emI (f_X7_ifPlayedOf a1 a2 M) 0 [(0, .ref (gA G 24)), (1, .int a1), (2, .int a2)] [] M := by
  unfold f_X7_ifPlayedOf
  refine r_aload_n F 0 dX7_ifPlayedOf_0 rfl rfl ?_
  refine r_iload_n F 1 dX7_ifPlayedOf_1 rfl rfl ?_
  refine r_cV (val := vU) (As := [.int a1]) (rest := []) (fun _ => []) F (c_X7_tryPlaying F.st F.gg a1 M) (fun _ _ => rfl) dX7_ifPlayedOf_2 ml_X7_103 yv_X7_tryPlaying (rfl : kd 24 = 7) (by decide) rfl rfl (by decide) rfl (Nat.le_of_ble_eq_true rfl) (fun _ => rfl) (fun _ M2 => ?_)
  refine r_iload_n F 2 dX7_ifPlayedOf_5 rfl rfl ?_
  refine r_if_ne (tgt := 16) F dX7_ifPlayedOf_6 (by decide) (fun c1 => ?_) (fun c1 => ?_)
  · refine r_aload_n F 0 dX7_ifPlayedOf_9 rfl rfl ?_
    refine gf_X7_90 F dX7_ifPlayedOf_10 (rfl : kd 24 = 7) ?_
    refine r_goto (tgt := 60) F dX7_ifPlayedOf_13 (by decide) ?_
    refine r_sub [] rfl ?_
    exact l_X7_ifPlayedOf_60 F   (M2.1 24 7) M2
  · refine r_iload_n F 2 dX7_ifPlayedOf_16 rfl rfl ?_
    refine r_iconst F dX7_ifPlayedOf_17 (v := 1) (by decide) ?_
    refine r_icmp_ne (tgt := 28) F dX7_ifPlayedOf_18 (by decide) (fun c2 => ?_) (fun c2 => ?_)
    · refine r_aload_n F 0 dX7_ifPlayedOf_21 rfl rfl ?_
      refine gf_X7_87 F dX7_ifPlayedOf_22 (rfl : kd 24 = 7) ?_
      refine r_goto (tgt := 60) F dX7_ifPlayedOf_25 (by decide) ?_
      refine r_sub [] rfl ?_
      exact l_X7_ifPlayedOf_60 F   (M2.1 24 9) M2
    · refine r_iload_n F 2 dX7_ifPlayedOf_28 rfl rfl ?_
      refine r_iconst F dX7_ifPlayedOf_29 (v := 2) (by decide) ?_
      refine r_icmp_ne (tgt := 40) F dX7_ifPlayedOf_30 (by decide) (fun c3 => ?_) (fun c3 => ?_)
      · refine r_aload_n F 0 dX7_ifPlayedOf_33 rfl rfl ?_
        refine gf_X7_81 F dX7_ifPlayedOf_34 (rfl : kd 24 = 7) ?_
        refine r_goto (tgt := 60) F dX7_ifPlayedOf_37 (by decide) ?_
        refine r_sub [] rfl ?_
        exact l_X7_ifPlayedOf_60 F   (M2.1 24 10) M2
      · refine r_iload_n F 2 dX7_ifPlayedOf_40 rfl rfl ?_
        refine r_iconst F dX7_ifPlayedOf_41 (v := 3) (by decide) ?_
        refine r_icmp_ne (tgt := 52) F dX7_ifPlayedOf_42 (by decide) (fun c4 => ?_) (fun c4 => ?_)
        · refine r_aload_n F 0 dX7_ifPlayedOf_45 rfl rfl ?_
          refine gf_X7_93 F dX7_ifPlayedOf_46 (rfl : kd 24 = 7) ?_
          refine r_goto (tgt := 60) F dX7_ifPlayedOf_49 (by decide) ?_
          refine r_sub [] rfl ?_
          exact l_X7_ifPlayedOf_60 F   (M2.1 24 8) M2
        · refine r_aload_n F 0 dX7_ifPlayedOf_52 rfl rfl ?_
          refine r_sipush F dX7_ifPlayedOf_53 (v := 2996) (by decide) ?_
          refine r_iload_n F 1 dX7_ifPlayedOf_56 rfl rfl ?_
          refine r_cV (val := vI) (As := [.int (2996 : Int32), .int a1]) (rest := []) (fun q9 => .int q9 :: []) F (c_X7_dullIn F.st F.gg (2996 : Int32) a1 M2) (fun _ _ => rfl) dX7_ifPlayedOf_57 ml_X7_107 yv_X7_dullIn (rfl : kd 24 = 7) (by decide) rfl rfl (by decide) rfl (Nat.le_of_ble_eq_true rfl) (fun _ => rfl) (fun r57 M57 => ?_)
          refine r_sub [] rfl ?_
          exact l_X7_ifPlayedOf_60 F   r57 M57

set_option maxRecDepth 100000 in
set_option maxHeartbeats 4000000 in
theorem c_X7_ifPlayedOf {l : Launch} {G : GM} (hl : l.stackTraces = false) (hG : GG G) (a1 : Int32) (a2 : Int32) (M : Mem) : ∀ r, f_X7_ifPlayedOf a1 a2 M = some r → Ctr l G yX7_ifPlayedOf (.code yX7_ifPlayedOf cX7_ifPlayedOf 3 (some .int) :: wsA) 10 [.ref (gA G 24), .int a1, .int a2] M (emI r) :=
  ctr_of (by decide) hl hG (Nat.le_of_ble_eq_true rfl) (fun p e s m args below meth c F => b_X7_ifPlayedOf F a1 a2 M)

-- ===== X7_lastsOf DrumTownsModel.lastsOf(I)I =====
theorem yv_X7_lastsOf : yV yX7_lastsOf cX7_lastsOf 3 (some .int) 1 := ⟨im_X7_lastsOf, sl_X7_lastsOf, ini_X7, cd_X7_lastsOf, ⟨by decide, by decide, by decide +kernel⟩, by decide⟩

def f_X7_lastsOf_10 : Nat → Int32 → Int32 → Mem → Option (Int32 × Mem)
  | 0, _, _, _ => none
  | n + 1, y1, y2, M => if (200 : Int32) < y2 then (some ((-1 : Int32), M)) else (bn (f_X7_playIn (2996 : Int32) y1 M) fun _ M22 => if (M22.1 24 11) ≤ 0 then (bnd (y2 + (1 : Int32)) fun x34 => f_X7_lastsOf_10  n y1 x34 M22) else (some (y2, M22)))

set_option maxRecDepth 100000 in
set_option maxHeartbeats 4000000 in
theorem l_X7_lastsOf_10 {G : GM} {p : Program} {l : Launch} {e : Env} {s : State} {m : MethodId} {args : Array Value} {below : List Frame} {meth : Method} {c : Code} (F : Fx G p l s m args meth c cX7_lastsOf RX7 3 (some .int)) : ∀ (n : Nat) (y1 : Int32) (y2 : Int32) (M : Mem), Rf G p l e s m args below meth c 9 3 emI (f_X7_lastsOf_10  n y1 y2 M) 10 [(0, .ref (gA G 24)), (1, .int y1), (2, .int y2)] [] M := by
  intro n
  induction n with
  | zero => intros; exact r_none
  | succ n ih =>
    intro y1 y2 M
    rw [f_X7_lastsOf_10]
    refine r_iload_n F 2 dX7_lastsOf_10 rfl rfl ?_
    refine r_sipush F dX7_lastsOf_11 (v := 200) (by decide) ?_
    refine r_icmp_gt (tgt := 40) F dX7_lastsOf_14 (by decide) (fun c1 => ?_) (fun c1 => ?_)
    · refine r_iconst F dX7_lastsOf_40 (v := -1) (by decide) ?_
      exact r_iret F rfl dX7_lastsOf_41 rfl
    · refine r_aload_n F 0 dX7_lastsOf_17 rfl rfl ?_
      refine r_sipush F dX7_lastsOf_18 (v := 2996) (by decide) ?_
      refine r_iload_n F 1 dX7_lastsOf_21 rfl rfl ?_
      refine r_cV (val := vU) (As := [.int (2996 : Int32), .int y1]) (rest := []) (fun _ => []) F (c_X7_playIn F.st F.gg (2996 : Int32) y1 M) (fun _ _ => rfl) dX7_lastsOf_22 ml_X7_100 yv_X7_playIn (rfl : kd 24 = 7) (by decide) rfl rfl (by decide) rfl (Nat.le_of_ble_eq_true rfl) (fun _ => rfl) (fun _ M22 => ?_)
      refine r_aload_n F 0 dX7_lastsOf_25 rfl rfl ?_
      refine gf_X7_84 F dX7_lastsOf_26 (rfl : kd 24 = 7) ?_
      refine r_if_le (tgt := 34) F dX7_lastsOf_29 (by decide) (fun c2 => ?_) (fun c2 => ?_)
      · refine r_iinc (ls' := fun q9 => [(2, .int q9), (0, .ref (gA G 24)), (1, .int y1)]) (k := 2) (v := y2 + (1 : Int32)) F dX7_lastsOf_34 rfl rfl (by decide) (fun _ => rfl) (fun x34 => ?_)
        refine r_goto (tgt := 10) F dX7_lastsOf_37 (by decide) ?_
        refine r_sub [1, 2, 0] rfl ?_
        exact ih y1 x34 M22
      · refine r_iload_n F 2 dX7_lastsOf_32 rfl rfl ?_
        exact r_iret F rfl dX7_lastsOf_33 rfl

def f_X7_lastsOf (a1 : Int32) (M : Mem) : Option (Int32 × Mem) := bn (f_X7_copy (0 : Int32) (2996 : Int32) M) fun _ M5 => f_X7_lastsOf_10  FU a1 (1 : Int32) M5

set_option maxRecDepth 100000 in
set_option maxHeartbeats 4000000 in
theorem b_X7_lastsOf {G : GM} {p : Program} {l : Launch} {e : Env} {s : State} {m : MethodId} {args : Array Value} {below : List Frame} {meth : Method} {c : Code} (F : Fx G p l s m args meth c cX7_lastsOf RX7 3 (some .int)) (a1 : Int32) (M : Mem) : Rf G p l e s m args below meth c 9 3 emI (f_X7_lastsOf a1 M) 0 [(0, .ref (gA G 24)), (1, .int a1)] [] M := by
  unfold f_X7_lastsOf
  refine r_aload_n F 0 dX7_lastsOf_0 rfl rfl ?_
  refine r_iconst F dX7_lastsOf_1 (v := 0) (by decide) ?_
  refine r_sipush F dX7_lastsOf_2 (v := 2996) (by decide) ?_
  refine r_cV (val := vU) (As := [.int (0 : Int32), .int (2996 : Int32)]) (rest := []) (fun _ => []) F (c_X7_copy F.st F.gg (0 : Int32) (2996 : Int32) M) (fun _ _ => rfl) dX7_lastsOf_5 ml_X7_52 yv_X7_copy (rfl : kd 24 = 7) (by decide) rfl rfl (by decide) rfl (Nat.le_of_ble_eq_true rfl) (fun _ => rfl) (fun _ M5 => ?_)
  refine r_iconst F dX7_lastsOf_8 (v := 1) (by decide) ?_
  refine r_istore_n (ls' := [(2, .int (1 : Int32)), (0, .ref (gA G 24)), (1, .int a1)]) F dX7_lastsOf_9 rfl (by decide) rfl ?_
  refine r_sub [1, 2, 0] rfl ?_
  exact l_X7_lastsOf_10 F   FU a1 (1 : Int32) M5

set_option maxRecDepth 100000 in
set_option maxHeartbeats 4000000 in
theorem c_X7_lastsOf {l : Launch} {G : GM} (hl : l.stackTraces = false) (hG : GG G) (a1 : Int32) (M : Mem) : ∀ r, f_X7_lastsOf a1 M = some r → Ctr l G yX7_lastsOf (.code yX7_lastsOf cX7_lastsOf 3 (some .int) :: wsA) 9 [.ref (gA G 24), .int a1] M (emI r) :=
  ctr_of (by decide) hl hG (Nat.le_of_ble_eq_true rfl) (fun p e s m args below meth c F => b_X7_lastsOf F a1 M)

-- ===== X7_owes DrumTownsModel.owes(II)I =====
theorem ys_X7_owes : yS yX7_owes cX7_owes 2 (some .int) 2 := ⟨sc_X7_owes, ini_X7, cd_X7_owes, ⟨by decide, by decide, by decide +kernel⟩, by decide⟩

def f_X7_owes (a0 : Int32) (a1 : Int32) (M : Mem) : Option (Int32 × Mem) := some ((((366 : Int32) + ((6 : Int32) * a0)) + a1), M)

set_option maxRecDepth 100000 in
set_option maxHeartbeats 4000000 in
theorem b_X7_owes {G : GM} {p : Program} {l : Launch} {e : Env} {s : State} {m : MethodId} {args : Array Value} {below : List Frame} {meth : Method} {c : Code} (F : Fx G p l s m args meth c cX7_owes RX7 2 (some .int)) (a0 : Int32) (a1 : Int32) (M : Mem) : Rf G p l e s m args below meth c 6 2 emI (f_X7_owes a0 a1 M) 0 [(0, .int a0), (1, .int a1)] [] M := by
  unfold f_X7_owes
  refine r_sipush F dX7_owes_0 (v := 366) (by decide) ?_
  refine r_bipush F dX7_owes_3 (v := 6) (by decide) ?_
  refine r_iload_n F 0 dX7_owes_5 rfl rfl ?_
  refine r_imul F dX7_owes_6 ?_
  refine r_iadd F dX7_owes_7 ?_
  refine r_iload_n F 1 dX7_owes_8 rfl rfl ?_
  refine r_iadd F dX7_owes_9 ?_
  exact r_iret F rfl dX7_owes_10 rfl

set_option maxRecDepth 100000 in
set_option maxHeartbeats 4000000 in
theorem c_X7_owes {l : Launch} {G : GM} (hl : l.stackTraces = false) (hG : GG G) (a0 : Int32) (a1 : Int32) (M : Mem) : ∀ r, f_X7_owes a0 a1 M = some r → Ctr l G yX7_owes (.code yX7_owes cX7_owes 2 (some .int) :: wsA) 6 [.int a0, .int a1] M (emI r) :=
  ctr_of (by decide) hl hG (Nat.le_of_ble_eq_true rfl) (fun p e s m args below meth c F => b_X7_owes F a0 a1 M)

-- ===== X7_owedIn DrumTownsModel.owedIn(IZ)I =====
theorem yv_X7_owedIn : yV yX7_owedIn cX7_owedIn 5 (some .int) 2 := ⟨im_X7_owedIn, sl_X7_owedIn, ini_X7, cd_X7_owedIn, ⟨by decide, by decide, by decide +kernel⟩, by decide⟩

def f_X7_owedIn_42 (k5 : Int32 → Int32 → Int32 → Int32 → Mem → Option (Int32 × Mem)) (y1 : Int32) (y2 : Int32) (y4 : Int32) (z0 : Int32) (z1 : Int32) (M : Mem) : Option (Int32 × Mem) := bnd (z0 + z1) fun x43 => bnd (y4 + (1 : Int32)) fun x44 => k5 y1 y2 x43 x44 M

set_option maxRecDepth 100000 in
set_option maxHeartbeats 4000000 in
theorem l_X7_owedIn_42 {G : GM} {p : Program} {l : Launch} {e : Env} {s : State} {m : MethodId} {args : Array Value} {below : List Frame} {meth : Method} {c : Code} (F : Fx G p l s m args meth c cX7_owedIn RX7 5 (some .int)) (k5 : Int32 → Int32 → Int32 → Int32 → Mem → Option (Int32 × Mem)) (H5 : ∀ (y1 : Int32) (y2 : Int32) (y3 : Int32) (y4 : Int32) (M : Mem), Rf G p l e s m args below meth c 7 5 emI (k5 y1 y2 y3 y4 M) 5 [(0, .ref (gA G 24)), (1, .int y1), (2, .int y2), (3, .int y3), (4, .int y4)] [] M) (y1 : Int32) (y2 : Int32) (y4 : Int32) (z0 : Int32) (z1 : Int32) (M : Mem) : Rf G p l e s m args below meth c 7 5 emI (f_X7_owedIn_42 k5 y1 y2 y4 z0 z1 M) 42 [(0, .ref (gA G 24)), (1, .int y1), (2, .int y2), (4, .int y4)] [.int z1, .int z0] M := by
  unfold f_X7_owedIn_42
  refine r_iadd F dX7_owedIn_42 ?_
  refine r_bi (fun x43 => ?_)
  refine r_istore_n (ls' := [(3, .int x43), (0, .ref (gA G 24)), (1, .int y1), (2, .int y2), (4, .int y4)]) F dX7_owedIn_43 rfl (by decide) rfl ?_
  refine r_iinc (ls' := fun q9 => [(4, .int q9), (3, .int x43), (0, .ref (gA G 24)), (1, .int y1), (2, .int y2)]) (k := 4) (v := y4 + (1 : Int32)) F dX7_owedIn_44 rfl rfl (by decide) (fun _ => rfl) (fun x44 => ?_)
  refine r_goto (tgt := 5) F dX7_owedIn_47 (by decide) ?_
  refine r_sub [2, 3, 4, 1, 0] rfl ?_
  exact H5 y1 y2 x43 x44 M

def f_X7_owedIn_5 : Nat → Int32 → Int32 → Int32 → Int32 → Mem → Option (Int32 × Mem)
  | 0, _, _, _, _, _ => none
  | n + 1, y1, y2, y3, y4, M => if (6 : Int32) ≤ y4 then (some (y3, M)) else (if y2 = 0 then (bn (f_X7_owes y1 y4 M) fun r38 M38 => chk (inb r38 3424) <| f_X7_owedIn_42 (f_X7_owedIn_5  n) y1 y2 y4 y3 (M38.1 25 r38.toNatClampNeg) M38) else (bn (f_X7_owes y4 y1 M) fun r24 M24 => chk (inb r24 3424) <| f_X7_owedIn_42 (f_X7_owedIn_5  n) y1 y2 y4 y3 (M24.1 25 r24.toNatClampNeg) M24))

set_option maxRecDepth 100000 in
set_option maxHeartbeats 4000000 in
theorem l_X7_owedIn_5 {G : GM} {p : Program} {l : Launch} {e : Env} {s : State} {m : MethodId} {args : Array Value} {below : List Frame} {meth : Method} {c : Code} (F : Fx G p l s m args meth c cX7_owedIn RX7 5 (some .int)) : ∀ (n : Nat) (y1 : Int32) (y2 : Int32) (y3 : Int32) (y4 : Int32) (M : Mem), Rf G p l e s m args below meth c 7 5 emI (f_X7_owedIn_5  n y1 y2 y3 y4 M) 5 [(0, .ref (gA G 24)), (1, .int y1), (2, .int y2), (3, .int y3), (4, .int y4)] [] M := by
  intro n
  induction n with
  | zero => intros; exact r_none
  | succ n ih =>
    intro y1 y2 y3 y4 M
    rw [f_X7_owedIn_5]
    refine r_iload F 4 dX7_owedIn_5 rfl ?_
    refine r_bipush F dX7_owedIn_7 (v := 6) (by decide) ?_
    refine r_icmp_ge (tgt := 50) F dX7_owedIn_9 (by decide) (fun c1 => ?_) (fun c1 => ?_)
    · refine r_iload_n F 3 dX7_owedIn_50 rfl rfl ?_
      exact r_iret F rfl dX7_owedIn_51 rfl
    · refine r_iload_n F 3 dX7_owedIn_12 rfl rfl ?_
      refine r_iload_n F 2 dX7_owedIn_13 rfl rfl ?_
      refine r_if_eq (tgt := 31) F dX7_owedIn_14 (by decide) (fun c2 => ?_) (fun c2 => ?_)
      · refine r_aload_n F 0 dX7_owedIn_31 rfl rfl ?_
        refine gf_X7_7 F dX7_owedIn_32 (rfl : kd 24 = 7) ?_
        refine r_iload_n F 1 dX7_owedIn_35 rfl rfl ?_
        refine r_iload F 4 dX7_owedIn_36 rfl ?_
        refine r_cS (val := vI) (As := [.int y1, .int y4]) (rest := [.ref (gA G 25), .int y3]) (fun q9 => .int q9 :: [.ref (gA G 25), .int y3]) F (c_X7_owes F.st F.gg y1 y4 M) (fun _ _ => rfl) dX7_owedIn_38 ml_X7_123 ys_X7_owes rfl (by decide) rfl (Nat.le_of_ble_eq_true rfl) (fun _ => rfl) (fun r38 M38 => ?_)
        refine r_chk (fun h3 => ?_)
        refine r_iald F dX7_owedIn_41 (rfl : kd 25 = 8) (rfl : al 25 = 3424) h3 ?_
        refine r_sub [0, 1, 2, 4] rfl ?_
        exact l_X7_owedIn_42 F (f_X7_owedIn_5  n) (fun q0 q1 q2 q3 M9 => ih q0 q1 q2 q3 M9) y1 y2 y4 y3 (M38.1 25 r38.toNatClampNeg) M38
      · refine r_aload_n F 0 dX7_owedIn_17 rfl rfl ?_
        refine gf_X7_7 F dX7_owedIn_18 (rfl : kd 24 = 7) ?_
        refine r_iload F 4 dX7_owedIn_21 rfl ?_
        refine r_iload_n F 1 dX7_owedIn_23 rfl rfl ?_
        refine r_cS (val := vI) (As := [.int y4, .int y1]) (rest := [.ref (gA G 25), .int y3]) (fun q9 => .int q9 :: [.ref (gA G 25), .int y3]) F (c_X7_owes F.st F.gg y4 y1 M) (fun _ _ => rfl) dX7_owedIn_24 ml_X7_123 ys_X7_owes rfl (by decide) rfl (Nat.le_of_ble_eq_true rfl) (fun _ => rfl) (fun r24 M24 => ?_)
        refine r_chk (fun h4 => ?_)
        refine r_iald F dX7_owedIn_27 (rfl : kd 25 = 8) (rfl : al 25 = 3424) h4 ?_
        refine r_goto (tgt := 42) F dX7_owedIn_28 (by decide) ?_
        refine r_sub [0, 1, 2, 4] rfl ?_
        exact l_X7_owedIn_42 F (f_X7_owedIn_5  n) (fun q0 q1 q2 q3 M9 => ih q0 q1 q2 q3 M9) y1 y2 y4 y3 (M24.1 25 r24.toNatClampNeg) M24

def f_X7_owedIn (a1 : Int32) (a2 : Int32) (M : Mem) : Option (Int32 × Mem) := f_X7_owedIn_5  FU a1 a2 (0 : Int32) (0 : Int32) M

set_option maxRecDepth 100000 in
set_option maxHeartbeats 4000000 in
theorem b_X7_owedIn {G : GM} {p : Program} {l : Launch} {e : Env} {s : State} {m : MethodId} {args : Array Value} {below : List Frame} {meth : Method} {c : Code} (F : Fx G p l s m args meth c cX7_owedIn RX7 5 (some .int)) (a1 : Int32) (a2 : Int32) (M : Mem) : Rf G p l e s m args below meth c 7 5 emI (f_X7_owedIn a1 a2 M) 0 [(0, .ref (gA G 24)), (1, .int a1), (2, .int a2)] [] M := by
  unfold f_X7_owedIn
  refine r_iconst F dX7_owedIn_0 (v := 0) (by decide) ?_
  refine r_istore_n (ls' := [(3, .int (0 : Int32)), (0, .ref (gA G 24)), (1, .int a1), (2, .int a2)]) F dX7_owedIn_1 rfl (by decide) rfl ?_
  refine r_iconst F dX7_owedIn_2 (v := 0) (by decide) ?_
  refine r_istore (ls' := [(4, .int (0 : Int32)), (3, .int (0 : Int32)), (0, .ref (gA G 24)), (1, .int a1), (2, .int a2)]) F dX7_owedIn_3 (by decide) rfl ?_
  refine r_sub [2, 3, 4, 1, 0] rfl ?_
  exact l_X7_owedIn_5 F   FU a1 a2 (0 : Int32) (0 : Int32) M

set_option maxRecDepth 100000 in
set_option maxHeartbeats 4000000 in
theorem c_X7_owedIn {l : Launch} {G : GM} (hl : l.stackTraces = false) (hG : GG G) (a1 : Int32) (a2 : Int32) (M : Mem) : ∀ r, f_X7_owedIn a1 a2 M = some r → Ctr l G yX7_owedIn (.code yX7_owedIn cX7_owedIn 5 (some .int) :: wsA) 7 [.ref (gA G 24), .int a1, .int a2] M (emI r) :=
  ctr_of (by decide) hl hG (Nat.le_of_ble_eq_true rfl) (fun p e s m args below meth c F => b_X7_owedIn F a1 a2 M)

-- ===== X7_pinsOf DrumTownsModel.pinsOf(II)I =====
theorem yv_X7_pinsOf : yV yX7_pinsOf cX7_pinsOf 5 (some .int) 2 := ⟨im_X7_pinsOf, sl_X7_pinsOf, ini_X7, cd_X7_pinsOf, ⟨by decide, by decide, by decide +kernel⟩, by decide⟩

def f_X7_pinsOf_5 : Nat → Int32 → Int32 → Int32 → Int32 → Mem → Option (Int32 × Mem)
  | 0, _, _, _, _, _ => none
  | n + 1, y1, y2, y3, y4, M => if (24 : Int32) ≤ y4 then (some (y3, M)) else (bn (f_X7_at y1 y2 y4 M) fun r21 M21 => chk (inb r21 3424) <| bn (f_X7_bits (M21.1 25 r21.toNatClampNeg) M21) fun r25 M25 => bnd (y3 + r25) fun x29 => bnd (y4 + (1 : Int32)) fun x30 => f_X7_pinsOf_5  n y1 y2 x29 x30 M25)

set_option maxRecDepth 100000 in
set_option maxHeartbeats 4000000 in
theorem l_X7_pinsOf_5 {G : GM} {p : Program} {l : Launch} {e : Env} {s : State} {m : MethodId} {args : Array Value} {below : List Frame} {meth : Method} {c : Code} (F : Fx G p l s m args meth c cX7_pinsOf RX7 5 (some .int)) : ∀ (n : Nat) (y1 : Int32) (y2 : Int32) (y3 : Int32) (y4 : Int32) (M : Mem), Rf G p l e s m args below meth c 7 5 emI (f_X7_pinsOf_5  n y1 y2 y3 y4 M) 5 [(0, .ref (gA G 24)), (1, .int y1), (2, .int y2), (3, .int y3), (4, .int y4)] [] M := by
  intro n
  induction n with
  | zero => intros; exact r_none
  | succ n ih =>
    intro y1 y2 y3 y4 M
    rw [f_X7_pinsOf_5]
    refine r_iload F 4 dX7_pinsOf_5 rfl ?_
    refine r_bipush F dX7_pinsOf_7 (v := 24) (by decide) ?_
    refine r_icmp_ge (tgt := 36) F dX7_pinsOf_9 (by decide) (fun c1 => ?_) (fun c1 => ?_)
    · refine r_iload_n F 3 dX7_pinsOf_36 rfl rfl ?_
      exact r_iret F rfl dX7_pinsOf_37 rfl
    · refine r_iload_n F 3 dX7_pinsOf_12 rfl rfl ?_
      refine r_aload_n F 0 dX7_pinsOf_13 rfl rfl ?_
      refine gf_X7_7 F dX7_pinsOf_14 (rfl : kd 24 = 7) ?_
      refine r_iload_n F 1 dX7_pinsOf_17 rfl rfl ?_
      refine r_iload_n F 2 dX7_pinsOf_18 rfl rfl ?_
      refine r_iload F 4 dX7_pinsOf_19 rfl ?_
      refine r_cS (val := vI) (As := [.int y1, .int y2, .int y4]) (rest := [.ref (gA G 25), .int y3]) (fun q9 => .int q9 :: [.ref (gA G 25), .int y3]) F (c_X7_at F.st F.gg y1 y2 y4 M) (fun _ _ => rfl) dX7_pinsOf_21 ml_X7_56 ys_X7_at rfl (by decide) rfl (Nat.le_of_ble_eq_true rfl) (fun _ => rfl) (fun r21 M21 => ?_)
      refine r_chk (fun h2 => ?_)
      refine r_iald F dX7_pinsOf_24 (rfl : kd 25 = 8) (rfl : al 25 = 3424) h2 ?_
      refine r_cS (val := vI) (As := [.int (M21.1 25 r21.toNatClampNeg)]) (rest := [.int y3]) (fun q9 => .int q9 :: [.int y3]) F (c_X7_bits F.st F.gg (M21.1 25 r21.toNatClampNeg) M21) (fun _ _ => rfl) dX7_pinsOf_25 ml_X7_60 ys_X7_bits rfl (by decide) rfl (Nat.le_of_ble_eq_true rfl) (fun _ => rfl) (fun r25 M25 => ?_)
      refine r_iadd F dX7_pinsOf_28 ?_
      refine r_bi (fun x29 => ?_)
      refine r_istore_n (ls' := [(3, .int x29), (0, .ref (gA G 24)), (1, .int y1), (2, .int y2), (4, .int y4)]) F dX7_pinsOf_29 rfl (by decide) rfl ?_
      refine r_iinc (ls' := fun q9 => [(4, .int q9), (3, .int x29), (0, .ref (gA G 24)), (1, .int y1), (2, .int y2)]) (k := 4) (v := y4 + (1 : Int32)) F dX7_pinsOf_30 rfl rfl (by decide) (fun _ => rfl) (fun x30 => ?_)
      refine r_goto (tgt := 5) F dX7_pinsOf_33 (by decide) ?_
      refine r_sub [2, 3, 4, 1, 0] rfl ?_
      exact ih y1 y2 x29 x30 M25

def f_X7_pinsOf (a1 : Int32) (a2 : Int32) (M : Mem) : Option (Int32 × Mem) := f_X7_pinsOf_5  FU a1 a2 (0 : Int32) (0 : Int32) M

set_option maxRecDepth 100000 in
set_option maxHeartbeats 4000000 in
theorem b_X7_pinsOf {G : GM} {p : Program} {l : Launch} {e : Env} {s : State} {m : MethodId} {args : Array Value} {below : List Frame} {meth : Method} {c : Code} (F : Fx G p l s m args meth c cX7_pinsOf RX7 5 (some .int)) (a1 : Int32) (a2 : Int32) (M : Mem) : Rf G p l e s m args below meth c 7 5 emI (f_X7_pinsOf a1 a2 M) 0 [(0, .ref (gA G 24)), (1, .int a1), (2, .int a2)] [] M := by
  unfold f_X7_pinsOf
  refine r_iconst F dX7_pinsOf_0 (v := 0) (by decide) ?_
  refine r_istore_n (ls' := [(3, .int (0 : Int32)), (0, .ref (gA G 24)), (1, .int a1), (2, .int a2)]) F dX7_pinsOf_1 rfl (by decide) rfl ?_
  refine r_iconst F dX7_pinsOf_2 (v := 0) (by decide) ?_
  refine r_istore (ls' := [(4, .int (0 : Int32)), (3, .int (0 : Int32)), (0, .ref (gA G 24)), (1, .int a1), (2, .int a2)]) F dX7_pinsOf_3 (by decide) rfl ?_
  refine r_sub [2, 3, 4, 1, 0] rfl ?_
  exact l_X7_pinsOf_5 F   FU a1 a2 (0 : Int32) (0 : Int32) M

set_option maxRecDepth 100000 in
set_option maxHeartbeats 4000000 in
theorem c_X7_pinsOf {l : Launch} {G : GM} (hl : l.stackTraces = false) (hG : GG G) (a1 : Int32) (a2 : Int32) (M : Mem) : ∀ r, f_X7_pinsOf a1 a2 M = some r → Ctr l G yX7_pinsOf (.code yX7_pinsOf cX7_pinsOf 5 (some .int) :: wsA) 7 [.ref (gA G 24), .int a1, .int a2] M (emI r) :=
  ctr_of (by decide) hl hG (Nat.le_of_ble_eq_true rfl) (fun p e s m args below meth c F => b_X7_pinsOf F a1 a2 M)

-- ===== X7_townOf DrumTownsModel.townOf(II)I =====
theorem yv_X7_townOf : yV yX7_townOf cX7_townOf 3 (some .int) 2 := ⟨im_X7_townOf, sl_X7_townOf, ini_X7, cd_X7_townOf, ⟨by decide, by decide, by decide +kernel⟩, by decide⟩

def f_X7_townOf_140 (z1 : Int32) (z2 : Int32) (M : Mem) : Option (Int32 × Mem) := bn (f_X7_owedIn z1 z2 M) fun r140 M140 => some (r140, M140)

set_option maxRecDepth 100000 in
set_option maxHeartbeats 4000000 in
theorem l_X7_townOf_140 {G : GM} {p : Program} {l : Launch} {e : Env} {s : State} {m : MethodId} {args : Array Value} {below : List Frame} {meth : Method} {c : Code} (F : Fx G p l s m args meth c cX7_townOf RX7 3 (some .int)) (z1 : Int32) (z2 : Int32) (M : Mem) : Rf G p l e s m args below meth c 8 3 emI (f_X7_townOf_140  z1 z2 M) 140 [] [.int z2, .int z1, .ref (gA G 24)] M := by
  unfold f_X7_townOf_140
  refine r_cV (val := vI) (As := [.int z1, .int z2]) (rest := []) (fun q9 => .int q9 :: []) F (c_X7_owedIn F.st F.gg z1 z2 M) (fun _ _ => rfl) dX7_townOf_140 ml_X7_177 yv_X7_owedIn (rfl : kd 24 = 7) (by decide) rfl rfl (by decide) rfl (Nat.le_of_ble_eq_true rfl) (fun _ => rfl) (fun r140 M140 => ?_)
  exact r_iret F rfl dX7_townOf_143 rfl

def f_X7_townOf (a1 : Int32) (a2 : Int32) (M : Mem) : Option (Int32 × Mem) := if a2 = 0 then (chk (inb ((0 : Int32) + a1) 3424) <| some ((M.1 25 ((0 : Int32) + a1).toNatClampNeg), M)) else (if a2 = 1 then (bn (f_X7_pinsOf (6 : Int32) a1 M) fun r73 M73 => some (r73, M73)) else (if a2 = 2 then (bn (f_X7_pinsOf (150 : Int32) a1 M) fun r82 M82 => some (r82, M82)) else (if a2 = 3 then (bn (f_X7_rightOf a1 a1 (0 : Int32) M) fun r90 M90 => some (r90, M90)) else (if a2 = 4 then (bn (f_X7_pinsOf (6 : Int32) a1 M) fun r98 M98 => bn (f_X7_rightOf a1 a1 (0 : Int32) M98) fun r105 M105 => some ((r98 - r105), M105)) else (if a2 = 5 then (bn (f_X7_pinsOf (150 : Int32) a1 M) fun r115 M115 => bn (f_X7_rightOf a1 a1 (0 : Int32) M115) fun r122 M122 => some ((r115 - r122), M122)) else (if a2 = 6 then (if a2 = (7 : Int32) then (f_X7_townOf_140  a1 (1 : Int32) M) else (f_X7_townOf_140  a1 (0 : Int32) M)) else (if a2 = 7 then (if a2 = (7 : Int32) then (f_X7_townOf_140  a1 (1 : Int32) M) else (f_X7_townOf_140  a1 (0 : Int32) M)) else (if a2 = 8 then (chk (inb ((402 : Int32) + a1) 3424) <| some ((M.1 25 ((402 : Int32) + a1).toNatClampNeg), M)) else (if a2 = 9 then (chk (inb ((408 : Int32) + a1) 3424) <| some ((M.1 25 ((408 : Int32) + a1).toNatClampNeg), M)) else (if a2 = 10 then (chk (inb ((414 : Int32) + a1) 3424) <| some ((M.1 25 ((414 : Int32) + a1).toNatClampNeg), M)) else (bn (f_X7_dullIn (0 : Int32) a1 M) fun r180 M180 => some (r180, M180))))))))))))

set_option maxRecDepth 100000 in
set_option maxHeartbeats 4000000 in
theorem b_X7_townOf {G : GM} {p : Program} {l : Launch} {e : Env} {s : State} {m : MethodId} {args : Array Value} {below : List Frame} {meth : Method} {c : Code} (F : Fx G p l s m args meth c cX7_townOf RX7 3 (some .int)) (a1 : Int32) (a2 : Int32) (M : Mem) : Rf G p l e s m args below meth c 8 3 emI (f_X7_townOf a1 a2 M) 0 [(0, .ref (gA G 24)), (1, .int a1), (2, .int a2)] [] M := by
  unfold f_X7_townOf
  refine r_iload_n F 2 dX7_townOf_0 rfl rfl ?_
  refine r_ite (fun c1 => ?_) (fun c1 => ?_)
  · refine r_tabIn (tgt := 60) F dX7_townOf_1 c1 (by decide) (by decide) rfl (by decide) ?_
    refine r_aload_n F 0 dX7_townOf_60 rfl rfl ?_
    refine gf_X7_7 F dX7_townOf_61 (rfl : kd 24 = 7) ?_
    refine r_iconst F dX7_townOf_64 (v := 0) (by decide) ?_
    refine r_iload_n F 1 dX7_townOf_65 rfl rfl ?_
    refine r_iadd F dX7_townOf_66 ?_
    refine r_chk (fun h2 => ?_)
    refine r_iald F dX7_townOf_67 (rfl : kd 25 = 8) (rfl : al 25 = 3424) h2 ?_
    exact r_iret F rfl dX7_townOf_68 rfl
  refine r_ite (fun c3 => ?_) (fun c3 => ?_)
  · refine r_tabIn (tgt := 69) F dX7_townOf_1 c3 (by decide) (by decide) rfl (by decide) ?_
    refine r_aload_n F 0 dX7_townOf_69 rfl rfl ?_
    refine r_bipush F dX7_townOf_70 (v := 6) (by decide) ?_
    refine r_iload_n F 1 dX7_townOf_72 rfl rfl ?_
    refine r_cV (val := vI) (As := [.int (6 : Int32), .int a1]) (rest := []) (fun q9 => .int q9 :: []) F (c_X7_pinsOf F.st F.gg (6 : Int32) a1 M) (fun _ _ => rfl) dX7_townOf_73 ml_X7_74 yv_X7_pinsOf (rfl : kd 24 = 7) (by decide) rfl rfl (by decide) rfl (Nat.le_of_ble_eq_true rfl) (fun _ => rfl) (fun r73 M73 => ?_)
    exact r_iret F rfl dX7_townOf_76 rfl
  refine r_ite (fun c4 => ?_) (fun c4 => ?_)
  · refine r_tabIn (tgt := 77) F dX7_townOf_1 c4 (by decide) (by decide) rfl (by decide) ?_
    refine r_aload_n F 0 dX7_townOf_77 rfl rfl ?_
    refine r_sipush F dX7_townOf_78 (v := 150) (by decide) ?_
    refine r_iload_n F 1 dX7_townOf_81 rfl rfl ?_
    refine r_cV (val := vI) (As := [.int (150 : Int32), .int a1]) (rest := []) (fun q9 => .int q9 :: []) F (c_X7_pinsOf F.st F.gg (150 : Int32) a1 M) (fun _ _ => rfl) dX7_townOf_82 ml_X7_74 yv_X7_pinsOf (rfl : kd 24 = 7) (by decide) rfl rfl (by decide) rfl (Nat.le_of_ble_eq_true rfl) (fun _ => rfl) (fun r82 M82 => ?_)
    exact r_iret F rfl dX7_townOf_85 rfl
  refine r_ite (fun c5 => ?_) (fun c5 => ?_)
  · refine r_tabIn (tgt := 86) F dX7_townOf_1 c5 (by decide) (by decide) rfl (by decide) ?_
    refine r_aload_n F 0 dX7_townOf_86 rfl rfl ?_
    refine r_iload_n F 1 dX7_townOf_87 rfl rfl ?_
    refine r_iload_n F 1 dX7_townOf_88 rfl rfl ?_
    refine r_iconst F dX7_townOf_89 (v := 0) (by decide) ?_
    refine r_cV (val := vI) (As := [.int a1, .int a1, .int (0 : Int32)]) (rest := []) (fun q9 => .int q9 :: []) F (c_X7_rightOf F.st F.gg a1 a1 (0 : Int32) M) (fun _ _ => rfl) dX7_townOf_90 ml_X7_78 yv_X7_rightOf (rfl : kd 24 = 7) (by decide) rfl rfl (by decide) rfl (Nat.le_of_ble_eq_true rfl) (fun _ => rfl) (fun r90 M90 => ?_)
    exact r_iret F rfl dX7_townOf_93 rfl
  refine r_ite (fun c6 => ?_) (fun c6 => ?_)
  · refine r_tabIn (tgt := 94) F dX7_townOf_1 c6 (by decide) (by decide) rfl (by decide) ?_
    refine r_aload_n F 0 dX7_townOf_94 rfl rfl ?_
    refine r_bipush F dX7_townOf_95 (v := 6) (by decide) ?_
    refine r_iload_n F 1 dX7_townOf_97 rfl rfl ?_
    refine r_cV (val := vI) (As := [.int (6 : Int32), .int a1]) (rest := []) (fun q9 => .int q9 :: []) F (c_X7_pinsOf F.st F.gg (6 : Int32) a1 M) (fun _ _ => rfl) dX7_townOf_98 ml_X7_74 yv_X7_pinsOf (rfl : kd 24 = 7) (by decide) rfl rfl (by decide) rfl (Nat.le_of_ble_eq_true rfl) (fun _ => rfl) (fun r98 M98 => ?_)
    refine r_aload_n F 0 dX7_townOf_101 rfl rfl ?_
    refine r_iload_n F 1 dX7_townOf_102 rfl rfl ?_
    refine r_iload_n F 1 dX7_townOf_103 rfl rfl ?_
    refine r_iconst F dX7_townOf_104 (v := 0) (by decide) ?_
    refine r_cV (val := vI) (As := [.int a1, .int a1, .int (0 : Int32)]) (rest := [.int r98]) (fun q9 => .int q9 :: [.int r98]) F (c_X7_rightOf F.st F.gg a1 a1 (0 : Int32) M98) (fun _ _ => rfl) dX7_townOf_105 ml_X7_78 yv_X7_rightOf (rfl : kd 24 = 7) (by decide) rfl rfl (by decide) rfl (Nat.le_of_ble_eq_true rfl) (fun _ => rfl) (fun r105 M105 => ?_)
    refine r_isub F dX7_townOf_108 ?_
    exact r_iret F rfl dX7_townOf_109 rfl
  refine r_ite (fun c7 => ?_) (fun c7 => ?_)
  · refine r_tabIn (tgt := 110) F dX7_townOf_1 c7 (by decide) (by decide) rfl (by decide) ?_
    refine r_aload_n F 0 dX7_townOf_110 rfl rfl ?_
    refine r_sipush F dX7_townOf_111 (v := 150) (by decide) ?_
    refine r_iload_n F 1 dX7_townOf_114 rfl rfl ?_
    refine r_cV (val := vI) (As := [.int (150 : Int32), .int a1]) (rest := []) (fun q9 => .int q9 :: []) F (c_X7_pinsOf F.st F.gg (150 : Int32) a1 M) (fun _ _ => rfl) dX7_townOf_115 ml_X7_74 yv_X7_pinsOf (rfl : kd 24 = 7) (by decide) rfl rfl (by decide) rfl (Nat.le_of_ble_eq_true rfl) (fun _ => rfl) (fun r115 M115 => ?_)
    refine r_aload_n F 0 dX7_townOf_118 rfl rfl ?_
    refine r_iload_n F 1 dX7_townOf_119 rfl rfl ?_
    refine r_iload_n F 1 dX7_townOf_120 rfl rfl ?_
    refine r_iconst F dX7_townOf_121 (v := 0) (by decide) ?_
    refine r_cV (val := vI) (As := [.int a1, .int a1, .int (0 : Int32)]) (rest := [.int r115]) (fun q9 => .int q9 :: [.int r115]) F (c_X7_rightOf F.st F.gg a1 a1 (0 : Int32) M115) (fun _ _ => rfl) dX7_townOf_122 ml_X7_78 yv_X7_rightOf (rfl : kd 24 = 7) (by decide) rfl rfl (by decide) rfl (Nat.le_of_ble_eq_true rfl) (fun _ => rfl) (fun r122 M122 => ?_)
    refine r_isub F dX7_townOf_125 ?_
    exact r_iret F rfl dX7_townOf_126 rfl
  refine r_ite (fun c8 => ?_) (fun c8 => ?_)
  · refine r_tabIn (tgt := 127) F dX7_townOf_1 c8 (by decide) (by decide) rfl (by decide) ?_
    refine r_aload_n F 0 dX7_townOf_127 rfl rfl ?_
    refine r_iload_n F 1 dX7_townOf_128 rfl rfl ?_
    refine r_iload_n F 2 dX7_townOf_129 rfl rfl ?_
    refine r_bipush F dX7_townOf_130 (v := 7) (by decide) ?_
    refine r_icmp_ne (tgt := 139) F dX7_townOf_132 (by decide) (fun c9 => ?_) (fun c9 => ?_)
    · refine r_iconst F dX7_townOf_135 (v := 1) (by decide) ?_
      refine r_goto (tgt := 140) F dX7_townOf_136 (by decide) ?_
      refine r_sub [] rfl ?_
      exact l_X7_townOf_140 F   a1 (1 : Int32) M
    · refine r_iconst F dX7_townOf_139 (v := 0) (by decide) ?_
      refine r_sub [] rfl ?_
      exact l_X7_townOf_140 F   a1 (0 : Int32) M
  refine r_ite (fun c10 => ?_) (fun c10 => ?_)
  · refine r_tabIn (tgt := 127) F dX7_townOf_1 c10 (by decide) (by decide) rfl (by decide) ?_
    refine r_aload_n F 0 dX7_townOf_127 rfl rfl ?_
    refine r_iload_n F 1 dX7_townOf_128 rfl rfl ?_
    refine r_iload_n F 2 dX7_townOf_129 rfl rfl ?_
    refine r_bipush F dX7_townOf_130 (v := 7) (by decide) ?_
    refine r_icmp_ne (tgt := 139) F dX7_townOf_132 (by decide) (fun c11 => ?_) (fun c11 => ?_)
    · refine r_iconst F dX7_townOf_135 (v := 1) (by decide) ?_
      refine r_goto (tgt := 140) F dX7_townOf_136 (by decide) ?_
      refine r_sub [] rfl ?_
      exact l_X7_townOf_140 F   a1 (1 : Int32) M
    · refine r_iconst F dX7_townOf_139 (v := 0) (by decide) ?_
      refine r_sub [] rfl ?_
      exact l_X7_townOf_140 F   a1 (0 : Int32) M
  refine r_ite (fun c12 => ?_) (fun c12 => ?_)
  · refine r_tabIn (tgt := 144) F dX7_townOf_1 c12 (by decide) (by decide) rfl (by decide) ?_
    refine r_aload_n F 0 dX7_townOf_144 rfl rfl ?_
    refine gf_X7_7 F dX7_townOf_145 (rfl : kd 24 = 7) ?_
    refine r_sipush F dX7_townOf_148 (v := 402) (by decide) ?_
    refine r_iload_n F 1 dX7_townOf_151 rfl rfl ?_
    refine r_iadd F dX7_townOf_152 ?_
    refine r_chk (fun h13 => ?_)
    refine r_iald F dX7_townOf_153 (rfl : kd 25 = 8) (rfl : al 25 = 3424) h13 ?_
    exact r_iret F rfl dX7_townOf_154 rfl
  refine r_ite (fun c14 => ?_) (fun c14 => ?_)
  · refine r_tabIn (tgt := 155) F dX7_townOf_1 c14 (by decide) (by decide) rfl (by decide) ?_
    refine r_aload_n F 0 dX7_townOf_155 rfl rfl ?_
    refine gf_X7_7 F dX7_townOf_156 (rfl : kd 24 = 7) ?_
    refine r_sipush F dX7_townOf_159 (v := 408) (by decide) ?_
    refine r_iload_n F 1 dX7_townOf_162 rfl rfl ?_
    refine r_iadd F dX7_townOf_163 ?_
    refine r_chk (fun h15 => ?_)
    refine r_iald F dX7_townOf_164 (rfl : kd 25 = 8) (rfl : al 25 = 3424) h15 ?_
    exact r_iret F rfl dX7_townOf_165 rfl
  refine r_ite (fun c16 => ?_) (fun c16 => ?_)
  · refine r_tabIn (tgt := 166) F dX7_townOf_1 c16 (by decide) (by decide) rfl (by decide) ?_
    refine r_aload_n F 0 dX7_townOf_166 rfl rfl ?_
    refine gf_X7_7 F dX7_townOf_167 (rfl : kd 24 = 7) ?_
    refine r_sipush F dX7_townOf_170 (v := 414) (by decide) ?_
    refine r_iload_n F 1 dX7_townOf_173 rfl rfl ?_
    refine r_iadd F dX7_townOf_174 ?_
    refine r_chk (fun h17 => ?_)
    refine r_iald F dX7_townOf_175 (rfl : kd 25 = 8) (rfl : al 25 = 3424) h17 ?_
    exact r_iret F rfl dX7_townOf_176 rfl
  refine r_tabOut (tgt := 177) F dX7_townOf_1 (by have n0 := lv_neT (a := 0) c1 (by decide); have n1 := lv_neT (a := 1) c3 (by decide); have n2 := lv_neT (a := 2) c4 (by decide); have n3 := lv_neT (a := 3) c5 (by decide); have n4 := lv_neT (a := 4) c6 (by decide); have n5 := lv_neT (a := 5) c7 (by decide); have n6 := lv_neT (a := 6) c8 (by decide); have n7 := lv_neT (a := 7) c10 (by decide); have n8 := lv_neT (a := 8) c12 (by decide); have n9 := lv_neT (a := 9) c14 (by decide); have n10 := lv_neT (a := 10) c16 (by decide); omega) (by decide) ?_
  refine r_aload_n F 0 dX7_townOf_177 rfl rfl ?_
  refine r_iconst F dX7_townOf_178 (v := 0) (by decide) ?_
  refine r_iload_n F 1 dX7_townOf_179 rfl rfl ?_
  refine r_cV (val := vI) (As := [.int (0 : Int32), .int a1]) (rest := []) (fun q9 => .int q9 :: []) F (c_X7_dullIn F.st F.gg (0 : Int32) a1 M) (fun _ _ => rfl) dX7_townOf_180 ml_X7_107 yv_X7_dullIn (rfl : kd 24 = 7) (by decide) rfl rfl (by decide) rfl (Nat.le_of_ble_eq_true rfl) (fun _ => rfl) (fun r180 M180 => ?_)
  exact r_iret F rfl dX7_townOf_183 rfl

set_option maxRecDepth 100000 in
set_option maxHeartbeats 4000000 in
theorem c_X7_townOf {l : Launch} {G : GM} (hl : l.stackTraces = false) (hG : GG G) (a1 : Int32) (a2 : Int32) (M : Mem) : ∀ r, f_X7_townOf a1 a2 M = some r → Ctr l G yX7_townOf (.code yX7_townOf cX7_townOf 3 (some .int) :: wsA) 8 [.ref (gA G 24), .int a1, .int a2] M (emI r) :=
  ctr_of (by decide) hl hG (Nat.le_of_ble_eq_true rfl) (fun p e s m args below meth c F => b_X7_townOf F a1 a2 M)

