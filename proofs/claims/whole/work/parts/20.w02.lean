-- ===== X1_tell DrumTowns$Playing.tell(I)I =====
theorem yv_X1_tell : yV yX1_tell cX1_tell 2 (some .int) 1 := ⟨im_X1_tell, sl_X1_tell, ini_X1, cd_X1_tell, ⟨by decide, by decide, by decide +kernel⟩, by decide⟩

def f_X1_tell (a1 : Int32) (M : Mem) : Option (Int32 × Mem) := if a1 = 0 then (some ((M.1 5 6), M)) else (if a1 = 1 then (some ((M.1 5 7), M)) else (if a1 = 2 then (some ((M.1 5 8), M)) else (if a1 = 3 then (some ((M.1 5 9), M)) else (bn (f_X6_dullTeeth 7 (M.1 5 5) M) fun r60 M60 => some (r60, M60)))))

set_option maxRecDepth 100000 in
set_option maxHeartbeats 4000000 in
theorem b_X1_tell {G : GM} {p : Program} {l : Launch} {e : Env} {s : State} {m : MethodId} {args : Array Value} {below : List Frame} {meth : Method} {c : Code} (F : Fx G p l s m args meth c cX1_tell RX1 2 (some .int)) (a1 : Int32) (M : Mem) : Rf G p l e s m args below meth c 7 2 emI (f_X1_tell a1 M) 0 [(0, .ref (gA G 5)), (1, .int a1)] [] M := by
  unfold f_X1_tell
  refine r_iload_n F 1 dX1_tell_0 rfl rfl ?_
  refine r_ite (fun c1 => ?_) (fun c1 => ?_)
  · refine r_tabIn (tgt := 32) F dX1_tell_1 c1 (by decide) (by decide) rfl (by decide) ?_
    refine r_aload_n F 0 dX1_tell_32 rfl rfl ?_
    refine gf_X1_50 F dX1_tell_33 (rfl : kd 5 = 3) ?_
    exact r_iret F rfl dX1_tell_36 rfl
  refine r_ite (fun c2 => ?_) (fun c2 => ?_)
  · refine r_tabIn (tgt := 37) F dX1_tell_1 c2 (by decide) (by decide) rfl (by decide) ?_
    refine r_aload_n F 0 dX1_tell_37 rfl rfl ?_
    refine gf_X1_53 F dX1_tell_38 (rfl : kd 5 = 3) ?_
    exact r_iret F rfl dX1_tell_41 rfl
  refine r_ite (fun c3 => ?_) (fun c3 => ?_)
  · refine r_tabIn (tgt := 42) F dX1_tell_1 c3 (by decide) (by decide) rfl (by decide) ?_
    refine r_aload_n F 0 dX1_tell_42 rfl rfl ?_
    refine gf_X1_56 F dX1_tell_43 (rfl : kd 5 = 3) ?_
    exact r_iret F rfl dX1_tell_46 rfl
  refine r_ite (fun c4 => ?_) (fun c4 => ?_)
  · refine r_tabIn (tgt := 47) F dX1_tell_1 c4 (by decide) (by decide) rfl (by decide) ?_
    refine r_aload_n F 0 dX1_tell_47 rfl rfl ?_
    refine gf_X1_59 F dX1_tell_48 (rfl : kd 5 = 3) ?_
    exact r_iret F rfl dX1_tell_51 rfl
  refine r_tabOut (tgt := 52) F dX1_tell_1 (by have n0 := lv_neT (a := 0) c1 (by decide); have n1 := lv_neT (a := 1) c2 (by decide); have n2 := lv_neT (a := 2) c3 (by decide); have n3 := lv_neT (a := 3) c4 (by decide); omega) (by decide) ?_
  refine r_aload_n F 0 dX1_tell_52 rfl rfl ?_
  refine gf_X1_15 F dX1_tell_53 (rfl : kd 5 = 3) ?_
  refine r_aload_n F 0 dX1_tell_56 rfl rfl ?_
  refine gf_X1_36 F dX1_tell_57 (rfl : kd 5 = 3) ?_
  refine r_cSN (val := vI) (As := [.ref (gA G 7), .int (M.1 5 5)]) (rest := []) (fun q9 => .int q9 :: []) F (c_X6_dullTeeth F.st F.gg 7 (M.1 5 5) M) (fun _ _ => rfl) dX1_tell_60 mn_X1_65 ys_X6_dullTeeth rfl (by decide) rfl (Nat.le_of_ble_eq_true rfl) (fun _ => rfl) (fun r60 M60 => ?_)
  exact r_iret F rfl dX1_tell_63 rfl

set_option maxRecDepth 100000 in
set_option maxHeartbeats 4000000 in
theorem c_X1_tell {l : Launch} {G : GM} (hl : l.stackTraces = false) (hG : GG G) (a1 : Int32) (M : Mem) : ∀ r, f_X1_tell a1 M = some r → Ctr l G yX1_tell (.code yX1_tell cX1_tell 2 (some .int) :: wsA) 7 [.ref (gA G 5), .int a1] M (emI r) :=
  ctr_of (by decide) hl hG (Nat.le_of_ble_eq_true rfl) (fun p e s m args below meth c F => b_X1_tell F a1 M)

-- ===== X2_isClosed DrumTowns$Ring.isClosed(LDrumTowns$Land;[IIII)Z =====
theorem ys_X2_isClosed : yS yX2_isClosed cX2_isClosed 7 (some .boolean) 5 := ⟨sc_X2_isClosed, ini_X2, cd_X2_isClosed, ⟨by decide, by decide, by decide +kernel⟩, by decide⟩

def f_X2_isClosed_16 (kr : Nat → Nat → Int32 → Int32 → Int32 → Mem → Option (Int32 × Mem))  (M : Mem) : Option (Int32 × Mem) := some ((0 : Int32), M)

set_option maxRecDepth 100000 in
set_option maxHeartbeats 4000000 in
theorem l_X2_isClosed_16 {G : GM} {p : Program} {l : Launch} {e : Env} {s : State} {m : MethodId} {args : Array Value} {below : List Frame} {meth : Method} {c : Code} {D9 : Nat} {kr : Nat → Nat → Int32 → Int32 → Int32 → Mem → Option (Int32 × Mem)} (hR : ∀ (a0 : Nat) (a1 : Nat) (a2 : Int32) (a3 : Int32) (a4 : Int32) (M : Mem), ∀ r, kr a0 a1 a2 a3 a4 M = some r → Ctr l G yX2_isClosed (.code yX2_isClosed cX2_isClosed 7 (some .boolean) :: wsA) (D9 + 6) [.ref (gA G a0), .ref (gA G a1), .int a2, .int a3, .int a4] M (emI r)) (F : Fx G p l s m args meth c cX2_isClosed RX2 7 (some .boolean))  (M : Mem) : Rf G p l e s m args below meth c (D9 + 7) 7 emI (f_X2_isClosed_16 kr  M) 16 [] [] M := by
  unfold f_X2_isClosed_16
  refine r_iconst F dX2_isClosed_16 (v := 0) (by decide) ?_
  exact r_zret F rfl dX2_isClosed_17 rfl (by decide)

def f_X2_isClosed_49 (kr : Nat → Nat → Int32 → Int32 → Int32 → Mem → Option (Int32 × Mem)) (z0 : Int32) (M : Mem) : Option (Int32 × Mem) := chk (isb z0) <| some (z0, M)

set_option maxRecDepth 100000 in
set_option maxHeartbeats 4000000 in
theorem l_X2_isClosed_49 {G : GM} {p : Program} {l : Launch} {e : Env} {s : State} {m : MethodId} {args : Array Value} {below : List Frame} {meth : Method} {c : Code} {D9 : Nat} {kr : Nat → Nat → Int32 → Int32 → Int32 → Mem → Option (Int32 × Mem)} (hR : ∀ (a0 : Nat) (a1 : Nat) (a2 : Int32) (a3 : Int32) (a4 : Int32) (M : Mem), ∀ r, kr a0 a1 a2 a3 a4 M = some r → Ctr l G yX2_isClosed (.code yX2_isClosed cX2_isClosed 7 (some .boolean) :: wsA) (D9 + 6) [.ref (gA G a0), .ref (gA G a1), .int a2, .int a3, .int a4] M (emI r)) (F : Fx G p l s m args meth c cX2_isClosed RX2 7 (some .boolean)) (z0 : Int32) (M : Mem) : Rf G p l e s m args below meth c (D9 + 7) 7 emI (f_X2_isClosed_49 kr z0 M) 49 [] [.int z0] M := by
  unfold f_X2_isClosed_49
  refine r_chk (fun h1 => ?_)
  exact r_zret F rfl dX2_isClosed_49 rfl (isb_or h1)

def f_X2_isClosed_115 (kr : Nat → Nat → Int32 → Int32 → Int32 → Mem → Option (Int32 × Mem)) (k57 : Nat → Nat → Int32 → Int32 → Int32 → Int32 → Int32 → Mem → Option (Int32 × Mem)) (y0 : Nat) (y1 : Nat) (y2 : Int32) (y3 : Int32) (y4 : Int32) (y5 : Int32) (y6 : Int32) (M : Mem) : Option (Int32 × Mem) := bnd (y6 + (1 : Int32)) fun x115 => k57 y0 y1 y2 y3 y4 y5 x115 M

set_option maxRecDepth 100000 in
set_option maxHeartbeats 4000000 in
theorem l_X2_isClosed_115 {G : GM} {p : Program} {l : Launch} {e : Env} {s : State} {m : MethodId} {args : Array Value} {below : List Frame} {meth : Method} {c : Code} {D9 : Nat} {kr : Nat → Nat → Int32 → Int32 → Int32 → Mem → Option (Int32 × Mem)} (hR : ∀ (a0 : Nat) (a1 : Nat) (a2 : Int32) (a3 : Int32) (a4 : Int32) (M : Mem), ∀ r, kr a0 a1 a2 a3 a4 M = some r → Ctr l G yX2_isClosed (.code yX2_isClosed cX2_isClosed 7 (some .boolean) :: wsA) (D9 + 6) [.ref (gA G a0), .ref (gA G a1), .int a2, .int a3, .int a4] M (emI r)) (F : Fx G p l s m args meth c cX2_isClosed RX2 7 (some .boolean)) (k57 : Nat → Nat → Int32 → Int32 → Int32 → Int32 → Int32 → Mem → Option (Int32 × Mem)) (H57 : ∀ (y0 : Nat) (y1 : Nat) (y2 : Int32) (y3 : Int32) (y4 : Int32) (y5 : Int32) (y6 : Int32) (M : Mem), Rf G p l e s m args below meth c (D9 + 7) 7 emI (k57 y0 y1 y2 y3 y4 y5 y6 M) 57 [(0, .ref (gA G y0)), (1, .ref (gA G y1)), (2, .int y2), (3, .int y3), (4, .int y4), (5, .int y5), (6, .int y6)] [] M) (y0 : Nat) (y1 : Nat) (y2 : Int32) (y3 : Int32) (y4 : Int32) (y5 : Int32) (y6 : Int32) (M : Mem) : Rf G p l e s m args below meth c (D9 + 7) 7 emI (f_X2_isClosed_115 kr k57 y0 y1 y2 y3 y4 y5 y6 M) 115 [(0, .ref (gA G y0)), (1, .ref (gA G y1)), (2, .int y2), (3, .int y3), (4, .int y4), (5, .int y5), (6, .int y6)] [] M := by
  unfold f_X2_isClosed_115
  refine r_iinc (ls' := fun q9 => [(6, .int q9), (0, .ref (gA G y0)), (1, .ref (gA G y1)), (2, .int y2), (3, .int y3), (4, .int y4), (5, .int y5)]) (k := 6) (v := y6 + (1 : Int32)) F dX2_isClosed_115 rfl rfl (by decide) (fun _ => rfl) (fun x115 => ?_)
  refine r_goto (tgt := 57) F dX2_isClosed_118 (by decide) ?_
  refine r_sub [1, 2, 3, 4, 5, 6, 0] rfl ?_
  exact H57 y0 y1 y2 y3 y4 y5 x115 M

def f_X2_isClosed_57 (kr : Nat → Nat → Int32 → Int32 → Int32 → Mem → Option (Int32 × Mem)) : Nat → Nat → Nat → Int32 → Int32 → Int32 → Int32 → Int32 → Mem → Option (Int32 × Mem)
  | 0, _, _, _, _, _, _, _, _ => none
  | n + 1, y0, y1, y2, y3, y4, y5, y6, M => chk (kb y0 1) <| if (M.1 y0 1) ≤ y6 then (some ((0 : Int32), M)) else (if (y4 &&& ((1 : Int32) <<< (y6 &&& 31))) = 0 then (chk (inb y5 6) <| bnd (rw' (y0 + 3) y5) fun b82 => chk (inb y6 6) <| if (M.1 b82 y6.toNatClampNeg) ≤ 0 then (f_X2_isClosed_115 kr (f_X2_isClosed_57 kr n) y0 y1 y2 y3 y4 y5 y6 M) else (chk (kb y1 8) <| chk (inb y3 (al y1)) <| bnd (mw M y1 y3.toNatClampNeg y6) fun M93 => bn (kr y0 y1 y2 (y3 + (1 : Int32)) (y4 ||| ((1 : Int32) <<< (y6 &&& 31))) M93) fun r107 M107 => if r107 = 0 then (f_X2_isClosed_115 kr (f_X2_isClosed_57 kr n) y0 y1 y2 y3 y4 y5 y6 M107) else (some ((1 : Int32), M107)))) else (f_X2_isClosed_115 kr (f_X2_isClosed_57 kr n) y0 y1 y2 y3 y4 y5 y6 M))

set_option maxRecDepth 100000 in
set_option maxHeartbeats 4000000 in
theorem l_X2_isClosed_57 {G : GM} {p : Program} {l : Launch} {e : Env} {s : State} {m : MethodId} {args : Array Value} {below : List Frame} {meth : Method} {c : Code} {D9 : Nat} {kr : Nat → Nat → Int32 → Int32 → Int32 → Mem → Option (Int32 × Mem)} (hR : ∀ (a0 : Nat) (a1 : Nat) (a2 : Int32) (a3 : Int32) (a4 : Int32) (M : Mem), ∀ r, kr a0 a1 a2 a3 a4 M = some r → Ctr l G yX2_isClosed (.code yX2_isClosed cX2_isClosed 7 (some .boolean) :: wsA) (D9 + 6) [.ref (gA G a0), .ref (gA G a1), .int a2, .int a3, .int a4] M (emI r)) (F : Fx G p l s m args meth c cX2_isClosed RX2 7 (some .boolean)) : ∀ (n : Nat) (y0 : Nat) (y1 : Nat) (y2 : Int32) (y3 : Int32) (y4 : Int32) (y5 : Int32) (y6 : Int32) (M : Mem), Rf G p l e s m args below meth c (D9 + 7) 7 emI (f_X2_isClosed_57 kr n y0 y1 y2 y3 y4 y5 y6 M) 57 [(0, .ref (gA G y0)), (1, .ref (gA G y1)), (2, .int y2), (3, .int y3), (4, .int y4), (5, .int y5), (6, .int y6)] [] M := by
  intro n
  induction n with
  | zero => intros; exact r_none
  | succ n ih =>
    intro y0 y1 y2 y3 y4 y5 y6 M
    rw [f_X2_isClosed_57]
    refine r_iload F 6 dX2_isClosed_57 rfl ?_
    refine r_aload_n F 0 dX2_isClosed_59 rfl rfl ?_
    refine r_chk (fun h1 => ?_)
    refine gf_X2_22 F dX2_isClosed_60 (kb_k h1) ?_
    refine r_icmp_ge (tgt := 121) F dX2_isClosed_63 (by decide) (fun c2 => ?_) (fun c2 => ?_)
    · refine r_iconst F dX2_isClosed_121 (v := 0) (by decide) ?_
      exact r_zret F rfl dX2_isClosed_122 rfl (by decide)
    · refine r_iload F 4 dX2_isClosed_66 rfl ?_
      refine r_iconst F dX2_isClosed_68 (v := 1) (by decide) ?_
      refine r_iload F 6 dX2_isClosed_69 rfl ?_
      refine r_ishl F dX2_isClosed_71 ?_
      refine r_iand F dX2_isClosed_72 ?_
      refine r_if_ne (tgt := 115) F dX2_isClosed_73 (by decide) (fun c3 => ?_) (fun c3 => ?_)
      · refine r_aload_n F 0 dX2_isClosed_76 rfl rfl ?_
        refine gf_X2_31 F dX2_isClosed_77 (kb_k h1) ?_
        refine r_iload F 5 dX2_isClosed_80 rfl ?_
        refine r_chk (fun h4 => ?_)
        refine r_aaldR F dX2_isClosed_82 (kLd (kb_k h1)) h4 ?_
        refine r_bra (kRw (kLd (kb_k h1)) h4) (aRw (kLd (kb_k h1)) h4) (fun b82 k82 k82a => ?_)
        refine r_iload F 6 dX2_isClosed_83 rfl ?_
        refine r_chk (fun h5 => ?_)
        refine r_iald F dX2_isClosed_85 k82 k82a h5 ?_
        refine r_if_le (tgt := 115) F dX2_isClosed_86 (by decide) (fun c6 => ?_) (fun c6 => ?_)
        · refine r_sub [0, 1, 2, 3, 4, 5, 6] rfl ?_
          exact l_X2_isClosed_115 hR F (f_X2_isClosed_57 kr n) (fun q0 q1 q2 q3 q4 q5 q6 M9 => ih q0 q1 q2 q3 q4 q5 q6 M9) y0 y1 y2 y3 y4 y5 y6 M
        · refine r_aload_n F 1 dX2_isClosed_89 rfl rfl ?_
          refine r_iload_n F 3 dX2_isClosed_90 rfl rfl ?_
          refine r_iload F 6 dX2_isClosed_91 rfl ?_
          refine r_chk (fun h7 => ?_)
          refine r_chk (fun h8 => ?_)
          refine r_iast F dX2_isClosed_93 (kb_k h7) rfl h8 (fun M93 => ?_)
          refine r_aload_n F 0 dX2_isClosed_94 rfl rfl ?_
          refine r_aload_n F 1 dX2_isClosed_95 rfl rfl ?_
          refine r_iload_n F 2 dX2_isClosed_96 rfl rfl ?_
          refine r_iload_n F 3 dX2_isClosed_97 rfl rfl ?_
          refine r_iconst F dX2_isClosed_98 (v := 1) (by decide) ?_
          refine r_iadd F dX2_isClosed_99 ?_
          refine r_iload F 4 dX2_isClosed_100 rfl ?_
          refine r_iconst F dX2_isClosed_102 (v := 1) (by decide) ?_
          refine r_iload F 6 dX2_isClosed_103 rfl ?_
          refine r_ishl F dX2_isClosed_105 ?_
          refine r_ior F dX2_isClosed_106 ?_
          refine r_cS (val := vI) (As := [.ref (gA G y0), .ref (gA G y1), .int y2, .int (y3 + (1 : Int32)), .int (y4 ||| ((1 : Int32) <<< (y6 &&& 31)))]) (rest := []) (fun q9 => .int q9 :: []) F (hR y0 y1 y2 (y3 + (1 : Int32)) (y4 ||| ((1 : Int32) <<< (y6 &&& 31))) M93) (fun _ _ => rfl) dX2_isClosed_107 ml_X2_27 ys_X2_isClosed rfl (by omega) rfl (Nat.le_of_ble_eq_true rfl) (fun _ => rfl) (fun r107 M107 => ?_)
          refine r_if_eq (tgt := 115) F dX2_isClosed_110 (by decide) (fun c9 => ?_) (fun c9 => ?_)
          · refine r_sub [0, 1, 2, 3, 4, 5, 6] rfl ?_
            exact l_X2_isClosed_115 hR F (f_X2_isClosed_57 kr n) (fun q0 q1 q2 q3 q4 q5 q6 M9 => ih q0 q1 q2 q3 q4 q5 q6 M9) y0 y1 y2 y3 y4 y5 y6 M107
          · refine r_iconst F dX2_isClosed_113 (v := 1) (by decide) ?_
            exact r_zret F rfl dX2_isClosed_114 rfl (by decide)
      · refine r_sub [0, 1, 2, 3, 4, 5, 6] rfl ?_
        exact l_X2_isClosed_115 hR F (f_X2_isClosed_57 kr n) (fun q0 q1 q2 q3 q4 q5 q6 M9 => ih q0 q1 q2 q3 q4 q5 q6 M9) y0 y1 y2 y3 y4 y5 y6 M

def g_X2_isClosed (kr : Nat → Nat → Int32 → Int32 → Int32 → Mem → Option (Int32 × Mem)) (a0 : Nat) (a1 : Nat) (a2 : Int32) (a3 : Int32) (a4 : Int32) (M : Mem) : Option (Int32 × Mem) := if a3 < (1 : Int32) then (f_X2_isClosed_16 kr   M) else (if a2 < a3 then (f_X2_isClosed_16 kr   M) else (if a2 ≤ (6 : Int32) then (chk (kb a1 8) <| chk (inb (a3 - (1 : Int32)) (al a1)) <| bnd (M.1 a1 (a3 - (1 : Int32)).toNatClampNeg) fun x23 => if a3 = a2 then (chk (kb a0 1) <| chk (inb x23 6) <| bnd (rw' (a0 + 3) x23) fun b36 => chk (inb (0 : Int32) (al a1)) <| chk (inb (M.1 a1 (0 : Int32).toNatClampNeg) 6) <| if (M.1 b36 (M.1 a1 (0 : Int32).toNatClampNeg).toNatClampNeg) ≤ 0 then (f_X2_isClosed_49 kr  (0 : Int32) M) else (f_X2_isClosed_49 kr  (1 : Int32) M)) else (chk (inb (0 : Int32) (al a1)) <| bnd ((M.1 a1 (0 : Int32).toNatClampNeg) + (1 : Int32)) fun x55 => f_X2_isClosed_57 kr  FU a0 a1 a2 a3 a4 x23 x55 M)) else (f_X2_isClosed_16 kr   M)))

set_option maxRecDepth 100000 in
set_option maxHeartbeats 4000000 in
theorem b_X2_isClosed {G : GM} {p : Program} {l : Launch} {e : Env} {s : State} {m : MethodId} {args : Array Value} {below : List Frame} {meth : Method} {c : Code} {D9 : Nat} {kr : Nat → Nat → Int32 → Int32 → Int32 → Mem → Option (Int32 × Mem)} (hR : ∀ (a0 : Nat) (a1 : Nat) (a2 : Int32) (a3 : Int32) (a4 : Int32) (M : Mem), ∀ r, kr a0 a1 a2 a3 a4 M = some r → Ctr l G yX2_isClosed (.code yX2_isClosed cX2_isClosed 7 (some .boolean) :: wsA) (D9 + 6) [.ref (gA G a0), .ref (gA G a1), .int a2, .int a3, .int a4] M (emI r)) (F : Fx G p l s m args meth c cX2_isClosed RX2 7 (some .boolean)) (a0 : Nat) (a1 : Nat) (a2 : Int32) (a3 : Int32) (a4 : Int32) (M : Mem) : Rf G p l e s m args below meth c (D9 + 7) 7 emI (g_X2_isClosed kr a0 a1 a2 a3 a4 M) 0 [(0, .ref (gA G a0)), (1, .ref (gA G a1)), (2, .int a2), (3, .int a3), (4, .int a4)] [] M := by
  unfold g_X2_isClosed
  refine r_iload_n F 3 dX2_isClosed_0 rfl rfl ?_
  refine r_iconst F dX2_isClosed_1 (v := 1) (by decide) ?_
  refine r_icmp_lt (tgt := 16) F dX2_isClosed_2 (by decide) (fun c1 => ?_) (fun c1 => ?_)
  · refine r_sub [] rfl ?_
    exact l_X2_isClosed_16 hR F    M
  · refine r_iload_n F 3 dX2_isClosed_5 rfl rfl ?_
    refine r_iload_n F 2 dX2_isClosed_6 rfl rfl ?_
    refine r_icmp_gt (tgt := 16) F dX2_isClosed_7 (by decide) (fun c2 => ?_) (fun c2 => ?_)
    · refine r_sub [] rfl ?_
      exact l_X2_isClosed_16 hR F    M
    · refine r_iload_n F 2 dX2_isClosed_10 rfl rfl ?_
      refine r_bipush F dX2_isClosed_11 (v := 6) (by decide) ?_
      refine r_icmp_le (tgt := 18) F dX2_isClosed_13 (by decide) (fun c3 => ?_) (fun c3 => ?_)
      · refine r_aload_n F 1 dX2_isClosed_18 rfl rfl ?_
        refine r_iload_n F 3 dX2_isClosed_19 rfl rfl ?_
        refine r_iconst F dX2_isClosed_20 (v := 1) (by decide) ?_
        refine r_isub F dX2_isClosed_21 ?_
        refine r_chk (fun h4 => ?_)
        refine r_chk (fun h5 => ?_)
        refine r_iald F dX2_isClosed_22 (kb_k h4) rfl h5 ?_
        refine r_bi (fun x23 => ?_)
        refine r_istore (ls' := [(5, .int x23), (0, .ref (gA G a0)), (1, .ref (gA G a1)), (2, .int a2), (3, .int a3), (4, .int a4)]) F dX2_isClosed_23 (by decide) rfl ?_
        refine r_iload_n F 4 dX2_isClosed_25 rfl rfl ?_
        refine r_iload_n F 3 dX2_isClosed_26 rfl rfl ?_
        refine r_icmp_ne (tgt := 50) F dX2_isClosed_27 (by decide) (fun c6 => ?_) (fun c6 => ?_)
        · refine r_aload_n F 1 dX2_isClosed_30 rfl rfl ?_
          refine r_chk (fun h7 => ?_)
          refine gf_X2_31 F dX2_isClosed_31 (kb_k h7) ?_
          refine r_iload F 0 dX2_isClosed_34 rfl ?_
          refine r_chk (fun h8 => ?_)
          refine r_aaldR F dX2_isClosed_36 (kLd (kb_k h7)) h8 ?_
          refine r_bra (kRw (kLd (kb_k h7)) h8) (aRw (kLd (kb_k h7)) h8) (fun b36 k36 k36a => ?_)
          refine r_aload_n F 2 dX2_isClosed_37 rfl rfl ?_
          refine r_iconst F dX2_isClosed_38 (v := 0) (by decide) ?_
          refine r_chk (fun h9 => ?_)
          refine r_iald F dX2_isClosed_39 (kb_k h4) rfl h9 ?_
          refine r_chk (fun h10 => ?_)
          refine r_iald F dX2_isClosed_40 k36 k36a h10 ?_
          refine r_if_le (tgt := 48) F dX2_isClosed_41 (by decide) (fun c11 => ?_) (fun c11 => ?_)
          · refine r_iconst F dX2_isClosed_48 (v := 0) (by decide) ?_
            refine r_sub [] rfl ?_
            exact l_X2_isClosed_49 hR F   (0 : Int32) M
          · refine r_iconst F dX2_isClosed_44 (v := 1) (by decide) ?_
            refine r_goto (tgt := 49) F dX2_isClosed_45 (by decide) ?_
            refine r_sub [] rfl ?_
            exact l_X2_isClosed_49 hR F   (1 : Int32) M
        · refine r_aload_n F 2 dX2_isClosed_50 rfl rfl ?_
          refine r_iconst F dX2_isClosed_51 (v := 0) (by decide) ?_
          refine r_chk (fun h12 => ?_)
          refine r_iald F dX2_isClosed_52 (kb_k h4) rfl h12 ?_
          refine r_iconst F dX2_isClosed_53 (v := 1) (by decide) ?_
          refine r_iadd F dX2_isClosed_54 ?_
          refine r_bi (fun x55 => ?_)
          refine r_istore (ls' := [(6, .int x55), (5, .int x23), (0, .ref (gA G a0)), (1, .ref (gA G a1)), (2, .int a2), (3, .int a3), (4, .int a4)]) F dX2_isClosed_55 (by decide) rfl ?_
          refine r_sub [2, 3, 4, 5, 6, 1, 0] rfl ?_
          exact l_X2_isClosed_57 hR F   FU a0 a1 a2 a3 a4 x23 x55 M
      · refine r_sub [] rfl ?_
        exact l_X2_isClosed_16 hR F    M

def f_X2_isClosed : Nat → Nat → Nat → Int32 → Int32 → Int32 → Mem → Option (Int32 × Mem)
  | 0, _, _, _, _, _, _ => none
  | n + 1, a0, a1, a2, a3, a4, M => g_X2_isClosed (f_X2_isClosed n) a0 a1 a2 a3 a4 M

set_option maxRecDepth 100000 in
set_option maxHeartbeats 4000000 in
theorem c_X2_isClosed {l : Launch} {G : GM} (hl : l.stackTraces = false) (hG : GG G) : ∀ (n : Nat) (a0 : Nat) (a1 : Nat) (a2 : Int32) (a3 : Int32) (a4 : Int32) (M : Mem), ∀ r, f_X2_isClosed n a0 a1 a2 a3 a4 M = some r → Ctr l G yX2_isClosed (.code yX2_isClosed cX2_isClosed 7 (some .boolean) :: wsA) (n + 6) [.ref (gA G a0), .ref (gA G a1), .int a2, .int a3, .int a4] M (emI r) := by
  intro n
  induction n with
  | zero => intro a0 a1 a2 a3 a4 M r h; cases h
  | succ n ih =>
    intro a0 a1 a2 a3 a4 M
    exact ctr_of (by decide) hl hG (Nat.le_of_ble_eq_true rfl) (fun p e s m args below meth c F => b_X2_isClosed ih F a0 a1 a2 a3 a4 M)

-- ===== X2_leastDebt DrumTowns$Ring.leastDebt([[I)I =====
theorem yv_X2_leastDebt : yV yX2_leastDebt cX2_leastDebt 4 (some .int) 1 := ⟨im_X2_leastDebt, sl_X2_leastDebt, ini_X2, cd_X2_leastDebt, ⟨by decide, by decide, by decide +kernel⟩, by decide⟩

def f_X2_leastDebt_17 : Nat → Nat → Int32 → Int32 → Mem → Option (Int32 × Mem)
  | 0, _, _, _, _ => none
  | n + 1, y1, y2, y3, M => if (M.1 10 1) ≤ y3 then (some (y2, M)) else (chk (inb y3 6) <| chk (kb y1 11) <| chk (inb (M.1 11 y3.toNatClampNeg) 6) <| bnd (rw' y1 (M.1 11 y3.toNatClampNeg)) fun b33 => bn (f_X2_following y3 M) fun r36 M36 => chk (inb r36 6) <| bnd (if (M36.1 b33 r36.toNatClampNeg) < y2 then (M36.1 b33 r36.toNatClampNeg) else y2) fun x43 => bnd (y3 + (1 : Int32)) fun x44 => f_X2_leastDebt_17  n y1 x43 x44 M36)

set_option maxRecDepth 100000 in
set_option maxHeartbeats 4000000 in
theorem l_X2_leastDebt_17 {G : GM} {p : Program} {l : Launch} {e : Env} {s : State} {m : MethodId} {args : Array Value} {below : List Frame} {meth : Method} {c : Code} (F : Fx G p l s m args meth c cX2_leastDebt RX2 4 (some .int)) : ∀ (n : Nat) (y1 : Nat) (y2 : Int32) (y3 : Int32) (M : Mem), Rf G p l e s m args below meth c 7 4 emI (f_X2_leastDebt_17  n y1 y2 y3 M) 17 [(0, .ref (gA G 10)), (1, .ref (gA G y1)), (2, .int y2), (3, .int y3)] [] M := by
  intro n
  induction n with
  | zero => intros; exact r_none
  | succ n ih =>
    intro y1 y2 y3 M
    rw [f_X2_leastDebt_17]
    refine r_iload_n F 3 dX2_leastDebt_17 rfl rfl ?_
    refine r_aload_n F 0 dX2_leastDebt_18 rfl rfl ?_
    refine gf_X2_15 F dX2_leastDebt_19 (rfl : kd 10 = 4) ?_
    refine r_icmp_ge (tgt := 50) F dX2_leastDebt_22 (by decide) (fun c1 => ?_) (fun c1 => ?_)
    · refine r_iload_n F 2 dX2_leastDebt_50 rfl rfl ?_
      exact r_iret F rfl dX2_leastDebt_51 rfl
    · refine r_iload_n F 2 dX2_leastDebt_25 rfl rfl ?_
      refine r_aload_n F 1 dX2_leastDebt_26 rfl rfl ?_
      refine r_aload_n F 0 dX2_leastDebt_27 rfl rfl ?_
      refine gf_X2_9 F dX2_leastDebt_28 (rfl : kd 10 = 4) ?_
      refine r_iload_n F 3 dX2_leastDebt_31 rfl rfl ?_
      refine r_chk (fun h2 => ?_)
      refine r_iald F dX2_leastDebt_32 (rfl : kd 11 = 8) (rfl : al 11 = 6) h2 ?_
      refine r_chk (fun h3 => ?_)
      refine r_chk (fun h4 => ?_)
      refine r_aaldR F dX2_leastDebt_33 (kb_k h3) h4 ?_
      refine r_bra (kRw (kb_k h3) h4) (aRw (kb_k h3) h4) (fun b33 k33 k33a => ?_)
      refine r_aload_n F 0 dX2_leastDebt_34 rfl rfl ?_
      refine r_iload_n F 3 dX2_leastDebt_35 rfl rfl ?_
      refine r_cV (val := vI) (As := [.int y3]) (rest := [.ref (gA G b33), .int y2]) (fun q9 => .int q9 :: [.ref (gA G b33), .int y2]) F (c_X2_following F.st F.gg y3 M) (fun _ _ => rfl) dX2_leastDebt_36 ml_X2_39 yv_X2_following (rfl : kd 10 = 4) (by decide) rfl rfl (by decide) rfl (Nat.le_of_ble_eq_true rfl) (fun _ => rfl) (fun r36 M36 => ?_)
      refine r_chk (fun h5 => ?_)
      refine r_iald F dX2_leastDebt_39 k33 k33a h5 ?_
      refine r_min F dX2_leastDebt_40 ml_X2_43 ⟨sc_min, ini_J9, cd_min⟩ (by decide) (Nat.le_of_ble_eq_true rfl) ?_
      refine r_bi (fun x43 => ?_)
      refine r_istore_n (ls' := [(2, .int x43), (0, .ref (gA G 10)), (1, .ref (gA G y1)), (3, .int y3)]) F dX2_leastDebt_43 rfl (by decide) rfl ?_
      refine r_iinc (ls' := fun q9 => [(3, .int q9), (2, .int x43), (0, .ref (gA G 10)), (1, .ref (gA G y1))]) (k := 3) (v := y3 + (1 : Int32)) F dX2_leastDebt_44 rfl rfl (by decide) (fun _ => rfl) (fun x44 => ?_)
      refine r_goto (tgt := 17) F dX2_leastDebt_47 (by decide) ?_
      refine r_sub [2, 3, 1, 0] rfl ?_
      exact ih y1 x43 x44 M36

def f_X2_leastDebt (a1 : Nat) (M : Mem) : Option (Int32 × Mem) := chk (inb (0 : Int32) 6) <| chk (kb a1 11) <| chk (inb (M.1 11 (0 : Int32).toNatClampNeg) 6) <| bnd (rw' a1 (M.1 11 (0 : Int32).toNatClampNeg)) fun b7 => bn (f_X2_following (0 : Int32) M) fun r10 M10 => chk (inb r10 6) <| bnd (M10.1 b7 r10.toNatClampNeg) fun x14 => f_X2_leastDebt_17  FU a1 x14 (1 : Int32) M10

set_option maxRecDepth 100000 in
set_option maxHeartbeats 4000000 in
theorem b_X2_leastDebt {G : GM} {p : Program} {l : Launch} {e : Env} {s : State} {m : MethodId} {args : Array Value} {below : List Frame} {meth : Method} {c : Code} (F : Fx G p l s m args meth c cX2_leastDebt RX2 4 (some .int)) (a1 : Nat) (M : Mem) : Rf G p l e s m args below meth c 7 4 emI (f_X2_leastDebt a1 M) 0 [(0, .ref (gA G 10)), (1, .ref (gA G a1))] [] M := by
  unfold f_X2_leastDebt
  refine r_aload_n F 1 dX2_leastDebt_0 rfl rfl ?_
  refine r_aload_n F 0 dX2_leastDebt_1 rfl rfl ?_
  refine gf_X2_9 F dX2_leastDebt_2 (rfl : kd 10 = 4) ?_
  refine r_iconst F dX2_leastDebt_5 (v := 0) (by decide) ?_
  refine r_chk (fun h1 => ?_)
  refine r_iald F dX2_leastDebt_6 (rfl : kd 11 = 8) (rfl : al 11 = 6) h1 ?_
  refine r_chk (fun h2 => ?_)
  refine r_chk (fun h3 => ?_)
  refine r_aaldR F dX2_leastDebt_7 (kb_k h2) h3 ?_
  refine r_bra (kRw (kb_k h2) h3) (aRw (kb_k h2) h3) (fun b7 k7 k7a => ?_)
  refine r_aload_n F 0 dX2_leastDebt_8 rfl rfl ?_
  refine r_iconst F dX2_leastDebt_9 (v := 0) (by decide) ?_
  refine r_cV (val := vI) (As := [.int (0 : Int32)]) (rest := [.ref (gA G b7)]) (fun q9 => .int q9 :: [.ref (gA G b7)]) F (c_X2_following F.st F.gg (0 : Int32) M) (fun _ _ => rfl) dX2_leastDebt_10 ml_X2_39 yv_X2_following (rfl : kd 10 = 4) (by decide) rfl rfl (by decide) rfl (Nat.le_of_ble_eq_true rfl) (fun _ => rfl) (fun r10 M10 => ?_)
  refine r_chk (fun h4 => ?_)
  refine r_iald F dX2_leastDebt_13 k7 k7a h4 ?_
  refine r_bi (fun x14 => ?_)
  refine r_istore_n (ls' := [(2, .int x14), (0, .ref (gA G 10)), (1, .ref (gA G a1))]) F dX2_leastDebt_14 rfl (by decide) rfl ?_
  refine r_iconst F dX2_leastDebt_15 (v := 1) (by decide) ?_
  refine r_istore_n (ls' := [(3, .int (1 : Int32)), (2, .int x14), (0, .ref (gA G 10)), (1, .ref (gA G a1))]) F dX2_leastDebt_16 rfl (by decide) rfl ?_
  refine r_sub [2, 3, 1, 0] rfl ?_
  exact l_X2_leastDebt_17 F   FU a1 x14 (1 : Int32) M10

set_option maxRecDepth 100000 in
set_option maxHeartbeats 4000000 in
theorem c_X2_leastDebt {l : Launch} {G : GM} (hl : l.stackTraces = false) (hG : GG G) (a1 : Nat) (M : Mem) : ∀ r, f_X2_leastDebt a1 M = some r → Ctr l G yX2_leastDebt (.code yX2_leastDebt cX2_leastDebt 4 (some .int) :: wsA) 7 [.ref (gA G 10), .ref (gA G a1)] M (emI r) :=
  ctr_of (by decide) hl hG (Nat.le_of_ble_eq_true rfl) (fun p e s m args below meth c F => b_X2_leastDebt F a1 M)

-- ===== X2_find DrumTowns$Ring.find(LDrumTowns$Land;)V =====
theorem yv_X2_find : yV yX2_find cX2_find 4 none 1 := ⟨im_X2_find, sl_X2_find, ini_X2, cd_X2_find, ⟨by decide, by decide, by decide +kernel⟩, by decide⟩

def f_X2_find_22 (k12 : Nat → Int32 → Mem → Option (Unit × Mem)) : Nat → Nat → Int32 → Int32 → Mem → Option (Unit × Mem)
  | 0, _, _, _, _ => none
  | n + 1, y1, y2, y3, M => chk (kb y1 1) <| if (M.1 y1 1) ≤ y3 then (bnd (y2 + (1 : Int32)) fun x77 => k12 y1 x77 M) else (chk (inb (0 : Int32) 6) <| bnd (mw M 11 (0 : Int32).toNatClampNeg y3) fun M36 => bn (f_X2_isClosed 8 y1 11 y2 (1 : Int32) ((1 : Int32) <<< (y3 &&& 31)) M36) fun r47 M47 => if r47 = 0 then (bnd (y3 + (1 : Int32)) fun x71 => f_X2_find_22 k12 n y1 y2 x71 M47) else (bnd (mw M47 10 1 y2) fun M55 => bn (f_X2_leastDebt (y1 + 3) M55) fun r64 M64 => bnd (mw M64 10 2 r64) fun M67 => some ((), M67)))

set_option maxRecDepth 100000 in
set_option maxHeartbeats 4000000 in
theorem l_X2_find_22 {G : GM} {p : Program} {l : Launch} {e : Env} {s : State} {m : MethodId} {args : Array Value} {below : List Frame} {meth : Method} {c : Code} (F : Fx G p l s m args meth c cX2_find RX2 4 none) (k12 : Nat → Int32 → Mem → Option (Unit × Mem)) (H12 : ∀ (y1 : Nat) (y2 : Int32) (M : Mem), Rf G p l e s m args below meth c 16 4 emV (k12 y1 y2 M) 12 [(0, .ref (gA G 10)), (1, .ref (gA G y1)), (2, .int y2)] [] M) : ∀ (n : Nat) (y1 : Nat) (y2 : Int32) (y3 : Int32) (M : Mem), Rf G p l e s m args below meth c 16 4 emV (f_X2_find_22 k12 n y1 y2 y3 M) 22 [(0, .ref (gA G 10)), (1, .ref (gA G y1)), (2, .int y2), (3, .int y3)] [] M := by
  intro n
  induction n with
  | zero => intros; exact r_none
  | succ n ih =>
    intro y1 y2 y3 M
    rw [f_X2_find_22]
    refine r_iload_n F 3 dX2_find_22 rfl rfl ?_
    refine r_aload_n F 1 dX2_find_23 rfl rfl ?_
    refine r_chk (fun h1 => ?_)
    refine gf_X2_22 F dX2_find_24 (kb_k h1) ?_
    refine r_icmp_ge (tgt := 77) F dX2_find_27 (by decide) (fun c2 => ?_) (fun c2 => ?_)
    · refine r_iinc (ls' := fun q9 => [(2, .int q9), (0, .ref (gA G 10)), (1, .ref (gA G y1)), (3, .int y3)]) (k := 2) (v := y2 + (1 : Int32)) F dX2_find_77 rfl rfl (by decide) (fun _ => rfl) (fun x77 => ?_)
      refine r_goto (tgt := 12) F dX2_find_80 (by decide) ?_
      refine r_sub [1, 2, 0] rfl ?_
      exact H12 y1 x77 M
    · refine r_aload_n F 0 dX2_find_30 rfl rfl ?_
      refine gf_X2_9 F dX2_find_31 (rfl : kd 10 = 4) ?_
      refine r_iconst F dX2_find_34 (v := 0) (by decide) ?_
      refine r_iload_n F 3 dX2_find_35 rfl rfl ?_
      refine r_chk (fun h3 => ?_)
      refine r_iast F dX2_find_36 (rfl : kd 11 = 8) (rfl : al 11 = 6) h3 (fun M36 => ?_)
      refine r_aload_n F 1 dX2_find_37 rfl rfl ?_
      refine r_aload_n F 0 dX2_find_38 rfl rfl ?_
      refine gf_X2_9 F dX2_find_39 (rfl : kd 10 = 4) ?_
      refine r_iload_n F 2 dX2_find_42 rfl rfl ?_
      refine r_iconst F dX2_find_43 (v := 1) (by decide) ?_
      refine r_iconst F dX2_find_44 (v := 1) (by decide) ?_
      refine r_iload_n F 3 dX2_find_45 rfl rfl ?_
      refine r_ishl F dX2_find_46 ?_
      refine r_cS (val := vI) (As := [.ref (gA G y1), .ref (gA G 11), .int y2, .int (1 : Int32), .int ((1 : Int32) <<< (y3 &&& 31))]) (rest := []) (fun q9 => .int q9 :: []) F (c_X2_isClosed F.st F.gg 8 y1 11 y2 (1 : Int32) ((1 : Int32) <<< (y3 &&& 31)) M36) (fun _ _ => rfl) dX2_find_47 ml_X2_27 ys_X2_isClosed rfl (by decide) rfl (Nat.le_of_ble_eq_true rfl) (fun _ => rfl) (fun r47 M47 => ?_)
      refine r_if_eq (tgt := 71) F dX2_find_50 (by decide) (fun c4 => ?_) (fun c4 => ?_)
      · refine r_iinc (ls' := fun q9 => [(3, .int q9), (0, .ref (gA G 10)), (1, .ref (gA G y1)), (2, .int y2)]) (k := 3) (v := y3 + (1 : Int32)) F dX2_find_71 rfl rfl (by decide) (fun _ => rfl) (fun x71 => ?_)
        refine r_goto (tgt := 22) F dX2_find_74 (by decide) ?_
        refine r_sub [1, 2, 3, 0] rfl ?_
        exact ih y1 y2 x71 M47
      · refine r_aload_n F 0 dX2_find_53 rfl rfl ?_
        refine r_iload_n F 2 dX2_find_54 rfl rfl ?_
        refine pf_X2_15 F dX2_find_55 (rfl : kd 10 = 4) (fun M55 => ?_)
        refine r_aload_n F 0 dX2_find_58 rfl rfl ?_
        refine r_aload_n F 0 dX2_find_59 rfl rfl ?_
        refine r_aload_n F 1 dX2_find_60 rfl rfl ?_
        refine gf_X2_31 F dX2_find_61 (kb_k h1) ?_
        refine r_cV (val := vI) (As := [.ref (gA G (y1 + 3))]) (rest := [.ref (gA G 10)]) (fun q9 => .int q9 :: [.ref (gA G 10)]) F (c_X2_leastDebt F.st F.gg (y1 + 3) M55) (fun _ _ => rfl) dX2_find_64 ml_X2_35 yv_X2_leastDebt (rfl : kd 10 = 4) (by decide) rfl rfl (by decide) rfl (Nat.le_of_ble_eq_true rfl) (fun _ => rfl) (fun r64 M64 => ?_)
        refine pf_X2_19 F dX2_find_67 (rfl : kd 10 = 4) (fun M67 => ?_)
        exact r_vret F rfl dX2_find_70 rfl

def f_X2_find_12 : Nat → Nat → Int32 → Mem → Option (Unit × Mem)
  | 0, _, _, _ => none
  | n + 1, y1, y2, M => chk (kb y1 1) <| if (M.1 y1 1) < y2 then (some ((), M)) else (f_X2_find_22 (f_X2_find_12  n) FU y1 y2 (0 : Int32) M)

set_option maxRecDepth 100000 in
set_option maxHeartbeats 4000000 in
theorem l_X2_find_12 {G : GM} {p : Program} {l : Launch} {e : Env} {s : State} {m : MethodId} {args : Array Value} {below : List Frame} {meth : Method} {c : Code} (F : Fx G p l s m args meth c cX2_find RX2 4 none) : ∀ (n : Nat) (y1 : Nat) (y2 : Int32) (M : Mem), Rf G p l e s m args below meth c 16 4 emV (f_X2_find_12  n y1 y2 M) 12 [(0, .ref (gA G 10)), (1, .ref (gA G y1)), (2, .int y2)] [] M := by
  intro n
  induction n with
  | zero => intros; exact r_none
  | succ n ih =>
    intro y1 y2 M
    rw [f_X2_find_12]
    refine r_iload_n F 2 dX2_find_12 rfl rfl ?_
    refine r_aload_n F 1 dX2_find_13 rfl rfl ?_
    refine r_chk (fun h1 => ?_)
    refine gf_X2_22 F dX2_find_14 (kb_k h1) ?_
    refine r_icmp_gt (tgt := 83) F dX2_find_17 (by decide) (fun c2 => ?_) (fun c2 => ?_)
    · exact r_vret F rfl dX2_find_83 rfl
    · refine r_iconst F dX2_find_20 (v := 0) (by decide) ?_
      refine r_istore_n (ls' := [(3, .int (0 : Int32)), (0, .ref (gA G 10)), (1, .ref (gA G y1)), (2, .int y2)]) F dX2_find_21 rfl (by decide) rfl ?_
      refine r_sub [1, 2, 3, 0] rfl ?_
      exact l_X2_find_22 F (f_X2_find_12  n) (fun q0 q1 M9 => ih q0 q1 M9) FU y1 y2 (0 : Int32) M

def f_X2_find (a1 : Nat) (M : Mem) : Option (Unit × Mem) := bnd (mw M 10 1 (0 : Int32)) fun M2 => bnd (mw M2 10 2 (0 : Int32)) fun M7 => f_X2_find_12  FU a1 (2 : Int32) M7

set_option maxRecDepth 100000 in
set_option maxHeartbeats 4000000 in
theorem b_X2_find {G : GM} {p : Program} {l : Launch} {e : Env} {s : State} {m : MethodId} {args : Array Value} {below : List Frame} {meth : Method} {c : Code} (F : Fx G p l s m args meth c cX2_find RX2 4 none) (a1 : Nat) (M : Mem) : Rf G p l e s m args below meth c 16 4 emV (f_X2_find a1 M) 0 [(0, .ref (gA G 10)), (1, .ref (gA G a1))] [] M := by
  unfold f_X2_find
  refine r_aload_n F 0 dX2_find_0 rfl rfl ?_
  refine r_iconst F dX2_find_1 (v := 0) (by decide) ?_
  refine pf_X2_15 F dX2_find_2 (rfl : kd 10 = 4) (fun M2 => ?_)
  refine r_aload_n F 0 dX2_find_5 rfl rfl ?_
  refine r_iconst F dX2_find_6 (v := 0) (by decide) ?_
  refine pf_X2_19 F dX2_find_7 (rfl : kd 10 = 4) (fun M7 => ?_)
  refine r_iconst F dX2_find_10 (v := 2) (by decide) ?_
  refine r_istore_n (ls' := [(2, .int (2 : Int32)), (0, .ref (gA G 10)), (1, .ref (gA G a1))]) F dX2_find_11 rfl (by decide) rfl ?_
  refine r_sub [1, 2, 0] rfl ?_
  exact l_X2_find_12 F   FU a1 (2 : Int32) M7

set_option maxRecDepth 100000 in
set_option maxHeartbeats 4000000 in
theorem c_X2_find {l : Launch} {G : GM} (hl : l.stackTraces = false) (hG : GG G) (a1 : Nat) (M : Mem) : ∀ r, f_X2_find a1 M = some r → Ctr l G yX2_find (.code yX2_find cX2_find 4 none :: wsA) 16 [.ref (gA G 10), .ref (gA G a1)] M (emV r) :=
  ctr_of (by decide) hl hG (Nat.le_of_ble_eq_true rfl) (fun p e s m args below meth c F => b_X2_find F a1 M)

-- ===== X2_tell DrumTowns$Ring.tell(I)I =====
theorem yv_X2_tell : yV yX2_tell cX2_tell 3 (some .int) 1 := ⟨im_X2_tell, sl_X2_tell, ini_X2, cd_X2_tell, ⟨by decide, by decide, by decide +kernel⟩, by decide⟩

def f_X2_tell_30 (z0 : Int32) (M : Mem) : Option (Int32 × Mem) := some (z0, M)

set_option maxRecDepth 100000 in
set_option maxHeartbeats 4000000 in
theorem l_X2_tell_30 {G : GM} {p : Program} {l : Launch} {e : Env} {s : State} {m : MethodId} {args : Array Value} {below : List Frame} {meth : Method} {c : Code} (F : Fx G p l s m args meth c cX2_tell RX2 3 (some .int)) (z0 : Int32) (M : Mem) : Rf G p l e s m args below meth c 6 3 emI (f_X2_tell_30  z0 M) 30 [] [.int z0] M := by
  unfold f_X2_tell_30
  exact r_iret F rfl dX2_tell_30 rfl

def f_X2_tell_54 (z0 : Int32) (M : Mem) : Option (Int32 × Mem) := some (z0, M)

set_option maxRecDepth 100000 in
set_option maxHeartbeats 4000000 in
theorem l_X2_tell_54 {G : GM} {p : Program} {l : Launch} {e : Env} {s : State} {m : MethodId} {args : Array Value} {below : List Frame} {meth : Method} {c : Code} (F : Fx G p l s m args meth c cX2_tell RX2 3 (some .int)) (z0 : Int32) (M : Mem) : Rf G p l e s m args below meth c 6 3 emI (f_X2_tell_54  z0 M) 54 [] [.int z0] M := by
  unfold f_X2_tell_54
  exact r_iret F rfl dX2_tell_54 rfl

def f_X2_tell (a1 : Int32) (M : Mem) : Option (Int32 × Mem) := if (M.1 10 1) = 0 then (some ((-1 : Int32), M)) else (if (10 : Int32) ≤ a1 then (bnd (a1 - (10 : Int32)) fun x35 => if (M.1 10 1) ≤ x35 then (f_X2_tell_54  (-1 : Int32) M) else (chk (inb x35 6) <| f_X2_tell_54  (M.1 11 x35.toNatClampNeg) M)) else (if a1 = 0 then (f_X2_tell_30  (M.1 10 1) M) else (f_X2_tell_30  (M.1 10 2) M)))

set_option maxRecDepth 100000 in
set_option maxHeartbeats 4000000 in
theorem b_X2_tell {G : GM} {p : Program} {l : Launch} {e : Env} {s : State} {m : MethodId} {args : Array Value} {below : List Frame} {meth : Method} {c : Code} (F : Fx G p l s m args meth c cX2_tell RX2 3 (some .int)) (a1 : Int32) (M : Mem) : Rf G p l e s m args below meth c 6 3 emI (f_X2_tell a1 M) 0 [(0, .ref (gA G 10)), (1, .int a1)] [] M := by
  unfold f_X2_tell
  refine r_aload_n F 0 dX2_tell_0 rfl rfl ?_
  refine gf_X2_15 F dX2_tell_1 (rfl : kd 10 = 4) ?_
  refine r_if_ne (tgt := 9) F dX2_tell_4 (by decide) (fun c1 => ?_) (fun c1 => ?_)
  · refine r_iconst F dX2_tell_7 (v := -1) (by decide) ?_
    exact r_iret F rfl dX2_tell_8 rfl
  · refine r_iload_n F 1 dX2_tell_9 rfl rfl ?_
    refine r_bipush F dX2_tell_10 (v := 10) (by decide) ?_
    refine r_icmp_ge (tgt := 31) F dX2_tell_12 (by decide) (fun c2 => ?_) (fun c2 => ?_)
    · refine r_iload_n F 1 dX2_tell_31 rfl rfl ?_
      refine r_bipush F dX2_tell_32 (v := 10) (by decide) ?_
      refine r_isub F dX2_tell_34 ?_
      refine r_bi (fun x35 => ?_)
      refine r_istore_n (ls' := [(2, .int x35), (0, .ref (gA G 10)), (1, .int a1)]) F dX2_tell_35 rfl (by decide) rfl ?_
      refine r_iload_n F 0 dX2_tell_36 rfl rfl ?_
      refine r_aload_n F 1 dX2_tell_37 rfl rfl ?_
      refine gf_X2_15 F dX2_tell_38 (rfl : kd 10 = 4) ?_
      refine r_icmp_ge (tgt := 53) F dX2_tell_41 (by decide) (fun c3 => ?_) (fun c3 => ?_)
      · refine r_iconst F dX2_tell_53 (v := -1) (by decide) ?_
        refine r_sub [] rfl ?_
        exact l_X2_tell_54 F   (-1 : Int32) M
      · refine r_aload_n F 1 dX2_tell_44 rfl rfl ?_
        refine gf_X2_9 F dX2_tell_45 (rfl : kd 10 = 4) ?_
        refine r_iload_n F 0 dX2_tell_48 rfl rfl ?_
        refine r_chk (fun h4 => ?_)
        refine r_iald F dX2_tell_49 (rfl : kd 11 = 8) (rfl : al 11 = 6) h4 ?_
        refine r_goto (tgt := 54) F dX2_tell_50 (by decide) ?_
        refine r_sub [] rfl ?_
        exact l_X2_tell_54 F   (M.1 11 x35.toNatClampNeg) M
    · refine r_iload_n F 1 dX2_tell_15 rfl rfl ?_
      refine r_if_ne (tgt := 26) F dX2_tell_16 (by decide) (fun c5 => ?_) (fun c5 => ?_)
      · refine r_aload_n F 0 dX2_tell_19 rfl rfl ?_
        refine gf_X2_15 F dX2_tell_20 (rfl : kd 10 = 4) ?_
        refine r_goto (tgt := 30) F dX2_tell_23 (by decide) ?_
        refine r_sub [] rfl ?_
        exact l_X2_tell_30 F   (M.1 10 1) M
      · refine r_aload_n F 0 dX2_tell_26 rfl rfl ?_
        refine gf_X2_19 F dX2_tell_27 (rfl : kd 10 = 4) ?_
        refine r_sub [] rfl ?_
        exact l_X2_tell_30 F   (M.1 10 2) M

set_option maxRecDepth 100000 in
set_option maxHeartbeats 4000000 in
theorem c_X2_tell {l : Launch} {G : GM} (hl : l.stackTraces = false) (hG : GG G) (a1 : Int32) (M : Mem) : ∀ r, f_X2_tell a1 M = some r → Ctr l G yX2_tell (.code yX2_tell cX2_tell 3 (some .int) :: wsA) 6 [.ref (gA G 10), .int a1] M (emI r) :=
  ctr_of (by decide) hl hG (Nat.le_of_ble_eq_true rfl) (fun p e s m args below meth c F => b_X2_tell F a1 M)

-- ===== X3_hasPin DrumTowns$Town.hasPin(II)Z =====
theorem yv_X3_hasPin : yV yX3_hasPin cX3_hasPin 3 (some .boolean) 2 := ⟨im_X3_hasPin, sl_X3_hasPin, ini_X3, cd_X3_hasPin, ⟨by decide, by decide, by decide +kernel⟩, by decide⟩

def f_X3_hasPin_18 (z0 : Int32) (M : Mem) : Option (Int32 × Mem) := chk (isb z0) <| some (z0, M)

set_option maxRecDepth 100000 in
set_option maxHeartbeats 4000000 in
theorem l_X3_hasPin_18 {G : GM} {p : Program} {l : Launch} {e : Env} {s : State} {m : MethodId} {args : Array Value} {below : List Frame} {meth : Method} {c : Code} (F : Fx G p l s m args meth c cX3_hasPin RX3 3 (some .boolean)) (z0 : Int32) (M : Mem) : Rf G p l e s m args below meth c 6 3 emI (f_X3_hasPin_18  z0 M) 18 [] [.int z0] M := by
  unfold f_X3_hasPin_18
  refine r_chk (fun h1 => ?_)
  exact r_zret F rfl dX3_hasPin_18 rfl (isb_or h1)

def f_X3_hasPin (a0 : Nat) (a1 : Int32) (a2 : Int32) (M : Mem) : Option (Int32 × Mem) := chk (kb a0 2) <| chk (inb a1 24) <| if ((M.1 (a0 + 1) a1.toNatClampNeg) &&& ((1 : Int32) <<< (a2 &&& 31))) = 0 then (f_X3_hasPin_18  (0 : Int32) M) else (f_X3_hasPin_18  (1 : Int32) M)

set_option maxRecDepth 100000 in
set_option maxHeartbeats 4000000 in
theorem b_X3_hasPin {G : GM} {p : Program} {l : Launch} {e : Env} {s : State} {m : MethodId} {args : Array Value} {below : List Frame} {meth : Method} {c : Code} (F : Fx G p l s m args meth c cX3_hasPin RX3 3 (some .boolean)) (a0 : Nat) (a1 : Int32) (a2 : Int32) (M : Mem) : Rf G p l e s m args below meth c 6 3 emI (f_X3_hasPin a0 a1 a2 M) 0 [(0, .ref (gA G a0)), (1, .int a1), (2, .int a2)] [] M := by
  unfold f_X3_hasPin
  refine r_aload_n F 0 dX3_hasPin_0 rfl rfl ?_
  refine r_chk (fun h1 => ?_)
  refine gf_X3_9 F dX3_hasPin_1 (kb_k h1) ?_
  refine r_iload_n F 1 dX3_hasPin_4 rfl rfl ?_
  refine r_chk (fun h2 => ?_)
  refine r_iald F dX3_hasPin_5 (kTd (kb_k h1)) (aTd (kb_k h1)) h2 ?_
  refine r_iconst F dX3_hasPin_6 (v := 1) (by decide) ?_
  refine r_iload_n F 2 dX3_hasPin_7 rfl rfl ?_
  refine r_ishl F dX3_hasPin_8 ?_
  refine r_iand F dX3_hasPin_9 ?_
  refine r_if_eq (tgt := 17) F dX3_hasPin_10 (by decide) (fun c3 => ?_) (fun c3 => ?_)
  · refine r_iconst F dX3_hasPin_17 (v := 0) (by decide) ?_
    refine r_sub [] rfl ?_
    exact l_X3_hasPin_18 F   (0 : Int32) M
  · refine r_iconst F dX3_hasPin_13 (v := 1) (by decide) ?_
    refine r_goto (tgt := 18) F dX3_hasPin_14 (by decide) ?_
    refine r_sub [] rfl ?_
    exact l_X3_hasPin_18 F   (1 : Int32) M

set_option maxRecDepth 100000 in
set_option maxHeartbeats 4000000 in
theorem c_X3_hasPin {l : Launch} {G : GM} (hl : l.stackTraces = false) (hG : GG G) (a0 : Nat) (a1 : Int32) (a2 : Int32) (M : Mem) : ∀ r, f_X3_hasPin a0 a1 a2 M = some r → Ctr l G yX3_hasPin (.code yX3_hasPin cX3_hasPin 3 (some .boolean) :: wsA) 6 [.ref (gA G a0), .int a1, .int a2] M (emI r) :=
  ctr_of (by decide) hl hG (Nat.le_of_ble_eq_true rfl) (fun p e s m args below meth c F => b_X3_hasPin F a0 a1 a2 M)

-- ===== X3_rightIfTurned DrumTowns$Town.rightIfTurned(I)I =====
theorem yv_X3_rightIfTurned : yV yX3_rightIfTurned cX3_rightIfTurned 4 (some .int) 1 := ⟨im_X3_rightIfTurned, sl_X3_rightIfTurned, ini_X3, cd_X3_rightIfTurned, ⟨by decide, by decide, by decide +kernel⟩, by decide⟩

def f_X3_rightIfTurned_4 : Nat → Nat → Int32 → Int32 → Int32 → Mem → Option (Int32 × Mem)
  | 0, _, _, _, _, _ => none
  | n + 1, y0, y1, y2, y3, M => if (24 : Int32) ≤ y3 then (some (y2, M)) else (chk (kb y0 2) <| chk (inb y3 24) <| chk (inb ((y3 + y1) - (y3 + y1) / (24 : Int32) * (24 : Int32)) 24) <| bn (f_J6_bitCount_0f7a4 ((M.1 (y0 + 1) y3.toNatClampNeg) &&& (M.1 (y0 + 2) ((y3 + y1) - (y3 + y1) / (24 : Int32) * (24 : Int32)).toNatClampNeg)) M) fun r29 M29 => bnd (y2 + r29) fun x33 => bnd (y3 + (1 : Int32)) fun x34 => f_X3_rightIfTurned_4  n y0 y1 x33 x34 M29)

set_option maxRecDepth 100000 in
set_option maxHeartbeats 4000000 in
theorem l_X3_rightIfTurned_4 {G : GM} {p : Program} {l : Launch} {e : Env} {s : State} {m : MethodId} {args : Array Value} {below : List Frame} {meth : Method} {c : Code} (F : Fx G p l s m args meth c cX3_rightIfTurned RX3 4 (some .int)) : ∀ (n : Nat) (y0 : Nat) (y1 : Int32) (y2 : Int32) (y3 : Int32) (M : Mem), Rf G p l e s m args below meth c 7 4 emI (f_X3_rightIfTurned_4  n y0 y1 y2 y3 M) 4 [(0, .ref (gA G y0)), (1, .int y1), (2, .int y2), (3, .int y3)] [] M := by
  intro n
  induction n with
  | zero => intros; exact r_none
  | succ n ih =>
    intro y0 y1 y2 y3 M
    rw [f_X3_rightIfTurned_4]
    refine r_iload_n F 3 dX3_rightIfTurned_4 rfl rfl ?_
    refine r_bipush F dX3_rightIfTurned_5 (v := 24) (by decide) ?_
    refine r_icmp_ge (tgt := 40) F dX3_rightIfTurned_7 (by decide) (fun c1 => ?_) (fun c1 => ?_)
    · refine r_iload_n F 2 dX3_rightIfTurned_40 rfl rfl ?_
      exact r_iret F rfl dX3_rightIfTurned_41 rfl
    · refine r_iload_n F 2 dX3_rightIfTurned_10 rfl rfl ?_
      refine r_aload_n F 0 dX3_rightIfTurned_11 rfl rfl ?_
      refine r_chk (fun h2 => ?_)
      refine gf_X3_9 F dX3_rightIfTurned_12 (kb_k h2) ?_
      refine r_iload_n F 3 dX3_rightIfTurned_15 rfl rfl ?_
      refine r_chk (fun h3 => ?_)
      refine r_iald F dX3_rightIfTurned_16 (kTd (kb_k h2)) (aTd (kb_k h2)) h3 ?_
      refine r_aload_n F 0 dX3_rightIfTurned_17 rfl rfl ?_
      refine gf_X3_15 F dX3_rightIfTurned_18 (kb_k h2) ?_
      refine r_iload_n F 3 dX3_rightIfTurned_21 rfl rfl ?_
      refine r_iload_n F 1 dX3_rightIfTurned_22 rfl rfl ?_
      refine r_iadd F dX3_rightIfTurned_23 ?_
      refine r_bipush F dX3_rightIfTurned_24 (v := 24) (by decide) ?_
      refine r_irem F dX3_rightIfTurned_26 (by decide) ?_
      refine r_chk (fun h4 => ?_)
      refine r_iald F dX3_rightIfTurned_27 (kTt (kb_k h2)) (aTt (kb_k h2)) h4 ?_
      refine r_iand F dX3_rightIfTurned_28 ?_
      refine r_cS (val := vI) (As := [.int ((M.1 (y0 + 1) y3.toNatClampNeg) &&& (M.1 (y0 + 2) ((y3 + y1) - (y3 + y1) / (24 : Int32) * (24 : Int32)).toNatClampNeg))]) (rest := [.int y2]) (fun q9 => .int q9 :: [.int y2]) F (c_J6_bitCount_0f7a4 F.st F.gg ((M.1 (y0 + 1) y3.toNatClampNeg) &&& (M.1 (y0 + 2) ((y3 + y1) - (y3 + y1) / (24 : Int32) * (24 : Int32)).toNatClampNeg)) M) (fun _ _ => rfl) dX3_rightIfTurned_29 ml_X3_25 ys_J6_bitCount_0f7a4 rfl (by decide) rfl (Nat.le_of_ble_eq_true rfl) (fun _ => rfl) (fun r29 M29 => ?_)
      refine r_iadd F dX3_rightIfTurned_32 ?_
      refine r_bi (fun x33 => ?_)
      refine r_istore_n (ls' := [(2, .int x33), (0, .ref (gA G y0)), (1, .int y1), (3, .int y3)]) F dX3_rightIfTurned_33 rfl (by decide) rfl ?_
      refine r_iinc (ls' := fun q9 => [(3, .int q9), (2, .int x33), (0, .ref (gA G y0)), (1, .int y1)]) (k := 3) (v := y3 + (1 : Int32)) F dX3_rightIfTurned_34 rfl rfl (by decide) (fun _ => rfl) (fun x34 => ?_)
      refine r_goto (tgt := 4) F dX3_rightIfTurned_37 (by decide) ?_
      refine r_sub [2, 3, 1, 0] rfl ?_
      exact ih y0 y1 x33 x34 M29

def f_X3_rightIfTurned (a0 : Nat) (a1 : Int32) (M : Mem) : Option (Int32 × Mem) := f_X3_rightIfTurned_4  FU a0 a1 (0 : Int32) (0 : Int32) M

set_option maxRecDepth 100000 in
set_option maxHeartbeats 4000000 in
theorem b_X3_rightIfTurned {G : GM} {p : Program} {l : Launch} {e : Env} {s : State} {m : MethodId} {args : Array Value} {below : List Frame} {meth : Method} {c : Code} (F : Fx G p l s m args meth c cX3_rightIfTurned RX3 4 (some .int)) (a0 : Nat) (a1 : Int32) (M : Mem) : Rf G p l e s m args below meth c 7 4 emI (f_X3_rightIfTurned a0 a1 M) 0 [(0, .ref (gA G a0)), (1, .int a1)] [] M := by
  unfold f_X3_rightIfTurned
  refine r_iconst F dX3_rightIfTurned_0 (v := 0) (by decide) ?_
  refine r_istore_n (ls' := [(2, .int (0 : Int32)), (0, .ref (gA G a0)), (1, .int a1)]) F dX3_rightIfTurned_1 rfl (by decide) rfl ?_
  refine r_iconst F dX3_rightIfTurned_2 (v := 0) (by decide) ?_
  refine r_istore_n (ls' := [(3, .int (0 : Int32)), (2, .int (0 : Int32)), (0, .ref (gA G a0)), (1, .int a1)]) F dX3_rightIfTurned_3 rfl (by decide) rfl ?_
  refine r_sub [2, 3, 1, 0] rfl ?_
  exact l_X3_rightIfTurned_4 F   FU a0 a1 (0 : Int32) (0 : Int32) M

set_option maxRecDepth 100000 in
set_option maxHeartbeats 4000000 in
theorem c_X3_rightIfTurned {l : Launch} {G : GM} (hl : l.stackTraces = false) (hG : GG G) (a0 : Nat) (a1 : Int32) (M : Mem) : ∀ r, f_X3_rightIfTurned a0 a1 M = some r → Ctr l G yX3_rightIfTurned (.code yX3_rightIfTurned cX3_rightIfTurned 4 (some .int) :: wsA) 7 [.ref (gA G a0), .int a1] M (emI r) :=
  ctr_of (by decide) hl hG (Nat.le_of_ble_eq_true rfl) (fun p e s m args below meth c F => b_X3_rightIfTurned F a0 a1 M)

-- ===== X3_takeOver DrumTowns$Town.takeOver(LDrumTowns$Playing;)V =====
theorem yv_X3_takeOver : yV yX3_takeOver cX3_takeOver 2 none 1 := ⟨im_X3_takeOver, sl_X3_takeOver, ini_X3, cd_X3_takeOver, ⟨by decide, by decide, by decide +kernel⟩, by decide⟩

def f_X3_takeOver (a0 : Nat) (M : Mem) : Option (Unit × Mem) := chk (kb a0 2) <| bn (f_X6_copyRow 6 (a0 + 1) M) fun _ M8 => bn (f_X6_copyRow 7 (a0 + 3) M8) fun _ M19 => bnd (mw M19 a0 0 ((M19.1 a0 0) + (M19.1 5 8))) fun M32 => bnd (mw M32 a0 4 ((M32.1 a0 4) + (1 : Int32))) fun M42 => bnd (mw M42 a0 5 ((M42.1 a0 5) + (M42.1 5 6))) fun M55 => bnd (mw M55 a0 6 ((M55.1 a0 6) + (M55.1 5 8))) fun M68 => some ((), M68)

set_option maxRecDepth 100000 in
set_option maxHeartbeats 4000000 in
theorem b_X3_takeOver {G : GM} {p : Program} {l : Launch} {e : Env} {s : State} {m : MethodId} {args : Array Value} {below : List Frame} {meth : Method} {c : Code} (F : Fx G p l s m args meth c cX3_takeOver RX3 2 none) (a0 : Nat) (M : Mem) : Rf G p l e s m args below meth c 7 2 emV (f_X3_takeOver a0 M) 0 [(0, .ref (gA G a0)), (1, .ref (gA G 5))] [] M := by
  unfold f_X3_takeOver
  refine r_aload_n F 1 dX3_takeOver_0 rfl rfl ?_
  refine gf_X3_31 F dX3_takeOver_1 (rfl : kd 5 = 3) ?_
  refine r_aload_n F 0 dX3_takeOver_4 rfl rfl ?_
  refine r_chk (fun h1 => ?_)
  refine gf_X3_9 F dX3_takeOver_5 (kb_k h1) ?_
  refine r_cSN (val := vU) (As := [.ref (gA G 6), .ref (gA G (a0 + 1))]) (rest := []) (fun _ => []) F (c_X6_copyRow F.st F.gg 6 (a0 + 1) M) (fun _ _ => rfl) dX3_takeOver_8 mn_X3_34 ys_X6_copyRow rfl (by decide) rfl (Nat.le_of_ble_eq_true rfl) (fun _ => rfl) (fun _ M8 => ?_)
  refine r_aload_n F 1 dX3_takeOver_11 rfl rfl ?_
  refine gf_X3_38 F dX3_takeOver_12 (rfl : kd 5 = 3) ?_
  refine r_aload_n F 0 dX3_takeOver_15 rfl rfl ?_
  refine gf_X3_18 F dX3_takeOver_16 (kb_k h1) ?_
  refine r_cSN (val := vU) (As := [.ref (gA G 7), .ref (gA G (a0 + 3))]) (rest := []) (fun _ => []) F (c_X6_copyRow F.st F.gg 7 (a0 + 3) M8) (fun _ _ => rfl) dX3_takeOver_19 mn_X3_34 ys_X6_copyRow rfl (by decide) rfl (Nat.le_of_ble_eq_true rfl) (fun _ => rfl) (fun _ M19 => ?_)
  refine r_aload_n F 0 dX3_takeOver_22 rfl rfl ?_
  refine r_dup F dX3_takeOver_23 rfl ?_
  refine gf_X3_39 F dX3_takeOver_24 (kb_k h1) ?_
  refine r_aload_n F 1 dX3_takeOver_27 rfl rfl ?_
  refine gf_X3_43 F dX3_takeOver_28 (rfl : kd 5 = 3) ?_
  refine r_iadd F dX3_takeOver_31 ?_
  refine pf_X3_39 F dX3_takeOver_32 (kb_k h1) (fun M32 => ?_)
  refine r_aload_n F 0 dX3_takeOver_35 rfl rfl ?_
  refine r_dup F dX3_takeOver_36 rfl ?_
  refine gf_X3_46 F dX3_takeOver_37 (kb_k h1) ?_
  refine r_iconst F dX3_takeOver_40 (v := 1) (by decide) ?_
  refine r_iadd F dX3_takeOver_41 ?_
  refine pf_X3_46 F dX3_takeOver_42 (kb_k h1) (fun M42 => ?_)
  refine r_aload_n F 0 dX3_takeOver_45 rfl rfl ?_
  refine r_dup F dX3_takeOver_46 rfl ?_
  refine gf_X3_49 F dX3_takeOver_47 (kb_k h1) ?_
  refine r_aload_n F 1 dX3_takeOver_50 rfl rfl ?_
  refine gf_X3_52 F dX3_takeOver_51 (rfl : kd 5 = 3) ?_
  refine r_iadd F dX3_takeOver_54 ?_
  refine pf_X3_49 F dX3_takeOver_55 (kb_k h1) (fun M55 => ?_)
  refine r_aload_n F 0 dX3_takeOver_58 rfl rfl ?_
  refine r_dup F dX3_takeOver_59 rfl ?_
  refine gf_X3_53 F dX3_takeOver_60 (kb_k h1) ?_
  refine r_aload_n F 1 dX3_takeOver_63 rfl rfl ?_
  refine gf_X3_43 F dX3_takeOver_64 (rfl : kd 5 = 3) ?_
  refine r_iadd F dX3_takeOver_67 ?_
  refine pf_X3_53 F dX3_takeOver_68 (kb_k h1) (fun M68 => ?_)
  exact r_vret F rfl dX3_takeOver_71 rfl

set_option maxRecDepth 100000 in
set_option maxHeartbeats 4000000 in
theorem c_X3_takeOver {l : Launch} {G : GM} (hl : l.stackTraces = false) (hG : GG G) (a0 : Nat) (M : Mem) : ∀ r, f_X3_takeOver a0 M = some r → Ctr l G yX3_takeOver (.code yX3_takeOver cX3_takeOver 2 none :: wsA) 7 [.ref (gA G a0), .ref (gA G 5)] M (emV r) :=
  ctr_of (by decide) hl hG (Nat.le_of_ble_eq_true rfl) (fun p e s m args below meth c F => b_X3_takeOver F a0 M)

-- ===== X4_broughtBy DrumTowns$Trades.broughtBy(III)I =====
theorem yv_X4_broughtBy : yV yX4_broughtBy cX4_broughtBy 4 (some .int) 3 := ⟨im_X4_broughtBy, sl_X4_broughtBy, ini_X4, cd_X4_broughtBy, ⟨by decide, by decide, by decide +kernel⟩, by decide⟩

def f_X4_broughtBy (a1 : Int32) (a2 : Int32) (a3 : Int32) (M : Mem) : Option (Int32 × Mem) := chk (inb a1 6) <| bnd (rw' 13 a1) fun b5 => chk (inb a2 6) <| chk (inb (a3 ||| ((1 : Int32) <<< (a2 &&& 31))) 64) <| some (((M.1 b5 a2.toNatClampNeg) + (M.1 20 (a3 ||| ((1 : Int32) <<< (a2 &&& 31))).toNatClampNeg)), M)

set_option maxRecDepth 100000 in
set_option maxHeartbeats 4000000 in
theorem b_X4_broughtBy {G : GM} {p : Program} {l : Launch} {e : Env} {s : State} {m : MethodId} {args : Array Value} {below : List Frame} {meth : Method} {c : Code} (F : Fx G p l s m args meth c cX4_broughtBy RX4 4 (some .int)) (a1 : Int32) (a2 : Int32) (a3 : Int32) (M : Mem) : Rf G p l e s m args below meth c 6 4 emI (f_X4_broughtBy a1 a2 a3 M) 0 [(0, .ref (gA G 12)), (1, .int a1), (2, .int a2), (3, .int a3)] [] M := by
  unfold f_X4_broughtBy
  refine r_aload_n F 0 dX4_broughtBy_0 rfl rfl ?_
  refine gf_X4_11 F dX4_broughtBy_1 (rfl : kd 12 = 5) ?_
  refine r_iload_n F 1 dX4_broughtBy_4 rfl rfl ?_
  refine r_chk (fun h1 => ?_)
  refine r_aaldR F dX4_broughtBy_5 (rfl : kd 13 = 11) h1 ?_
  refine r_bra (kRw (rfl : kd 13 = 11) h1) (aRw (rfl : kd 13 = 11) h1) (fun b5 k5 k5a => ?_)
  refine r_iload_n F 2 dX4_broughtBy_6 rfl rfl ?_
  refine r_chk (fun h2 => ?_)
  refine r_iald F dX4_broughtBy_7 k5 k5a h2 ?_
  refine r_aload_n F 0 dX4_broughtBy_8 rfl rfl ?_
  refine gf_X4_16 F dX4_broughtBy_9 (rfl : kd 12 = 5) ?_
  refine r_iload_n F 3 dX4_broughtBy_12 rfl rfl ?_
  refine r_iconst F dX4_broughtBy_13 (v := 1) (by decide) ?_
  refine r_iload_n F 2 dX4_broughtBy_14 rfl rfl ?_
  refine r_ishl F dX4_broughtBy_15 ?_
  refine r_ior F dX4_broughtBy_16 ?_
  refine r_chk (fun h3 => ?_)
  refine r_iald F dX4_broughtBy_17 (rfl : kd 20 = 8) (rfl : al 20 = 64) h3 ?_
  refine r_iadd F dX4_broughtBy_18 ?_
  exact r_iret F rfl dX4_broughtBy_19 rfl

set_option maxRecDepth 100000 in
set_option maxHeartbeats 4000000 in
theorem c_X4_broughtBy {l : Launch} {G : GM} (hl : l.stackTraces = false) (hG : GG G) (a1 : Int32) (a2 : Int32) (a3 : Int32) (M : Mem) : ∀ r, f_X4_broughtBy a1 a2 a3 M = some r → Ctr l G yX4_broughtBy (.code yX4_broughtBy cX4_broughtBy 4 (some .int) :: wsA) 6 [.ref (gA G 12), .int a1, .int a2, .int a3] M (emI r) :=
  ctr_of (by decide) hl hG (Nat.le_of_ble_eq_true rfl) (fun p e s m args below meth c F => b_X4_broughtBy F a1 a2 a3 M)

-- ===== X4_firstBest DrumTowns$Trades.firstBest(I)I =====
theorem yv_X4_firstBest : yV yX4_firstBest cX4_firstBest 6 (some .int) 1 := ⟨im_X4_firstBest, sl_X4_firstBest, ini_X4, cd_X4_firstBest, ⟨by decide, by decide, by decide +kernel⟩, by decide⟩

def f_X4_firstBest_57 (k13 : Int32 → Int32 → Int32 → Int32 → Int32 → Mem → Option (Int32 × Mem)) (y1 : Int32) (y2 : Int32) (y3 : Int32) (y4 : Int32) (y5 : Int32) (M : Mem) : Option (Int32 × Mem) := bnd (y5 + (1 : Int32)) fun x57 => k13 y1 y2 y3 y4 x57 M

set_option maxRecDepth 100000 in
set_option maxHeartbeats 4000000 in
theorem l_X4_firstBest_57 {G : GM} {p : Program} {l : Launch} {e : Env} {s : State} {m : MethodId} {args : Array Value} {below : List Frame} {meth : Method} {c : Code} (F : Fx G p l s m args meth c cX4_firstBest RX4 6 (some .int)) (k13 : Int32 → Int32 → Int32 → Int32 → Int32 → Mem → Option (Int32 × Mem)) (H13 : ∀ (y1 : Int32) (y2 : Int32) (y3 : Int32) (y4 : Int32) (y5 : Int32) (M : Mem), Rf G p l e s m args below meth c 7 6 emI (k13 y1 y2 y3 y4 y5 M) 13 [(0, .ref (gA G 12)), (1, .int y1), (2, .int y2), (3, .int y3), (4, .int y4), (5, .int y5)] [] M) (y1 : Int32) (y2 : Int32) (y3 : Int32) (y4 : Int32) (y5 : Int32) (M : Mem) : Rf G p l e s m args below meth c 7 6 emI (f_X4_firstBest_57 k13 y1 y2 y3 y4 y5 M) 57 [(0, .ref (gA G 12)), (1, .int y1), (2, .int y2), (3, .int y3), (4, .int y4), (5, .int y5)] [] M := by
  unfold f_X4_firstBest_57
  refine r_iinc (ls' := fun q9 => [(5, .int q9), (0, .ref (gA G 12)), (1, .int y1), (2, .int y2), (3, .int y3), (4, .int y4)]) (k := 5) (v := y5 + (1 : Int32)) F dX4_firstBest_57 rfl rfl (by decide) (fun _ => rfl) (fun x57 => ?_)
  refine r_goto (tgt := 13) F dX4_firstBest_60 (by decide) ?_
  refine r_sub [1, 2, 3, 4, 5, 0] rfl ?_
  exact H13 y1 y2 y3 y4 x57 M

def f_X4_firstBest_13 : Nat → Int32 → Int32 → Int32 → Int32 → Int32 → Mem → Option (Int32 × Mem)
  | 0, _, _, _, _, _, _ => none
  | n + 1, y1, y2, y3, y4, y5, M => if (M.1 12 3) ≤ y5 then (some (y3, M)) else (if (y1 &&& ((1 : Int32) <<< (y5 &&& 31))) = 0 then (bn (f_X4_broughtBy y2 y5 y1 M) fun r36 M36 => if r36 ≤ y4 then (f_X4_firstBest_57 (f_X4_firstBest_13  n) y1 y2 y3 y4 y5 M36) else (bn (f_X4_broughtBy y2 y5 y1 M36) fun r52 M52 => f_X4_firstBest_57 (f_X4_firstBest_13  n) y1 y2 y5 r52 y5 M52)) else (f_X4_firstBest_57 (f_X4_firstBest_13  n) y1 y2 y3 y4 y5 M))

set_option maxRecDepth 100000 in
set_option maxHeartbeats 4000000 in
theorem l_X4_firstBest_13 {G : GM} {p : Program} {l : Launch} {e : Env} {s : State} {m : MethodId} {args : Array Value} {below : List Frame} {meth : Method} {c : Code} (F : Fx G p l s m args meth c cX4_firstBest RX4 6 (some .int)) : ∀ (n : Nat) (y1 : Int32) (y2 : Int32) (y3 : Int32) (y4 : Int32) (y5 : Int32) (M : Mem), Rf G p l e s m args below meth c 7 6 emI (f_X4_firstBest_13  n y1 y2 y3 y4 y5 M) 13 [(0, .ref (gA G 12)), (1, .int y1), (2, .int y2), (3, .int y3), (4, .int y4), (5, .int y5)] [] M := by
  intro n
  induction n with
  | zero => intros; exact r_none
  | succ n ih =>
    intro y1 y2 y3 y4 y5 M
    rw [f_X4_firstBest_13]
    refine r_iload F 5 dX4_firstBest_13 rfl ?_
    refine r_aload_n F 0 dX4_firstBest_15 rfl rfl ?_
    refine gf_X4_29 F dX4_firstBest_16 (rfl : kd 12 = 5) ?_
    refine r_icmp_ge (tgt := 63) F dX4_firstBest_19 (by decide) (fun c1 => ?_) (fun c1 => ?_)
    · refine r_iload_n F 3 dX4_firstBest_63 rfl rfl ?_
      exact r_iret F rfl dX4_firstBest_64 rfl
    · refine r_iload_n F 1 dX4_firstBest_22 rfl rfl ?_
      refine r_iconst F dX4_firstBest_23 (v := 1) (by decide) ?_
      refine r_iload F 5 dX4_firstBest_24 rfl ?_
      refine r_ishl F dX4_firstBest_26 ?_
      refine r_iand F dX4_firstBest_27 ?_
      refine r_if_ne (tgt := 57) F dX4_firstBest_28 (by decide) (fun c2 => ?_) (fun c2 => ?_)
      · refine r_aload_n F 0 dX4_firstBest_31 rfl rfl ?_
        refine r_iload_n F 2 dX4_firstBest_32 rfl rfl ?_
        refine r_iload F 5 dX4_firstBest_33 rfl ?_
        refine r_iload_n F 1 dX4_firstBest_35 rfl rfl ?_
        refine r_cV (val := vI) (As := [.int y2, .int y5, .int y1]) (rest := []) (fun q9 => .int q9 :: []) F (c_X4_broughtBy F.st F.gg y2 y5 y1 M) (fun _ _ => rfl) dX4_firstBest_36 ml_X4_55 yv_X4_broughtBy (rfl : kd 12 = 5) (by decide) rfl rfl (by decide) rfl (Nat.le_of_ble_eq_true rfl) (fun _ => rfl) (fun r36 M36 => ?_)
        refine r_iload F 4 dX4_firstBest_39 rfl ?_
        refine r_icmp_le (tgt := 57) F dX4_firstBest_41 (by decide) (fun c3 => ?_) (fun c3 => ?_)
        · refine r_sub [0, 1, 2, 3, 4, 5] rfl ?_
          exact l_X4_firstBest_57 F (f_X4_firstBest_13  n) (fun q0 q1 q2 q3 q4 M9 => ih q0 q1 q2 q3 q4 M9) y1 y2 y3 y4 y5 M36
        · refine r_iload F 5 dX4_firstBest_44 rfl ?_
          refine r_istore_n (ls' := [(3, .int y5), (0, .ref (gA G 12)), (1, .int y1), (2, .int y2), (4, .int y4), (5, .int y5)]) F dX4_firstBest_46 rfl (by decide) rfl ?_
          refine r_aload_n F 1 dX4_firstBest_47 rfl rfl ?_
          refine r_iload_n F 3 dX4_firstBest_48 rfl rfl ?_
          refine r_iload F 5 dX4_firstBest_49 rfl ?_
          refine r_iload_n F 2 dX4_firstBest_51 rfl rfl ?_
          refine r_cV (val := vI) (As := [.int y2, .int y5, .int y1]) (rest := []) (fun q9 => .int q9 :: []) F (c_X4_broughtBy F.st F.gg y2 y5 y1 M36) (fun _ _ => rfl) dX4_firstBest_52 ml_X4_55 yv_X4_broughtBy (rfl : kd 12 = 5) (by decide) rfl rfl (by decide) rfl (Nat.le_of_ble_eq_true rfl) (fun _ => rfl) (fun r52 M52 => ?_)
          refine r_istore (ls' := [(4, .int r52), (3, .int y5), (0, .ref (gA G 12)), (1, .int y1), (2, .int y2), (5, .int y5)]) F dX4_firstBest_55 (by decide) rfl ?_
          refine r_sub [2, 3, 4, 1, 0, 5] rfl ?_
          exact l_X4_firstBest_57 F (f_X4_firstBest_13  n) (fun q0 q1 q2 q3 q4 M9 => ih q0 q1 q2 q3 q4 M9) y1 y2 y5 r52 y5 M52
      · refine r_sub [0, 1, 2, 3, 4, 5] rfl ?_
        exact l_X4_firstBest_57 F (f_X4_firstBest_13  n) (fun q0 q1 q2 q3 q4 M9 => ih q0 q1 q2 q3 q4 M9) y1 y2 y3 y4 y5 M

def f_X4_firstBest (a1 : Int32) (M : Mem) : Option (Int32 × Mem) := bn (f_J6_bitCount_0f7a4 a1 M) fun r1 M1 => f_X4_firstBest_13  FU a1 r1 (0 : Int32) (-1 : Int32) (0 : Int32) M1

set_option maxRecDepth 100000 in
set_option maxHeartbeats 4000000 in
theorem b_X4_firstBest {G : GM} {p : Program} {l : Launch} {e : Env} {s : State} {m : MethodId} {args : Array Value} {below : List Frame} {meth : Method} {c : Code} (F : Fx G p l s m args meth c cX4_firstBest RX4 6 (some .int)) (a1 : Int32) (M : Mem) : Rf G p l e s m args below meth c 7 6 emI (f_X4_firstBest a1 M) 0 [(0, .ref (gA G 12)), (1, .int a1)] [] M := by
  unfold f_X4_firstBest
  refine r_iload_n F 1 dX4_firstBest_0 rfl rfl ?_
  refine r_cS (val := vI) (As := [.int a1]) (rest := []) (fun q9 => .int q9 :: []) F (c_J6_bitCount_0f7a4 F.st F.gg a1 M) (fun _ _ => rfl) dX4_firstBest_1 ml_X4_46 ys_J6_bitCount_0f7a4 rfl (by decide) rfl (Nat.le_of_ble_eq_true rfl) (fun _ => rfl) (fun r1 M1 => ?_)
  refine r_istore_n (ls' := [(2, .int r1), (0, .ref (gA G 12)), (1, .int a1)]) F dX4_firstBest_4 rfl (by decide) rfl ?_
  refine r_iconst F dX4_firstBest_5 (v := 0) (by decide) ?_
  refine r_istore_n (ls' := [(3, .int (0 : Int32)), (2, .int r1), (0, .ref (gA G 12)), (1, .int a1)]) F dX4_firstBest_6 rfl (by decide) rfl ?_
  refine r_iconst F dX4_firstBest_7 (v := -1) (by decide) ?_
  refine r_istore (ls' := [(4, .int (-1 : Int32)), (3, .int (0 : Int32)), (2, .int r1), (0, .ref (gA G 12)), (1, .int a1)]) F dX4_firstBest_8 (by decide) rfl ?_
  refine r_iconst F dX4_firstBest_10 (v := 0) (by decide) ?_
  refine r_istore (ls' := [(5, .int (0 : Int32)), (4, .int (-1 : Int32)), (3, .int (0 : Int32)), (2, .int r1), (0, .ref (gA G 12)), (1, .int a1)]) F dX4_firstBest_11 (by decide) rfl ?_
  refine r_sub [4, 5, 3, 2, 1, 0] rfl ?_
  exact l_X4_firstBest_13 F   FU a1 r1 (0 : Int32) (-1 : Int32) (0 : Int32) M1

set_option maxRecDepth 100000 in
set_option maxHeartbeats 4000000 in
theorem c_X4_firstBest {l : Launch} {G : GM} (hl : l.stackTraces = false) (hG : GG G) (a1 : Int32) (M : Mem) : ∀ r, f_X4_firstBest a1 M = some r → Ctr l G yX4_firstBest (.code yX4_firstBest cX4_firstBest 6 (some .int) :: wsA) 7 [.ref (gA G 12), .int a1] M (emI r) :=
  ctr_of (by decide) hl hG (Nat.le_of_ble_eq_true rfl) (fun p e s m args below meth c F => b_X4_firstBest F a1 M)

