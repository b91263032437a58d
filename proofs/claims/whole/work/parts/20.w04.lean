-- ===== X6_addTown DrumTowns.addTown(I)I =====
theorem yv_X6_addTown : yV yX6_addTown cX6_addTown 3 (some .int) 1 := ⟨im_X6_addTown, sl_X6_addTown, ini_X6, cd_X6_addTown, ⟨by decide, by decide, by decide +kernel⟩, by decide⟩

def f_X6_addTown_11  (M : Mem) : Option ((Int32 ⊕ String) × Mem) := some (.inr exA, M)

set_option maxRecDepth 100000 in
set_option maxHeartbeats 4000000 in
theorem l_X6_addTown_11 {G : GM} {p : Program} {l : Launch} {e : Env} {s : State} {m : MethodId} {args : Array Value} {below : List Frame} {meth : Method} {c : Code} (F : Fx G p l s m args meth c cX6_addTown RX6 3 (some .int))  (M : Mem) : Rf G p l e s m args below meth c 10 3 (emT vI) (f_X6_addTown_11   M) 11 [] [] M := by
  unfold f_X6_addTown_11
  exact r_throw F atA cl_X6_52 ini_IllegalArgumentException (by decide : (54, "pins is out of range") ∈ strW) dX6_addTown_11 dX6_addTown_14 dX6_addTown_15 dX6_addTown_17 dX6_addTown_20 (by decide) (Nat.le_of_ble_eq_true rfl)

def f_X6_addTown (a1 : Int32) (M : Mem) : Option ((Int32 ⊕ String) × Mem) := if a1 < 0 then (f_X6_addTown_11   M) else (if a1 ≤ (200 : Int32) then (if (M.1 34 1) < (6 : Int32) then (chk (inb (2 : Int32) 3) <| if a1 ≤ (M.1 36 (2 : Int32).toNatClampNeg) then (bn (f_X6_saveState M) fun _ M67 => bnd (M67.1 34 1) fun x77 => chk (inb x77 6) <| bnd (tw 35 x77) fun b86 => bnd (mw M67 b86 0 a1) fun M88 => bnd (mw M88 34 1 (x77 + (1 : Int32))) fun M98 => some (.inl x77, M98)) else (some (.inr exS, M))) else (some (.inr exS, M))) else (f_X6_addTown_11   M))

set_option maxRecDepth 100000 in
set_option maxHeartbeats 4000000 in
theorem b_X6_addTown {G : GM} {p : Program} {l : Launch} {e : Env} {s : State} {m : MethodId} {args : Array Value} {below : List Frame} {meth : Method} {c : Code} (F : Fx G p l s m args meth c cX6_addTown RX6 3 (some .int)) (a1 : Int32) (M : Mem) : Rf G p l e s m args below meth c 10 3 (emT vI) (f_X6_addTown a1 M) 0 [(0, .ref (gA G 0)), (1, .int a1)] [] M := by
  unfold f_X6_addTown
  refine r_iload_n F 1 dX6_addTown_0 rfl rfl ?_
  refine r_if_lt (tgt := 11) F dX6_addTown_1 (by decide) (fun c1 => ?_) (fun c1 => ?_)
  · refine r_sub [] rfl ?_
    exact l_X6_addTown_11 F    M
  · refine r_iload_n F 1 dX6_addTown_4 rfl rfl ?_
    refine r_sipush F dX6_addTown_5 (v := 200) (by decide) ?_
    refine r_icmp_le (tgt := 21) F dX6_addTown_8 (by decide) (fun c2 => ?_) (fun c2 => ?_)
    · refine r_aload_n F 0 dX6_addTown_21 rfl rfl ?_
      refine gf_X6_10 F dX6_addTown_22 (rfl : kd 0 = 0) ?_
      refine gf_X6_59 F dX6_addTown_25 (rfl : kd 34 = 1) ?_
      refine r_bipush F dX6_addTown_28 (v := 6) (by decide) ?_
      refine r_icmp_lt (tgt := 43) F dX6_addTown_30 (by decide) (fun c3 => ?_) (fun c3 => ?_)
      · refine r_iload_n F 1 dX6_addTown_43 rfl rfl ?_
        refine r_aload_n F 0 dX6_addTown_44 rfl rfl ?_
        refine gf_X6_10 F dX6_addTown_45 (rfl : kd 0 = 0) ?_
        refine gf_X6_68 F dX6_addTown_48 (rfl : kd 34 = 1) ?_
        refine r_iconst F dX6_addTown_51 (v := 2) (by decide) ?_
        refine r_chk (fun h4 => ?_)
        refine r_iald F dX6_addTown_52 (rfl : kd 36 = 8) (rfl : al 36 = 3) h4 ?_
        refine r_icmp_le (tgt := 66) F dX6_addTown_53 (by decide) (fun c5 => ?_) (fun c5 => ?_)
        · refine r_aload_n F 0 dX6_addTown_66 rfl rfl ?_
          refine r_cV (val := vU) (As := []) (rest := []) (fun _ => []) F (c_X6_saveState F.st F.gg  M) (fun _ _ => rfl) dX6_addTown_67 ml_X6_73 yv_X6_saveState (rfl : kd 0 = 0) (by decide) rfl rfl (by decide) rfl (Nat.le_of_ble_eq_true rfl) (fun _ => rfl) (fun _ M67 => ?_)
          refine r_aload_n F 0 dX6_addTown_70 rfl rfl ?_
          refine gf_X6_10 F dX6_addTown_71 (rfl : kd 0 = 0) ?_
          refine gf_X6_59 F dX6_addTown_74 (rfl : kd 34 = 1) ?_
          refine r_bi (fun x77 => ?_)
          refine r_istore_n (ls' := [(2, .int x77), (0, .ref (gA G 0)), (1, .int a1)]) F dX6_addTown_77 rfl (by decide) rfl ?_
          refine r_aload_n F 1 dX6_addTown_78 rfl rfl ?_
          refine gf_X6_10 F dX6_addTown_79 (rfl : kd 0 = 0) ?_
          refine gf_X6_76 F dX6_addTown_82 (rfl : kd 34 = 1) ?_
          refine r_iload_n F 0 dX6_addTown_85 rfl rfl ?_
          refine r_chk (fun h6 => ?_)
          refine r_aaldT F dX6_addTown_86 (rfl : kd 35 = 9) h6 ?_
          refine r_br (kTw' (rfl : kd 35 = 9) h6) (fun b86 k86 => ?_)
          refine r_iload_n F 2 dX6_addTown_87 rfl rfl ?_
          refine pf_X6_80 F dX6_addTown_88 k86 (fun M88 => ?_)
          refine r_aload_n F 1 dX6_addTown_91 rfl rfl ?_
          refine gf_X6_10 F dX6_addTown_92 (rfl : kd 0 = 0) ?_
          refine r_iload_n F 0 dX6_addTown_95 rfl rfl ?_
          refine r_iconst F dX6_addTown_96 (v := 1) (by decide) ?_
          refine r_iadd F dX6_addTown_97 ?_
          refine pf_X6_59 F dX6_addTown_98 (rfl : kd 34 = 1) (fun M98 => ?_)
          refine r_iload_n F 0 dX6_addTown_101 rfl rfl ?_
          exact r_iret F rfl dX6_addTown_102 rfl
        · exact r_throw F atS cl_X6_63 ini_IllegalStateException (by decide : (71, "the box cannot hold so many pins") ∈ strW) dX6_addTown_56 dX6_addTown_59 dX6_addTown_60 dX6_addTown_62 dX6_addTown_65 (by decide) (Nat.le_of_ble_eq_true rfl)
      · exact r_throw F atS cl_X6_63 ini_IllegalStateException (by decide : (65, "there are 6 towns") ∈ strW) dX6_addTown_33 dX6_addTown_36 dX6_addTown_37 dX6_addTown_39 dX6_addTown_42 (by decide) (Nat.le_of_ble_eq_true rfl)
    · refine r_sub [] rfl ?_
      exact l_X6_addTown_11 F    M

set_option maxRecDepth 100000 in
set_option maxHeartbeats 4000000 in
theorem c_X6_addTown {l : Launch} {G : GM} (hl : l.stackTraces = false) (hG : GG G) (a1 : Int32) (M : Mem) : ∀ r, f_X6_addTown a1 M = some r → Ctr l G yX6_addTown (.code yX6_addTown cX6_addTown 3 (some .int) :: wsA) 10 [.ref (gA G 0), .int a1] M ((emT vI) r) :=
  ctr_of (by decide) hl hG (Nat.le_of_ble_eq_true rfl) (fun p e s m args below meth c F => b_X6_addTown F a1 M)

-- ===== X6_append DrumTowns.append(I)I =====
theorem yv_X6_append : yV yX6_append cX6_append 2 (some .int) 1 := ⟨im_X6_append, sl_X6_append, ini_X6, cd_X6_append, ⟨by decide, by decide, by decide +kernel⟩, by decide⟩

def f_X6_append_12  (M : Mem) : Option ((Int32 ⊕ String) × Mem) := some (.inr exA, M)

set_option maxRecDepth 100000 in
set_option maxHeartbeats 4000000 in
theorem l_X6_append_12 {G : GM} {p : Program} {l : Launch} {e : Env} {s : State} {m : MethodId} {args : Array Value} {below : List Frame} {meth : Method} {c : Code} (F : Fx G p l s m args meth c cX6_append RX6 2 (some .int))  (M : Mem) : Rf G p l e s m args below meth c 6 2 (emT vI) (f_X6_append_12   M) 12 [] [] M := by
  unfold f_X6_append_12
  exact r_throw F atA cl_X6_52 ini_IllegalArgumentException (by decide : (187, "code is not 33 to 126") ∈ strW) dX6_append_12 dX6_append_15 dX6_append_16 dX6_append_18 dX6_append_21 (by decide) (Nat.le_of_ble_eq_true rfl)

def f_X6_append (a1 : Int32) (M : Mem) : Option ((Int32 ⊕ String) × Mem) := if a1 < (33 : Int32) then (f_X6_append_12   M) else (if a1 ≤ (126 : Int32) then (if (M.1 2 1) < (60 : Int32) then (chk (inb (M.1 2 1) 60) <| bnd (mw M 3 (M.1 2 1).toNatClampNeg a1) fun M59 => bnd (mw M59 2 1 ((M59.1 2 1) + (1 : Int32))) fun M70 => some (.inl (M70.1 2 1), M70)) else (some (.inr exS, M))) else (f_X6_append_12   M))

set_option maxRecDepth 100000 in
set_option maxHeartbeats 4000000 in
theorem b_X6_append {G : GM} {p : Program} {l : Launch} {e : Env} {s : State} {m : MethodId} {args : Array Value} {below : List Frame} {meth : Method} {c : Code} (F : Fx G p l s m args meth c cX6_append RX6 2 (some .int)) (a1 : Int32) (M : Mem) : Rf G p l e s m args below meth c 6 2 (emT vI) (f_X6_append a1 M) 0 [(0, .ref (gA G 0)), (1, .int a1)] [] M := by
  unfold f_X6_append
  refine r_iload_n F 1 dX6_append_0 rfl rfl ?_
  refine r_bipush F dX6_append_1 (v := 33) (by decide) ?_
  refine r_icmp_lt (tgt := 12) F dX6_append_3 (by decide) (fun c1 => ?_) (fun c1 => ?_)
  · refine r_sub [] rfl ?_
    exact l_X6_append_12 F    M
  · refine r_iload_n F 1 dX6_append_6 rfl rfl ?_
    refine r_bipush F dX6_append_7 (v := 126) (by decide) ?_
    refine r_icmp_le (tgt := 22) F dX6_append_9 (by decide) (fun c2 => ?_) (fun c2 => ?_)
    · refine r_aload_n F 0 dX6_append_22 rfl rfl ?_
      refine gf_X6_23 F dX6_append_23 (rfl : kd 0 = 0) ?_
      refine gf_X6_189 F dX6_append_26 (rfl : kd 2 = 6) ?_
      refine r_bipush F dX6_append_29 (v := 60) (by decide) ?_
      refine r_icmp_lt (tgt := 44) F dX6_append_31 (by decide) (fun c3 => ?_) (fun c3 => ?_)
      · refine r_aload_n F 0 dX6_append_44 rfl rfl ?_
        refine gf_X6_23 F dX6_append_45 (rfl : kd 0 = 0) ?_
        refine gf_X6_192 F dX6_append_48 (rfl : kd 2 = 6) ?_
        refine r_aload_n F 0 dX6_append_51 rfl rfl ?_
        refine gf_X6_23 F dX6_append_52 (rfl : kd 0 = 0) ?_
        refine gf_X6_189 F dX6_append_55 (rfl : kd 2 = 6) ?_
        refine r_iload_n F 1 dX6_append_58 rfl rfl ?_
        refine r_chk (fun h4 => ?_)
        refine r_iast F dX6_append_59 (rfl : kd 3 = 8) (rfl : al 3 = 60) h4 (fun M59 => ?_)
        refine r_aload_n F 0 dX6_append_60 rfl rfl ?_
        refine gf_X6_23 F dX6_append_61 (rfl : kd 0 = 0) ?_
        refine r_dup F dX6_append_64 rfl ?_
        refine gf_X6_189 F dX6_append_65 (rfl : kd 2 = 6) ?_
        refine r_iconst F dX6_append_68 (v := 1) (by decide) ?_
        refine r_iadd F dX6_append_69 ?_
        refine pf_X6_189 F dX6_append_70 (rfl : kd 2 = 6) (fun M70 => ?_)
        refine r_aload_n F 0 dX6_append_73 rfl rfl ?_
        refine gf_X6_23 F dX6_append_74 (rfl : kd 0 = 0) ?_
        refine gf_X6_189 F dX6_append_77 (rfl : kd 2 = 6) ?_
        exact r_iret F rfl dX6_append_80 rfl
      · exact r_throw F atS cl_X6_63 ini_IllegalStateException (by decide : (190, "the buffer is full") ∈ strW) dX6_append_34 dX6_append_37 dX6_append_38 dX6_append_40 dX6_append_43 (by decide) (Nat.le_of_ble_eq_true rfl)
    · refine r_sub [] rfl ?_
      exact l_X6_append_12 F    M

set_option maxRecDepth 100000 in
set_option maxHeartbeats 4000000 in
theorem c_X6_append {l : Launch} {G : GM} (hl : l.stackTraces = false) (hG : GG G) (a1 : Int32) (M : Mem) : ∀ r, f_X6_append a1 M = some r → Ctr l G yX6_append (.code yX6_append cX6_append 2 (some .int) :: wsA) 6 [.ref (gA G 0), .int a1] M ((emT vI) r) :=
  ctr_of (by decide) hl hG (Nat.le_of_ble_eq_true rfl) (fun p e s m args below meth c F => b_X6_append F a1 M)

-- ===== X6_checkTown DrumTowns.checkTown(I)V =====
theorem yv_X6_checkTown : yV yX6_checkTown cX6_checkTown 2 none 1 := ⟨im_X6_checkTown, sl_X6_checkTown, ini_X6, cd_X6_checkTown, ⟨by decide, by decide, by decide +kernel⟩, by decide⟩

def f_X6_checkTown_15  (M : Mem) : Option ((Unit ⊕ String) × Mem) := some (.inr exI, M)

set_option maxRecDepth 100000 in
set_option maxHeartbeats 4000000 in
theorem l_X6_checkTown_15 {G : GM} {p : Program} {l : Launch} {e : Env} {s : State} {m : MethodId} {args : Array Value} {below : List Frame} {meth : Method} {c : Code} (F : Fx G p l s m args meth c cX6_checkTown RX6 2 none)  (M : Mem) : Rf G p l e s m args below meth c 6 2 (emT vU) (f_X6_checkTown_15   M) 15 [] [] M := by
  unfold f_X6_checkTown_15
  exact r_throwW F atI cl_X6_355 ini_IndexOutOfBoundsException (by decide : (357, "there is no such town") ∈ strW) dX6_checkTown_15 dX6_checkTown_18 dX6_checkTown_19 dX6_checkTown_22 dX6_checkTown_25 (by decide) (Nat.le_of_ble_eq_true rfl)

def f_X6_checkTown (a1 : Int32) (M : Mem) : Option ((Unit ⊕ String) × Mem) := if a1 < 0 then (f_X6_checkTown_15   M) else (if a1 < (M.1 34 1) then (some (.inl (), M)) else (f_X6_checkTown_15   M))

set_option maxRecDepth 100000 in
set_option maxHeartbeats 4000000 in
theorem b_X6_checkTown {G : GM} {p : Program} {l : Launch} {e : Env} {s : State} {m : MethodId} {args : Array Value} {below : List Frame} {meth : Method} {c : Code} (F : Fx G p l s m args meth c cX6_checkTown RX6 2 none) (a1 : Int32) (M : Mem) : Rf G p l e s m args below meth c 6 2 (emT vU) (f_X6_checkTown a1 M) 0 [(0, .ref (gA G 0)), (1, .int a1)] [] M := by
  unfold f_X6_checkTown
  refine r_iload_n F 1 dX6_checkTown_0 rfl rfl ?_
  refine r_if_lt (tgt := 15) F dX6_checkTown_1 (by decide) (fun c1 => ?_) (fun c1 => ?_)
  · refine r_sub [] rfl ?_
    exact l_X6_checkTown_15 F    M
  · refine r_iload_n F 1 dX6_checkTown_4 rfl rfl ?_
    refine r_aload_n F 0 dX6_checkTown_5 rfl rfl ?_
    refine gf_X6_10 F dX6_checkTown_6 (rfl : kd 0 = 0) ?_
    refine gf_X6_59 F dX6_checkTown_9 (rfl : kd 34 = 1) ?_
    refine r_icmp_lt (tgt := 26) F dX6_checkTown_12 (by decide) (fun c2 => ?_) (fun c2 => ?_)
    · exact r_vret F rfl dX6_checkTown_26 rfl
    · refine r_sub [] rfl ?_
      exact l_X6_checkTown_15 F    M

set_option maxRecDepth 100000 in
set_option maxHeartbeats 4000000 in
theorem c_X6_checkTown {l : Launch} {G : GM} (hl : l.stackTraces = false) (hG : GG G) (a1 : Int32) (M : Mem) : ∀ r, f_X6_checkTown a1 M = some r → Ctr l G yX6_checkTown (.code yX6_checkTown cX6_checkTown 2 none :: wsA) 6 [.ref (gA G 0), .int a1] M ((emT vU) r) :=
  ctr_of (by decide) hl hG (Nat.le_of_ble_eq_true rfl) (fun p e s m args below meth c F => b_X6_checkTown F a1 M)

-- ===== X6_bestDrum DrumTowns.bestDrum(I)I =====
theorem yv_X6_bestDrum : yV yX6_bestDrum cX6_bestDrum 6 (some .int) 1 := ⟨im_X6_bestDrum, sl_X6_bestDrum, ini_X6, cd_X6_bestDrum, ⟨by decide, by decide, by decide +kernel⟩, by decide⟩

def f_X6_bestDrum_72 (k12 : Int32 → Int32 → Int32 → Int32 → Mem → Option ((Int32 ⊕ String) × Mem)) (y1 : Int32) (y2 : Int32) (y3 : Int32) (y4 : Int32) (M : Mem) : Option ((Int32 ⊕ String) × Mem) := bnd (y4 + (1 : Int32)) fun x72 => k12 y1 y2 y3 x72 M

set_option maxRecDepth 100000 in
set_option maxHeartbeats 4000000 in
theorem l_X6_bestDrum_72 {G : GM} {p : Program} {l : Launch} {e : Env} {s : State} {m : MethodId} {args : Array Value} {below : List Frame} {meth : Method} {c : Code} (F : Fx G p l s m args meth c cX6_bestDrum RX6 6 (some .int)) (k12 : Int32 → Int32 → Int32 → Int32 → Mem → Option ((Int32 ⊕ String) × Mem)) (H12 : ∀ (y1 : Int32) (y2 : Int32) (y3 : Int32) (y4 : Int32) (M : Mem), Rf G p l e s m args below meth c 8 6 (emT vI) (k12 y1 y2 y3 y4 M) 12 [(0, .ref (gA G 0)), (1, .int y1), (2, .int y2), (3, .int y3), (4, .int y4)] [] M) (y1 : Int32) (y2 : Int32) (y3 : Int32) (y4 : Int32) (M : Mem) : Rf G p l e s m args below meth c 8 6 (emT vI) (f_X6_bestDrum_72 k12 y1 y2 y3 y4 M) 72 [(0, .ref (gA G 0)), (1, .int y1), (2, .int y2), (3, .int y3), (4, .int y4)] [] M := by
  unfold f_X6_bestDrum_72
  refine r_iinc (ls' := fun q9 => [(4, .int q9), (0, .ref (gA G 0)), (1, .int y1), (2, .int y2), (3, .int y3)]) (k := 4) (v := y4 + (1 : Int32)) F dX6_bestDrum_72 rfl rfl (by decide) (fun _ => rfl) (fun x72 => ?_)
  refine r_goto (tgt := 12) F dX6_bestDrum_75 (by decide) ?_
  refine r_sub [1, 2, 3, 4, 0] rfl ?_
  exact H12 y1 y2 y3 x72 M

def f_X6_bestDrum_12 : Nat → Int32 → Int32 → Int32 → Int32 → Mem → Option ((Int32 ⊕ String) × Mem)
  | 0, _, _, _, _, _ => none
  | n + 1, y1, y2, y3, y4, M => if (M.1 34 1) ≤ y4 then (some (.inl y2, M)) else (chk (inb y4 6) <| bnd (tw 35 y4) fun b33 => chk (inb y1 6) <| bnd (tw 35 y1) fun b45 => bn (f_X6_sharedBy (b33 + 1) (b45 + 2) M) fun r49 M49 => if y4 = y1 then (f_X6_bestDrum_72 (f_X6_bestDrum_12  n) y1 y2 y3 y4 M49) else (if r49 ≤ y3 then (f_X6_bestDrum_72 (f_X6_bestDrum_12  n) y1 y2 y3 y4 M49) else (f_X6_bestDrum_72 (f_X6_bestDrum_12  n) y1 y4 r49 y4 M49)))

set_option maxRecDepth 100000 in
set_option maxHeartbeats 4000000 in
theorem l_X6_bestDrum_12 {G : GM} {p : Program} {l : Launch} {e : Env} {s : State} {m : MethodId} {args : Array Value} {below : List Frame} {meth : Method} {c : Code} (F : Fx G p l s m args meth c cX6_bestDrum RX6 6 (some .int)) : ∀ (n : Nat) (y1 : Int32) (y2 : Int32) (y3 : Int32) (y4 : Int32) (M : Mem), Rf G p l e s m args below meth c 8 6 (emT vI) (f_X6_bestDrum_12  n y1 y2 y3 y4 M) 12 [(0, .ref (gA G 0)), (1, .int y1), (2, .int y2), (3, .int y3), (4, .int y4)] [] M := by
  intro n
  induction n with
  | zero => intros; exact r_none
  | succ n ih =>
    intro y1 y2 y3 y4 M
    rw [f_X6_bestDrum_12]
    refine r_iload F 4 dX6_bestDrum_12 rfl ?_
    refine r_aload_n F 0 dX6_bestDrum_14 rfl rfl ?_
    refine gf_X6_10 F dX6_bestDrum_15 (rfl : kd 0 = 0) ?_
    refine gf_X6_59 F dX6_bestDrum_18 (rfl : kd 34 = 1) ?_
    refine r_icmp_ge (tgt := 78) F dX6_bestDrum_21 (by decide) (fun c1 => ?_) (fun c1 => ?_)
    · refine r_iload_n F 2 dX6_bestDrum_78 rfl rfl ?_
      exact r_iret F rfl dX6_bestDrum_79 rfl
    · refine r_aload_n F 0 dX6_bestDrum_24 rfl rfl ?_
      refine gf_X6_10 F dX6_bestDrum_25 (rfl : kd 0 = 0) ?_
      refine gf_X6_76 F dX6_bestDrum_28 (rfl : kd 34 = 1) ?_
      refine r_iload F 4 dX6_bestDrum_31 rfl ?_
      refine r_chk (fun h2 => ?_)
      refine r_aaldT F dX6_bestDrum_33 (rfl : kd 35 = 9) h2 ?_
      refine r_br (kTw' (rfl : kd 35 = 9) h2) (fun b33 k33 => ?_)
      refine gf_X6_109 F dX6_bestDrum_34 k33 ?_
      refine r_aload_n F 0 dX6_bestDrum_37 rfl rfl ?_
      refine gf_X6_10 F dX6_bestDrum_38 (rfl : kd 0 = 0) ?_
      refine gf_X6_76 F dX6_bestDrum_41 (rfl : kd 34 = 1) ?_
      refine r_iload_n F 1 dX6_bestDrum_44 rfl rfl ?_
      refine r_chk (fun h3 => ?_)
      refine r_aaldT F dX6_bestDrum_45 (rfl : kd 35 = 9) h3 ?_
      refine r_br (kTw' (rfl : kd 35 = 9) h3) (fun b45 k45 => ?_)
      refine gf_X6_207 F dX6_bestDrum_46 k45 ?_
      refine r_cS (val := vI) (As := [.ref (gA G (b33 + 1)), .ref (gA G (b45 + 2))]) (rest := []) (fun q9 => .int q9 :: []) F (c_X6_sharedBy F.st F.gg (b33 + 1) (b45 + 2) M) (fun _ _ => rfl) dX6_bestDrum_49 ml_X6_288 ys_X6_sharedBy rfl (by decide) rfl (Nat.le_of_ble_eq_true rfl) (fun _ => rfl) (fun r49 M49 => ?_)
      refine r_istore (ls' := [(5, .int r49), (0, .ref (gA G 0)), (1, .int y1), (2, .int y2), (3, .int y3), (4, .int y4)]) F dX6_bestDrum_52 (by decide) rfl ?_
      refine r_iload F 5 dX6_bestDrum_54 rfl ?_
      refine r_iload_n F 2 dX6_bestDrum_56 rfl rfl ?_
      refine r_icmp_eq (tgt := 72) F dX6_bestDrum_57 (by decide) (fun c4 => ?_) (fun c4 => ?_)
      · refine r_sub [1, 2, 3, 4, 5] rfl ?_
        exact l_X6_bestDrum_72 F (f_X6_bestDrum_12  n) (fun q0 q1 q2 q3 M9 => ih q0 q1 q2 q3 M9) y1 y2 y3 y4 M49
      · refine r_iload F 0 dX6_bestDrum_60 rfl ?_
        refine r_iload_n F 4 dX6_bestDrum_62 rfl rfl ?_
        refine r_icmp_le (tgt := 72) F dX6_bestDrum_63 (by decide) (fun c5 => ?_) (fun c5 => ?_)
        · refine r_sub [1, 2, 3, 4, 5] rfl ?_
          exact l_X6_bestDrum_72 F (f_X6_bestDrum_12  n) (fun q0 q1 q2 q3 M9 => ih q0 q1 q2 q3 M9) y1 y2 y3 y4 M49
        · refine r_iload F 5 dX6_bestDrum_66 rfl ?_
          refine r_istore_n (ls' := [(2, .int y4), (5, .int r49), (0, .ref (gA G 0)), (1, .int y1), (3, .int y3), (4, .int y4)]) F dX6_bestDrum_68 rfl (by decide) rfl ?_
          refine r_iload F 1 dX6_bestDrum_69 rfl ?_
          refine r_istore_n (ls' := [(3, .int r49), (2, .int y4), (5, .int r49), (0, .ref (gA G 0)), (1, .int y1), (4, .int y4)]) F dX6_bestDrum_71 rfl (by decide) rfl ?_
          refine r_sub [3, 4, 1, 0, 5] rfl ?_
          exact l_X6_bestDrum_72 F (f_X6_bestDrum_12  n) (fun q0 q1 q2 q3 M9 => ih q0 q1 q2 q3 M9) y1 y4 r49 y4 M49

def f_X6_bestDrum (a1 : Int32) (M : Mem) : Option ((Int32 ⊕ String) × Mem) := bt (f_X6_checkTown a1 M) fun _ M2 => f_X6_bestDrum_12  FU a1 (-1 : Int32) (-1 : Int32) (0 : Int32) M2

set_option maxRecDepth 100000 in
set_option maxHeartbeats 4000000 in
theorem b_X6_bestDrum {G : GM} {p : Program} {l : Launch} {e : Env} {s : State} {m : MethodId} {args : Array Value} {below : List Frame} {meth : Method} {c : Code} (F : Fx G p l s m args meth c cX6_bestDrum RX6 6 (some .int)) (a1 : Int32) (M : Mem) : Rf G p l e s m args below meth c 8 6 (emT vI) (f_X6_bestDrum a1 M) 0 [(0, .ref (gA G 0)), (1, .int a1)] [] M := by
  unfold f_X6_bestDrum
  refine r_aload_n F 0 dX6_bestDrum_0 rfl rfl ?_
  refine r_iload_n F 1 dX6_bestDrum_1 rfl rfl ?_
  refine r_tV (val := vU) (As := [.int a1]) (rest := []) (fun _ => []) F (c_X6_checkTown F.st F.gg a1 M) dX6_bestDrum_2 ml_X6_120 yv_X6_checkTown (rfl : kd 0 = 0) (by decide) rfl rfl (by decide) rfl (Nat.le_of_ble_eq_true rfl) (fun _ => rfl) (fun _ M2 => ?_)
  refine r_iconst F dX6_bestDrum_5 (v := -1) (by decide) ?_
  refine r_istore_n (ls' := [(2, .int (-1 : Int32)), (0, .ref (gA G 0)), (1, .int a1)]) F dX6_bestDrum_6 rfl (by decide) rfl ?_
  refine r_iconst F dX6_bestDrum_7 (v := -1) (by decide) ?_
  refine r_istore_n (ls' := [(3, .int (-1 : Int32)), (2, .int (-1 : Int32)), (0, .ref (gA G 0)), (1, .int a1)]) F dX6_bestDrum_8 rfl (by decide) rfl ?_
  refine r_iconst F dX6_bestDrum_9 (v := 0) (by decide) ?_
  refine r_istore (ls' := [(4, .int (0 : Int32)), (3, .int (-1 : Int32)), (2, .int (-1 : Int32)), (0, .ref (gA G 0)), (1, .int a1)]) F dX6_bestDrum_10 (by decide) rfl ?_
  refine r_sub [3, 4, 2, 1, 0] rfl ?_
  exact l_X6_bestDrum_12 F   FU a1 (-1 : Int32) (-1 : Int32) (0 : Int32) M2

set_option maxRecDepth 100000 in
set_option maxHeartbeats 4000000 in
theorem c_X6_bestDrum {l : Launch} {G : GM} (hl : l.stackTraces = false) (hG : GG G) (a1 : Int32) (M : Mem) : ∀ r, f_X6_bestDrum a1 M = some r → Ctr l G yX6_bestDrum (.code yX6_bestDrum cX6_bestDrum 6 (some .int) :: wsA) 8 [.ref (gA G 0), .int a1] M ((emT vI) r) :=
  ctr_of (by decide) hl hG (Nat.le_of_ble_eq_true rfl) (fun p e s m args below meth c F => b_X6_bestDrum F a1 M)

-- ===== X6_isPlace DrumTowns.isPlace(I)Z =====
theorem ys_X6_isPlace : yS yX6_isPlace cX6_isPlace 1 (some .boolean) 1 := ⟨sc_X6_isPlace, ini_X6, cd_X6_isPlace, ⟨by decide, by decide, by decide +kernel⟩, by decide⟩

def f_X6_isPlace_17 (z0 : Int32) (M : Mem) : Option (Int32 × Mem) := chk (isb z0) <| some (z0, M)

set_option maxRecDepth 100000 in
set_option maxHeartbeats 4000000 in
theorem l_X6_isPlace_17 {G : GM} {p : Program} {l : Launch} {e : Env} {s : State} {m : MethodId} {args : Array Value} {below : List Frame} {meth : Method} {c : Code} (F : Fx G p l s m args meth c cX6_isPlace RX6 1 (some .boolean)) (z0 : Int32) (M : Mem) : Rf G p l e s m args below meth c 6 1 emI (f_X6_isPlace_17  z0 M) 17 [] [.int z0] M := by
  unfold f_X6_isPlace_17
  refine r_chk (fun h1 => ?_)
  exact r_zret F rfl dX6_isPlace_17 rfl (isb_or h1)

def f_X6_isPlace_16  (M : Mem) : Option (Int32 × Mem) := f_X6_isPlace_17  (0 : Int32) M

set_option maxRecDepth 100000 in
set_option maxHeartbeats 4000000 in
theorem l_X6_isPlace_16 {G : GM} {p : Program} {l : Launch} {e : Env} {s : State} {m : MethodId} {args : Array Value} {below : List Frame} {meth : Method} {c : Code} (F : Fx G p l s m args meth c cX6_isPlace RX6 1 (some .boolean))  (M : Mem) : Rf G p l e s m args below meth c 6 1 emI (f_X6_isPlace_16   M) 16 [] [] M := by
  unfold f_X6_isPlace_16
  refine r_iconst F dX6_isPlace_16 (v := 0) (by decide) ?_
  refine r_sub [] rfl ?_
  exact l_X6_isPlace_17 F   (0 : Int32) M

def f_X6_isPlace (a0 : Int32) (M : Mem) : Option (Int32 × Mem) := if a0 < (10 : Int32) then (f_X6_isPlace_16   M) else (if (16 : Int32) ≤ a0 then (f_X6_isPlace_16   M) else (f_X6_isPlace_17  (1 : Int32) M))

set_option maxRecDepth 100000 in
set_option maxHeartbeats 4000000 in
theorem b_X6_isPlace {G : GM} {p : Program} {l : Launch} {e : Env} {s : State} {m : MethodId} {args : Array Value} {below : List Frame} {meth : Method} {c : Code} (F : Fx G p l s m args meth c cX6_isPlace RX6 1 (some .boolean)) (a0 : Int32) (M : Mem) : Rf G p l e s m args below meth c 6 1 emI (f_X6_isPlace a0 M) 0 [(0, .int a0)] [] M := by
  unfold f_X6_isPlace
  refine r_iload_n F 0 dX6_isPlace_0 rfl rfl ?_
  refine r_bipush F dX6_isPlace_1 (v := 10) (by decide) ?_
  refine r_icmp_lt (tgt := 16) F dX6_isPlace_3 (by decide) (fun c1 => ?_) (fun c1 => ?_)
  · refine r_sub [] rfl ?_
    exact l_X6_isPlace_16 F    M
  · refine r_iload_n F 0 dX6_isPlace_6 rfl rfl ?_
    refine r_bipush F dX6_isPlace_7 (v := 16) (by decide) ?_
    refine r_icmp_ge (tgt := 16) F dX6_isPlace_9 (by decide) (fun c2 => ?_) (fun c2 => ?_)
    · refine r_sub [] rfl ?_
      exact l_X6_isPlace_16 F    M
    · refine r_iconst F dX6_isPlace_12 (v := 1) (by decide) ?_
      refine r_goto (tgt := 17) F dX6_isPlace_13 (by decide) ?_
      refine r_sub [] rfl ?_
      exact l_X6_isPlace_17 F   (1 : Int32) M

set_option maxRecDepth 100000 in
set_option maxHeartbeats 4000000 in
theorem c_X6_isPlace {l : Launch} {G : GM} (hl : l.stackTraces = false) (hG : GG G) (a0 : Int32) (M : Mem) : ∀ r, f_X6_isPlace a0 M = some r → Ctr l G yX6_isPlace (.code yX6_isPlace cX6_isPlace 1 (some .boolean) :: wsA) 6 [.int a0] M (emI r) :=
  ctr_of (by decide) hl hG (Nat.le_of_ble_eq_true rfl) (fun p e s m args below meth c F => b_X6_isPlace F a0 M)

-- ===== X6_bestTrades DrumTowns.bestTrades(I)I =====
theorem yv_X6_bestTrades : yV yX6_bestTrades cX6_bestTrades 2 (some .int) 1 := ⟨im_X6_bestTrades, sl_X6_bestTrades, ini_X6, cd_X6_bestTrades, ⟨by decide, by decide, by decide +kernel⟩, by decide⟩

def f_X6_bestTrades_22 (y1 : Int32) (M : Mem) : Option ((Int32 ⊕ String) × Mem) := bn (f_X4_find 34 M) fun _ M30 => bn (f_X4_tell y1 M30) fun r38 M38 => some (.inl r38, M38)

set_option maxRecDepth 100000 in
set_option maxHeartbeats 4000000 in
theorem l_X6_bestTrades_22 {G : GM} {p : Program} {l : Launch} {e : Env} {s : State} {m : MethodId} {args : Array Value} {below : List Frame} {meth : Method} {c : Code} (F : Fx G p l s m args meth c cX6_bestTrades RX6 2 (some .int)) (y1 : Int32) (M : Mem) : Rf G p l e s m args below meth c 10 2 (emT vI) (f_X6_bestTrades_22  y1 M) 22 [(0, .ref (gA G 0)), (1, .int y1)] [] M := by
  unfold f_X6_bestTrades_22
  refine r_aload_n F 0 dX6_bestTrades_22 rfl rfl ?_
  refine gf_X6_44 F dX6_bestTrades_23 (rfl : kd 0 = 0) ?_
  refine r_aload_n F 0 dX6_bestTrades_26 rfl rfl ?_
  refine gf_X6_10 F dX6_bestTrades_27 (rfl : kd 0 = 0) ?_
  refine r_cVN (val := vU) (As := [.ref (gA G 34)]) (rest := []) (fun _ => []) F (c_X4_find F.st F.gg 34 M) (fun _ _ => rfl) dX6_bestTrades_30 mn_X6_298 yv_X4_find (rfl : kd 12 = 5) (by decide) rfl rfl (by decide) rfl (Nat.le_of_ble_eq_true rfl) (fun _ => rfl) (fun _ M30 => ?_)
  refine r_aload_n F 0 dX6_bestTrades_33 rfl rfl ?_
  refine gf_X6_44 F dX6_bestTrades_34 (rfl : kd 0 = 0) ?_
  refine r_iload_n F 1 dX6_bestTrades_37 rfl rfl ?_
  refine r_cVN (val := vI) (As := [.int y1]) (rest := []) (fun q9 => .int q9 :: []) F (c_X4_tell F.st F.gg y1 M30) (fun _ _ => rfl) dX6_bestTrades_38 mn_X6_299 yv_X4_tell (rfl : kd 12 = 5) (by decide) rfl rfl (by decide) rfl (Nat.le_of_ble_eq_true rfl) (fun _ => rfl) (fun r38 M38 => ?_)
  exact r_iret F rfl dX6_bestTrades_41 rfl

def f_X6_bestTrades (a1 : Int32) (M : Mem) : Option ((Int32 ⊕ String) × Mem) := if a1 = 0 then (f_X6_bestTrades_22  a1 M) else (bn (f_X6_isPlace a1 M) fun r5 M5 => if r5 = 0 then (some (.inr exA, M5)) else (f_X6_bestTrades_22  a1 M5))

set_option maxRecDepth 100000 in
set_option maxHeartbeats 4000000 in
theorem b_X6_bestTrades {G : GM} {p : Program} {l : Launch} {e : Env} {s : State} {m : MethodId} {args : Array Value} {below : List Frame} {meth : Method} {c : Code} (F : Fx G p l s m args meth c cX6_bestTrades RX6 2 (some .int)) (a1 : Int32) (M : Mem) : Rf G p l e s m args below meth c 10 2 (emT vI) (f_X6_bestTrades a1 M) 0 [(0, .ref (gA G 0)), (1, .int a1)] [] M := by
  unfold f_X6_bestTrades
  refine r_iload_n F 1 dX6_bestTrades_0 rfl rfl ?_
  refine r_if_eq (tgt := 22) F dX6_bestTrades_1 (by decide) (fun c1 => ?_) (fun c1 => ?_)
  · refine r_sub [0, 1] rfl ?_
    exact l_X6_bestTrades_22 F   a1 M
  · refine r_iload_n F 1 dX6_bestTrades_4 rfl rfl ?_
    refine r_cS (val := vI) (As := [.int a1]) (rest := []) (fun q9 => .int q9 :: []) F (c_X6_isPlace F.st F.gg a1 M) (fun _ _ => rfl) dX6_bestTrades_5 ml_X6_292 ys_X6_isPlace rfl (by decide) rfl (Nat.le_of_ble_eq_true rfl) (fun _ => rfl) (fun r5 M5 => ?_)
    refine r_if_ne (tgt := 22) F dX6_bestTrades_8 (by decide) (fun c2 => ?_) (fun c2 => ?_)
    · exact r_throwW F atA cl_X6_52 ini_IllegalArgumentException (by decide : (296, "what is not 0 or 10 to 15") ∈ strW) dX6_bestTrades_11 dX6_bestTrades_14 dX6_bestTrades_15 dX6_bestTrades_18 dX6_bestTrades_21 (by decide) (Nat.le_of_ble_eq_true rfl)
    · refine r_sub [0, 1] rfl ?_
      exact l_X6_bestTrades_22 F   a1 M5

set_option maxRecDepth 100000 in
set_option maxHeartbeats 4000000 in
theorem c_X6_bestTrades {l : Launch} {G : GM} (hl : l.stackTraces = false) (hG : GG G) (a1 : Int32) (M : Mem) : ∀ r, f_X6_bestTrades a1 M = some r → Ctr l G yX6_bestTrades (.code yX6_bestTrades cX6_bestTrades 2 (some .int) :: wsA) 10 [.ref (gA G 0), .int a1] M ((emT vI) r) :=
  ctr_of (by decide) hl hG (Nat.le_of_ble_eq_true rfl) (fun p e s m args below meth c F => b_X6_bestTrades F a1 M)

-- ===== X6_bestTurn DrumTowns.bestTurn(II)I =====
theorem yv_X6_bestTurn : yV yX6_bestTurn cX6_bestTurn 7 (some .int) 2 := ⟨im_X6_bestTurn, sl_X6_bestTurn, ini_X6, cd_X6_bestTurn, ⟨by decide, by decide, by decide +kernel⟩, by decide⟩

def f_X6_bestTurn_81 (k44 : Int32 → Int32 → Int32 → Int32 → Int32 → Mem → Option ((Int32 ⊕ String) × Mem)) (y1 : Int32) (y2 : Int32) (y3 : Int32) (y4 : Int32) (y5 : Int32) (M : Mem) : Option ((Int32 ⊕ String) × Mem) := bnd (y5 + (1 : Int32)) fun x81 => k44 y1 y2 y3 y4 x81 M

set_option maxRecDepth 100000 in
set_option maxHeartbeats 4000000 in
theorem l_X6_bestTurn_81 {G : GM} {p : Program} {l : Launch} {e : Env} {s : State} {m : MethodId} {args : Array Value} {below : List Frame} {meth : Method} {c : Code} (F : Fx G p l s m args meth c cX6_bestTurn RX6 7 (some .int)) (k44 : Int32 → Int32 → Int32 → Int32 → Int32 → Mem → Option ((Int32 ⊕ String) × Mem)) (H44 : ∀ (y1 : Int32) (y2 : Int32) (y3 : Int32) (y4 : Int32) (y5 : Int32) (M : Mem), Rf G p l e s m args below meth c 9 7 (emT vI) (k44 y1 y2 y3 y4 y5 M) 44 [(0, .ref (gA G 0)), (1, .int y1), (2, .int y2), (3, .int y3), (4, .int y4), (5, .int y5)] [] M) (y1 : Int32) (y2 : Int32) (y3 : Int32) (y4 : Int32) (y5 : Int32) (M : Mem) : Rf G p l e s m args below meth c 9 7 (emT vI) (f_X6_bestTurn_81 k44 y1 y2 y3 y4 y5 M) 81 [(0, .ref (gA G 0)), (1, .int y1), (2, .int y2), (3, .int y3), (4, .int y4), (5, .int y5)] [] M := by
  unfold f_X6_bestTurn_81
  refine r_iinc (ls' := fun q9 => [(5, .int q9), (0, .ref (gA G 0)), (1, .int y1), (2, .int y2), (3, .int y3), (4, .int y4)]) (k := 5) (v := y5 + (1 : Int32)) F dX6_bestTurn_81 rfl rfl (by decide) (fun _ => rfl) (fun x81 => ?_)
  refine r_goto (tgt := 44) F dX6_bestTurn_84 (by decide) ?_
  refine r_sub [1, 2, 3, 4, 5, 0] rfl ?_
  exact H44 y1 y2 y3 y4 x81 M

def f_X6_bestTurn_97 (z0 : Int32) (M : Mem) : Option ((Int32 ⊕ String) × Mem) := some (.inl z0, M)

set_option maxRecDepth 100000 in
set_option maxHeartbeats 4000000 in
theorem l_X6_bestTurn_97 {G : GM} {p : Program} {l : Launch} {e : Env} {s : State} {m : MethodId} {args : Array Value} {below : List Frame} {meth : Method} {c : Code} (F : Fx G p l s m args meth c cX6_bestTurn RX6 7 (some .int)) (z0 : Int32) (M : Mem) : Rf G p l e s m args below meth c 9 7 (emT vI) (f_X6_bestTurn_97  z0 M) 97 [] [.int z0] M := by
  unfold f_X6_bestTurn_97
  exact r_iret F rfl dX6_bestTurn_97 rfl

def f_X6_bestTurn_44 : Nat → Int32 → Int32 → Int32 → Int32 → Int32 → Mem → Option ((Int32 ⊕ String) × Mem)
  | 0, _, _, _, _, _, _ => none
  | n + 1, y1, y2, y3, y4, y5, M => if (24 : Int32) ≤ y5 then (if y2 = 0 then (f_X6_bestTurn_97  y3 M) else (f_X6_bestTurn_97  y4 M)) else (chk (inb y1 6) <| bnd (tw 35 y1) fun b59 => bn (f_X3_rightIfTurned b59 y5 M) fun r62 M62 => if r62 ≤ y4 then (f_X6_bestTurn_81 (f_X6_bestTurn_44  n) y1 y2 y3 y4 y5 M62) else (f_X6_bestTurn_81 (f_X6_bestTurn_44  n) y1 y2 y5 r62 y5 M62))

set_option maxRecDepth 100000 in
set_option maxHeartbeats 4000000 in
theorem l_X6_bestTurn_44 {G : GM} {p : Program} {l : Launch} {e : Env} {s : State} {m : MethodId} {args : Array Value} {below : List Frame} {meth : Method} {c : Code} (F : Fx G p l s m args meth c cX6_bestTurn RX6 7 (some .int)) : ∀ (n : Nat) (y1 : Int32) (y2 : Int32) (y3 : Int32) (y4 : Int32) (y5 : Int32) (M : Mem), Rf G p l e s m args below meth c 9 7 (emT vI) (f_X6_bestTurn_44  n y1 y2 y3 y4 y5 M) 44 [(0, .ref (gA G 0)), (1, .int y1), (2, .int y2), (3, .int y3), (4, .int y4), (5, .int y5)] [] M := by
  intro n
  induction n with
  | zero => intros; exact r_none
  | succ n ih =>
    intro y1 y2 y3 y4 y5 M
    rw [f_X6_bestTurn_44]
    refine r_iload F 5 dX6_bestTurn_44 rfl ?_
    refine r_bipush F dX6_bestTurn_46 (v := 24) (by decide) ?_
    refine r_icmp_ge (tgt := 87) F dX6_bestTurn_48 (by decide) (fun c1 => ?_) (fun c1 => ?_)
    · refine r_iload_n F 2 dX6_bestTurn_87 rfl rfl ?_
      refine r_if_ne (tgt := 95) F dX6_bestTurn_88 (by decide) (fun c2 => ?_) (fun c2 => ?_)
      · refine r_iload_n F 3 dX6_bestTurn_91 rfl rfl ?_
        refine r_goto (tgt := 97) F dX6_bestTurn_92 (by decide) ?_
        refine r_sub [] rfl ?_
        exact l_X6_bestTurn_97 F   y3 M
      · refine r_iload F 4 dX6_bestTurn_95 rfl ?_
        refine r_sub [] rfl ?_
        exact l_X6_bestTurn_97 F   y4 M
    · refine r_aload_n F 0 dX6_bestTurn_51 rfl rfl ?_
      refine gf_X6_10 F dX6_bestTurn_52 (rfl : kd 0 = 0) ?_
      refine gf_X6_76 F dX6_bestTurn_55 (rfl : kd 34 = 1) ?_
      refine r_iload_n F 1 dX6_bestTurn_58 rfl rfl ?_
      refine r_chk (fun h3 => ?_)
      refine r_aaldT F dX6_bestTurn_59 (rfl : kd 35 = 9) h3 ?_
      refine r_br (kTw' (rfl : kd 35 = 9) h3) (fun b59 k59 => ?_)
      refine r_iload F 5 dX6_bestTurn_60 rfl ?_
      refine r_cVN (val := vI) (As := [.int y5]) (rest := []) (fun q9 => .int q9 :: []) F (c_X3_rightIfTurned F.st F.gg b59 y5 M) (fun _ _ => rfl) dX6_bestTurn_62 mn_X6_285 yv_X3_rightIfTurned k59 (by decide) rfl rfl (by decide) rfl (Nat.le_of_ble_eq_true rfl) (fun _ => rfl) (fun r62 M62 => ?_)
      refine r_istore (ls' := [(6, .int r62), (0, .ref (gA G 0)), (1, .int y1), (2, .int y2), (3, .int y3), (4, .int y4), (5, .int y5)]) F dX6_bestTurn_65 (by decide) rfl ?_
      refine r_iload F 0 dX6_bestTurn_67 rfl ?_
      refine r_iload F 5 dX6_bestTurn_69 rfl ?_
      refine r_icmp_le (tgt := 81) F dX6_bestTurn_71 (by decide) (fun c4 => ?_) (fun c4 => ?_)
      · refine r_sub [1, 2, 3, 4, 5, 6] rfl ?_
        exact l_X6_bestTurn_81 F (f_X6_bestTurn_44  n) (fun q0 q1 q2 q3 q4 M9 => ih q0 q1 q2 q3 q4 M9) y1 y2 y3 y4 y5 M62
      · refine r_iload F 6 dX6_bestTurn_74 rfl ?_
        refine r_istore_n (ls' := [(3, .int y5), (6, .int r62), (0, .ref (gA G 0)), (1, .int y1), (2, .int y2), (4, .int y4), (5, .int y5)]) F dX6_bestTurn_76 rfl (by decide) rfl ?_
        refine r_iload F 1 dX6_bestTurn_77 rfl ?_
        refine r_istore (ls' := [(4, .int r62), (3, .int y5), (6, .int r62), (0, .ref (gA G 0)), (1, .int y1), (2, .int y2), (5, .int y5)]) F dX6_bestTurn_79 (by decide) rfl ?_
        refine r_sub [3, 4, 5, 1, 0, 6] rfl ?_
        exact l_X6_bestTurn_81 F (f_X6_bestTurn_44  n) (fun q0 q1 q2 q3 q4 M9 => ih q0 q1 q2 q3 q4 M9) y1 y2 y5 r62 y5 M62

def f_X6_bestTurn_25 (y1 : Int32) (y2 : Int32) (M : Mem) : Option ((Int32 ⊕ String) × Mem) := chk (inb y1 6) <| bnd (tw 35 y1) fun b35 => bn (f_X3_rightPins b35 M) fun r36 M36 => f_X6_bestTurn_44  FU y1 y2 (0 : Int32) r36 (1 : Int32) M36

set_option maxRecDepth 100000 in
set_option maxHeartbeats 4000000 in
theorem l_X6_bestTurn_25 {G : GM} {p : Program} {l : Launch} {e : Env} {s : State} {m : MethodId} {args : Array Value} {below : List Frame} {meth : Method} {c : Code} (F : Fx G p l s m args meth c cX6_bestTurn RX6 7 (some .int)) (y1 : Int32) (y2 : Int32) (M : Mem) : Rf G p l e s m args below meth c 9 7 (emT vI) (f_X6_bestTurn_25  y1 y2 M) 25 [(0, .ref (gA G 0)), (1, .int y1), (2, .int y2)] [] M := by
  unfold f_X6_bestTurn_25
  refine r_iconst F dX6_bestTurn_25 (v := 0) (by decide) ?_
  refine r_istore_n (ls' := [(3, .int (0 : Int32)), (0, .ref (gA G 0)), (1, .int y1), (2, .int y2)]) F dX6_bestTurn_26 rfl (by decide) rfl ?_
  refine r_aload_n F 1 dX6_bestTurn_27 rfl rfl ?_
  refine gf_X6_10 F dX6_bestTurn_28 (rfl : kd 0 = 0) ?_
  refine gf_X6_76 F dX6_bestTurn_31 (rfl : kd 34 = 1) ?_
  refine r_iload_n F 2 dX6_bestTurn_34 rfl rfl ?_
  refine r_chk (fun h1 => ?_)
  refine r_aaldT F dX6_bestTurn_35 (rfl : kd 35 = 9) h1 ?_
  refine r_br (kTw' (rfl : kd 35 = 9) h1) (fun b35 k35 => ?_)
  refine r_cVN (val := vI) (As := []) (rest := []) (fun q9 => .int q9 :: []) F (c_X3_rightPins F.st F.gg b35 M) (fun _ _ => rfl) dX6_bestTurn_36 mn_X6_129 yv_X3_rightPins k35 (by decide) rfl rfl (by decide) rfl (Nat.le_of_ble_eq_true rfl) (fun _ => rfl) (fun r36 M36 => ?_)
  refine r_istore (ls' := [(4, .int r36), (3, .int (0 : Int32)), (0, .ref (gA G 0)), (1, .int y1), (2, .int y2)]) F dX6_bestTurn_39 (by decide) rfl ?_
  refine r_iconst F dX6_bestTurn_41 (v := 1) (by decide) ?_
  refine r_istore (ls' := [(5, .int (1 : Int32)), (4, .int r36), (3, .int (0 : Int32)), (0, .ref (gA G 0)), (1, .int y1), (2, .int y2)]) F dX6_bestTurn_42 (by decide) rfl ?_
  refine r_sub [3, 4, 5, 2, 1, 0] rfl ?_
  exact l_X6_bestTurn_44 F   FU y1 y2 (0 : Int32) r36 (1 : Int32) M36

def f_X6_bestTurn (a1 : Int32) (a2 : Int32) (M : Mem) : Option ((Int32 ⊕ String) × Mem) := bt (f_X6_checkTown a1 M) fun _ M2 => if a2 = 0 then (f_X6_bestTurn_25  a1 a2 M2) else (if a2 = (1 : Int32) then (f_X6_bestTurn_25  a1 a2 M2) else (some (.inr exA, M2)))

set_option maxRecDepth 100000 in
set_option maxHeartbeats 4000000 in
theorem b_X6_bestTurn {G : GM} {p : Program} {l : Launch} {e : Env} {s : State} {m : MethodId} {args : Array Value} {below : List Frame} {meth : Method} {c : Code} (F : Fx G p l s m args meth c cX6_bestTurn RX6 7 (some .int)) (a1 : Int32) (a2 : Int32) (M : Mem) : Rf G p l e s m args below meth c 9 7 (emT vI) (f_X6_bestTurn a1 a2 M) 0 [(0, .ref (gA G 0)), (1, .int a1), (2, .int a2)] [] M := by
  unfold f_X6_bestTurn
  refine r_aload_n F 0 dX6_bestTurn_0 rfl rfl ?_
  refine r_iload_n F 1 dX6_bestTurn_1 rfl rfl ?_
  refine r_tV (val := vU) (As := [.int a1]) (rest := []) (fun _ => []) F (c_X6_checkTown F.st F.gg a1 M) dX6_bestTurn_2 ml_X6_120 yv_X6_checkTown (rfl : kd 0 = 0) (by decide) rfl rfl (by decide) rfl (Nat.le_of_ble_eq_true rfl) (fun _ => rfl) (fun _ M2 => ?_)
  refine r_iload_n F 2 dX6_bestTurn_5 rfl rfl ?_
  refine r_if_eq (tgt := 25) F dX6_bestTurn_6 (by decide) (fun c1 => ?_) (fun c1 => ?_)
  · refine r_sub [0, 1, 2] rfl ?_
    exact l_X6_bestTurn_25 F   a1 a2 M2
  · refine r_iload_n F 2 dX6_bestTurn_9 rfl rfl ?_
    refine r_iconst F dX6_bestTurn_10 (v := 1) (by decide) ?_
    refine r_icmp_eq (tgt := 25) F dX6_bestTurn_11 (by decide) (fun c2 => ?_) (fun c2 => ?_)
    · refine r_sub [0, 1, 2] rfl ?_
      exact l_X6_bestTurn_25 F   a1 a2 M2
    · exact r_throwW F atA cl_X6_52 ini_IllegalArgumentException (by decide : (283, "what is not 0 or 1") ∈ strW) dX6_bestTurn_14 dX6_bestTurn_17 dX6_bestTurn_18 dX6_bestTurn_21 dX6_bestTurn_24 (by decide) (Nat.le_of_ble_eq_true rfl)

set_option maxRecDepth 100000 in
set_option maxHeartbeats 4000000 in
theorem c_X6_bestTurn {l : Launch} {G : GM} (hl : l.stackTraces = false) (hG : GG G) (a1 : Int32) (a2 : Int32) (M : Mem) : ∀ r, f_X6_bestTurn a1 a2 M = some r → Ctr l G yX6_bestTurn (.code yX6_bestTurn cX6_bestTurn 7 (some .int) :: wsA) 9 [.ref (gA G 0), .int a1, .int a2] M ((emT vI) r) :=
  ctr_of (by decide) hl hG (Nat.le_of_ble_eq_true rfl) (fun p e s m args below meth c F => b_X6_bestTurn F a1 a2 M)

-- ===== X6_bitsOf DrumTowns.bitsOf(D)J =====
theorem ys_X6_bitsOf : yS yX6_bitsOf cX6_bitsOf 8 (some .long) 1 := ⟨sc_X6_bitsOf, ini_X6, cd_X6_bitsOf, ⟨by decide, by decide, by decide +kernel⟩, by decide⟩

def f_X6_bitsOf_50 (y2 : UInt64) (y4 : Int64) (M : Mem) : Option (Int64 × Mem) := chk (nn64 (FP.dsub y2 FP.dconst1)) <| chk (nn64 (FP.dmul (FP.dsub y2 FP.dconst1) (4841369599423283200 : UInt64))) <| bnd (FP.dmul (FP.dsub y2 FP.dconst1) (4841369599423283200 : UInt64)) fun x57 => some (((y4 <<< (((52 : Int32)).toInt64 &&& 63)) + (FP.d2l x57)), M)

set_option maxRecDepth 100000 in
set_option maxHeartbeats 4000000 in
theorem l_X6_bitsOf_50 {G : GM} {p : Program} {l : Launch} {e : Env} {s : State} {m : MethodId} {args : Array Value} {below : List Frame} {meth : Method} {c : Code} (F : Fx G p l s m args meth c cX6_bitsOf RX6 8 (some .long)) (y2 : UInt64) (y4 : Int64) (M : Mem) : Rf G p l e s m args below meth c 6 8 emL (f_X6_bitsOf_50  y2 y4 M) 50 [(2, .double y2), (4, .long y4)] [] M := by
  unfold f_X6_bitsOf_50
  refine r_dload_n F 0 dX6_bitsOf_50 rfl rfl ?_
  refine r_dconst1 F dX6_bitsOf_51 ?_
  refine r_chk (fun h1 => ?_)
  refine r_dsub F dX6_bitsOf_52 (nn_n h1) ?_
  refine r_ldc2d F dX6_bitsOf_53 kc_X6_353 ?_
  refine r_chk (fun h2 => ?_)
  refine r_dmul F dX6_bitsOf_56 (nn_n h2) ?_
  refine r_bd (fun x57 => ?_)
  refine r_dstore (ls' := [(6, .double x57), (2, .double y2), (4, .long y4)]) F dX6_bitsOf_57 (by decide) rfl ?_
  refine r_lload F 2 dX6_bitsOf_59 rfl ?_
  refine r_bipush F dX6_bitsOf_61 (v := 52) (by decide) ?_
  refine r_lshl F dX6_bitsOf_63 ?_
  refine r_dload F 0 dX6_bitsOf_64 rfl ?_
  refine r_d2l F dX6_bitsOf_66 ?_
  refine r_ladd F dX6_bitsOf_67 ?_
  exact r_lret F rfl dX6_bitsOf_68 rfl

def f_X6_bitsOf_18 : Nat → UInt64 → Int64 → Int32 → Mem → Option (Int64 × Mem)
  | 0, _, _, _, _ => none
  | n + 1, y2, y4, y6, M => if (1023 : Int32) ≤ y6 then (f_X6_bitsOf_50  y2 y4 M) else (if 0 ≤ (Op.cmpValue (FP.dcmp y2 FP.dconst1) .g) then (f_X6_bitsOf_50  y2 y4 M) else (chk (nn64 (FP.dmul y2 (4611686018427387904 : UInt64))) <| bnd (FP.dmul y2 (4611686018427387904 : UInt64)) fun x37 => bnd (y4 - (1 : Int64)) fun x42 => bnd (y6 + (1 : Int32)) fun x44 => f_X6_bitsOf_18  n x37 x42 x44 M))

set_option maxRecDepth 100000 in
set_option maxHeartbeats 4000000 in
theorem l_X6_bitsOf_18 {G : GM} {p : Program} {l : Launch} {e : Env} {s : State} {m : MethodId} {args : Array Value} {below : List Frame} {meth : Method} {c : Code} (F : Fx G p l s m args meth c cX6_bitsOf RX6 8 (some .long)) : ∀ (n : Nat) (y2 : UInt64) (y4 : Int64) (y6 : Int32) (M : Mem), Rf G p l e s m args below meth c 6 8 emL (f_X6_bitsOf_18  n y2 y4 y6 M) 18 [(2, .double y2), (4, .long y4), (6, .int y6)] [] M := by
  intro n
  induction n with
  | zero => intros; exact r_none
  | succ n ih =>
    intro y2 y4 y6 M
    rw [f_X6_bitsOf_18]
    refine r_iload F 2 dX6_bitsOf_18 rfl ?_
    refine r_sipush F dX6_bitsOf_20 (v := 1023) (by decide) ?_
    refine r_icmp_ge (tgt := 50) F dX6_bitsOf_23 (by decide) (fun c1 => ?_) (fun c1 => ?_)
    · refine r_sub [0, 1] rfl ?_
      exact l_X6_bitsOf_50 F   y2 y4 M
    · refine r_dload_n F 0 dX6_bitsOf_26 rfl rfl ?_
      refine r_dconst1 F dX6_bitsOf_27 ?_
      refine r_dcmp F dX6_bitsOf_28 ?_
      refine r_if_ge (tgt := 50) F dX6_bitsOf_29 (by decide) (fun c2 => ?_) (fun c2 => ?_)
      · refine r_sub [0, 1] rfl ?_
        exact l_X6_bitsOf_50 F   y2 y4 M
      · refine r_dload_n F 0 dX6_bitsOf_32 rfl rfl ?_
        refine r_ldc2d F dX6_bitsOf_33 kc_X6_351 ?_
        refine r_chk (fun h3 => ?_)
        refine r_dmul F dX6_bitsOf_36 (nn_n h3) ?_
        refine r_bd (fun x37 => ?_)
        refine r_dstore_n (ls' := [(2, .double x37), (4, .long y4), (6, .int y6)]) F dX6_bitsOf_37 rfl (by decide) rfl ?_
        refine r_lload F 1 dX6_bitsOf_38 rfl ?_
        refine r_lconst F dX6_bitsOf_40 (v := 1) (by decide) ?_
        refine r_lsub F dX6_bitsOf_41 ?_
        refine r_bl (fun x42 => ?_)
        refine r_lstore (ls' := [(4, .long x42), (2, .double x37), (6, .int y6)]) F dX6_bitsOf_42 (by decide) rfl ?_
        refine r_iinc (ls' := fun q9 => [(6, .int q9), (4, .long x42), (2, .double x37)]) (k := 2) (v := y6 + (1 : Int32)) F dX6_bitsOf_44 rfl rfl (by decide) (fun _ => rfl) (fun x44 => ?_)
        refine r_goto (tgt := 18) F dX6_bitsOf_47 (by decide) ?_
        refine r_sub [2, 1, 0] rfl ?_
        exact ih x37 x42 x44 M

def f_X6_bitsOf (a0 : UInt64) (M : Mem) : Option (Int64 × Mem) := if 0 < (Op.cmpValue (FP.dcmp a0 FP.dconst0) .g) then (f_X6_bitsOf_18  FU a0 (1023 : Int64) (0 : Int32) M) else (some ((0 : Int64), M))

set_option maxRecDepth 100000 in
set_option maxHeartbeats 4000000 in
theorem b_X6_bitsOf {G : GM} {p : Program} {l : Launch} {e : Env} {s : State} {m : MethodId} {args : Array Value} {below : List Frame} {meth : Method} {c : Code} (F : Fx G p l s m args meth c cX6_bitsOf RX6 8 (some .long)) (a0 : UInt64) (M : Mem) : Rf G p l e s m args below meth c 6 8 emL (f_X6_bitsOf a0 M) 0 [(0, .double a0)] [] M := by
  unfold f_X6_bitsOf
  refine r_dload_n F 0 dX6_bitsOf_0 rfl rfl ?_
  refine r_dconst0 F dX6_bitsOf_1 ?_
  refine r_dcmp F dX6_bitsOf_2 ?_
  refine r_if_gt (tgt := 8) F dX6_bitsOf_3 (by decide) (fun c1 => ?_) (fun c1 => ?_)
  · refine r_dload_n F 0 dX6_bitsOf_8 rfl rfl ?_
    refine r_dstore_n (ls' := [(2, .double a0), (0, .double a0)]) F dX6_bitsOf_9 rfl (by decide) rfl ?_
    refine r_ldc2 F dX6_bitsOf_10 kc_X6_349 ?_
    refine r_lstore (ls' := [(4, .long (1023 : Int64)), (2, .double a0), (0, .double a0)]) F dX6_bitsOf_13 (by decide) rfl ?_
    refine r_iconst F dX6_bitsOf_15 (v := 0) (by decide) ?_
    refine r_istore (ls' := [(6, .int (0 : Int32)), (4, .long (1023 : Int64)), (2, .double a0), (0, .double a0)]) F dX6_bitsOf_16 (by decide) rfl ?_
    refine r_sub [2, 1, 0] rfl ?_
    exact l_X6_bitsOf_18 F   FU a0 (1023 : Int64) (0 : Int32) M
  · refine r_lconst F dX6_bitsOf_6 (v := 0) (by decide) ?_
    exact r_lret F rfl dX6_bitsOf_7 rfl

set_option maxRecDepth 100000 in
set_option maxHeartbeats 4000000 in
theorem c_X6_bitsOf {l : Launch} {G : GM} (hl : l.stackTraces = false) (hG : GG G) (a0 : UInt64) (M : Mem) : ∀ r, f_X6_bitsOf a0 M = some r → Ctr l G yX6_bitsOf (.code yX6_bitsOf cX6_bitsOf 8 (some .long) :: wsA) 6 [.double a0] M (emL r) :=
  ctr_of (by decide) hl hG (Nat.le_of_ble_eq_true rfl) (fun p e s m args below meth c F => b_X6_bitsOf F a0 M)

-- ===== X6_checkBoxes DrumTowns.checkBoxes(III)V =====
theorem yv_X6_checkBoxes : yV yX6_checkBoxes cX6_checkBoxes 4 none 3 := ⟨im_X6_checkBoxes, sl_X6_checkBoxes, ini_X6, cd_X6_checkBoxes, ⟨by decide, by decide, by decide +kernel⟩, by decide⟩

def f_X6_checkBoxes (a1 : Int32) (a2 : Int32) (a3 : Int32) (M : Mem) : Option ((Unit ⊕ String) × Mem) := chk (inb a1 6) <| bnd (tw 35 a1) fun b8 => if a3 ≤ (M.1 b8 0) then (chk (inb a2 6) <| bnd (tw 35 a2) fun b35 => chk (inb (2 : Int32) 3) <| if ((M.1 b35 0) + a3) ≤ (M.1 36 (2 : Int32).toNatClampNeg) then (some (.inl (), M)) else (some (.inr exS, M))) else (some (.inr exS, M))

set_option maxRecDepth 100000 in
set_option maxHeartbeats 4000000 in
theorem b_X6_checkBoxes {G : GM} {p : Program} {l : Launch} {e : Env} {s : State} {m : MethodId} {args : Array Value} {below : List Frame} {meth : Method} {c : Code} (F : Fx G p l s m args meth c cX6_checkBoxes RX6 4 none) (a1 : Int32) (a2 : Int32) (a3 : Int32) (M : Mem) : Rf G p l e s m args below meth c 6 4 (emT vU) (f_X6_checkBoxes a1 a2 a3 M) 0 [(0, .ref (gA G 0)), (1, .int a1), (2, .int a2), (3, .int a3)] [] M := by
  unfold f_X6_checkBoxes
  refine r_aload_n F 0 dX6_checkBoxes_0 rfl rfl ?_
  refine gf_X6_10 F dX6_checkBoxes_1 (rfl : kd 0 = 0) ?_
  refine gf_X6_76 F dX6_checkBoxes_4 (rfl : kd 34 = 1) ?_
  refine r_iload_n F 1 dX6_checkBoxes_7 rfl rfl ?_
  refine r_chk (fun h1 => ?_)
  refine r_aaldT F dX6_checkBoxes_8 (rfl : kd 35 = 9) h1 ?_
  refine r_br (kTw' (rfl : kd 35 = 9) h1) (fun b8 k8 => ?_)
  refine gf_X6_80 F dX6_checkBoxes_9 k8 ?_
  refine r_iload_n F 3 dX6_checkBoxes_12 rfl rfl ?_
  refine r_icmp_ge (tgt := 27) F dX6_checkBoxes_13 (by decide) (fun c2 => ?_) (fun c2 => ?_)
  · refine r_aload_n F 0 dX6_checkBoxes_27 rfl rfl ?_
    refine gf_X6_10 F dX6_checkBoxes_28 (rfl : kd 0 = 0) ?_
    refine gf_X6_76 F dX6_checkBoxes_31 (rfl : kd 34 = 1) ?_
    refine r_iload_n F 2 dX6_checkBoxes_34 rfl rfl ?_
    refine r_chk (fun h3 => ?_)
    refine r_aaldT F dX6_checkBoxes_35 (rfl : kd 35 = 9) h3 ?_
    refine r_br (kTw' (rfl : kd 35 = 9) h3) (fun b35 k35 => ?_)
    refine gf_X6_80 F dX6_checkBoxes_36 k35 ?_
    refine r_iload_n F 3 dX6_checkBoxes_39 rfl rfl ?_
    refine r_iadd F dX6_checkBoxes_40 ?_
    refine r_aload_n F 0 dX6_checkBoxes_41 rfl rfl ?_
    refine gf_X6_10 F dX6_checkBoxes_42 (rfl : kd 0 = 0) ?_
    refine gf_X6_68 F dX6_checkBoxes_45 (rfl : kd 34 = 1) ?_
    refine r_iconst F dX6_checkBoxes_48 (v := 2) (by decide) ?_
    refine r_chk (fun h4 => ?_)
    refine r_iald F dX6_checkBoxes_49 (rfl : kd 36 = 8) (rfl : al 36 = 3) h4 ?_
    refine r_icmp_le (tgt := 64) F dX6_checkBoxes_50 (by decide) (fun c5 => ?_) (fun c5 => ?_)
    · exact r_vret F rfl dX6_checkBoxes_64 rfl
    · exact r_throwW F atS cl_X6_63 ini_IllegalStateException (by decide : (370, "the other box cannot hold so many pins") ∈ strW) dX6_checkBoxes_53 dX6_checkBoxes_56 dX6_checkBoxes_57 dX6_checkBoxes_60 dX6_checkBoxes_63 (by decide) (Nat.le_of_ble_eq_true rfl)
  · exact r_throwW F atS cl_X6_63 ini_IllegalStateException (by decide : (368, "the box has fewer pins") ∈ strW) dX6_checkBoxes_16 dX6_checkBoxes_19 dX6_checkBoxes_20 dX6_checkBoxes_23 dX6_checkBoxes_26 (by decide) (Nat.le_of_ble_eq_true rfl)

set_option maxRecDepth 100000 in
set_option maxHeartbeats 4000000 in
theorem c_X6_checkBoxes {l : Launch} {G : GM} (hl : l.stackTraces = false) (hG : GG G) (a1 : Int32) (a2 : Int32) (a3 : Int32) (M : Mem) : ∀ r, f_X6_checkBoxes a1 a2 a3 M = some r → Ctr l G yX6_checkBoxes (.code yX6_checkBoxes cX6_checkBoxes 4 none :: wsA) 6 [.ref (gA G 0), .int a1, .int a2, .int a3] M ((emT vU) r) :=
  ctr_of (by decide) hl hG (Nat.le_of_ble_eq_true rfl) (fun p e s m args below meth c F => b_X6_checkBoxes F a1 a2 a3 M)

-- ===== X6_checkDifferent DrumTowns.checkDifferent(II)V =====
theorem ys_X6_checkDifferent : yS yX6_checkDifferent cX6_checkDifferent 2 none 2 := ⟨sc_X6_checkDifferent, ini_X6, cd_X6_checkDifferent, ⟨by decide, by decide, by decide +kernel⟩, by decide⟩

def f_X6_checkDifferent (a0 : Int32) (a1 : Int32) (M : Mem) : Option ((Unit ⊕ String) × Mem) := if a0 = a1 then (some (.inr exA, M)) else (some (.inl (), M))

set_option maxRecDepth 100000 in
set_option maxHeartbeats 4000000 in
theorem b_X6_checkDifferent {G : GM} {p : Program} {l : Launch} {e : Env} {s : State} {m : MethodId} {args : Array Value} {below : List Frame} {meth : Method} {c : Code} (F : Fx G p l s m args meth c cX6_checkDifferent RX6 2 none) (a0 : Int32) (a1 : Int32) (M : Mem) : Rf G p l e s m args below meth c 6 2 (emT vU) (f_X6_checkDifferent a0 a1 M) 0 [(0, .int a0), (1, .int a1)] [] M := by
  unfold f_X6_checkDifferent
  refine r_iload_n F 0 dX6_checkDifferent_0 rfl rfl ?_
  refine r_iload_n F 1 dX6_checkDifferent_1 rfl rfl ?_
  refine r_icmp_ne (tgt := 16) F dX6_checkDifferent_2 (by decide) (fun c1 => ?_) (fun c1 => ?_)
  · exact r_throwW F atA cl_X6_52 ini_IllegalArgumentException (by decide : (366, "both towns are the same") ∈ strW) dX6_checkDifferent_5 dX6_checkDifferent_8 dX6_checkDifferent_9 dX6_checkDifferent_12 dX6_checkDifferent_15 (by decide) (Nat.le_of_ble_eq_true rfl)
  · exact r_vret F rfl dX6_checkDifferent_16 rfl

set_option maxRecDepth 100000 in
set_option maxHeartbeats 4000000 in
theorem c_X6_checkDifferent {l : Launch} {G : GM} (hl : l.stackTraces = false) (hG : GG G) (a0 : Int32) (a1 : Int32) (M : Mem) : ∀ r, f_X6_checkDifferent a0 a1 M = some r → Ctr l G yX6_checkDifferent (.code yX6_checkDifferent cX6_checkDifferent 2 none :: wsA) 6 [.int a0, .int a1] M ((emT vU) r) :=
  ctr_of (by decide) hl hG (Nat.le_of_ble_eq_true rfl) (fun p e s m args below meth c F => b_X6_checkDifferent F a0 a1 M)

-- ===== X6_checkGiven DrumTowns.checkGiven(I)V =====
theorem ys_X6_checkGiven : yS yX6_checkGiven cX6_checkGiven 1 none 1 := ⟨sc_X6_checkGiven, ini_X6, cd_X6_checkGiven, ⟨by decide, by decide, by decide +kernel⟩, by decide⟩

def f_X6_checkGiven_12  (M : Mem) : Option ((Unit ⊕ String) × Mem) := some (.inr exA, M)

set_option maxRecDepth 100000 in
set_option maxHeartbeats 4000000 in
theorem l_X6_checkGiven_12 {G : GM} {p : Program} {l : Launch} {e : Env} {s : State} {m : MethodId} {args : Array Value} {below : List Frame} {meth : Method} {c : Code} (F : Fx G p l s m args meth c cX6_checkGiven RX6 1 none)  (M : Mem) : Rf G p l e s m args below meth c 6 1 (emT vU) (f_X6_checkGiven_12   M) 12 [] [] M := by
  unfold f_X6_checkGiven_12
  exact r_throw F atA cl_X6_52 ini_IllegalArgumentException (by decide : (54, "pins is out of range") ∈ strW) dX6_checkGiven_12 dX6_checkGiven_15 dX6_checkGiven_16 dX6_checkGiven_18 dX6_checkGiven_21 (by decide) (Nat.le_of_ble_eq_true rfl)

def f_X6_checkGiven (a0 : Int32) (M : Mem) : Option ((Unit ⊕ String) × Mem) := if a0 < (1 : Int32) then (f_X6_checkGiven_12   M) else (if a0 ≤ (200 : Int32) then (some (.inl (), M)) else (f_X6_checkGiven_12   M))

set_option maxRecDepth 100000 in
set_option maxHeartbeats 4000000 in
theorem b_X6_checkGiven {G : GM} {p : Program} {l : Launch} {e : Env} {s : State} {m : MethodId} {args : Array Value} {below : List Frame} {meth : Method} {c : Code} (F : Fx G p l s m args meth c cX6_checkGiven RX6 1 none) (a0 : Int32) (M : Mem) : Rf G p l e s m args below meth c 6 1 (emT vU) (f_X6_checkGiven a0 M) 0 [(0, .int a0)] [] M := by
  unfold f_X6_checkGiven
  refine r_iload_n F 0 dX6_checkGiven_0 rfl rfl ?_
  refine r_iconst F dX6_checkGiven_1 (v := 1) (by decide) ?_
  refine r_icmp_lt (tgt := 12) F dX6_checkGiven_2 (by decide) (fun c1 => ?_) (fun c1 => ?_)
  · refine r_sub [] rfl ?_
    exact l_X6_checkGiven_12 F    M
  · refine r_iload_n F 0 dX6_checkGiven_5 rfl rfl ?_
    refine r_sipush F dX6_checkGiven_6 (v := 200) (by decide) ?_
    refine r_icmp_le (tgt := 22) F dX6_checkGiven_9 (by decide) (fun c2 => ?_) (fun c2 => ?_)
    · exact r_vret F rfl dX6_checkGiven_22 rfl
    · refine r_sub [] rfl ?_
      exact l_X6_checkGiven_12 F    M

set_option maxRecDepth 100000 in
set_option maxHeartbeats 4000000 in
theorem c_X6_checkGiven {l : Launch} {G : GM} (hl : l.stackTraces = false) (hG : GG G) (a0 : Int32) (M : Mem) : ∀ r, f_X6_checkGiven a0 M = some r → Ctr l G yX6_checkGiven (.code yX6_checkGiven cX6_checkGiven 1 none :: wsA) 6 [.int a0] M ((emT vU) r) :=
  ctr_of (by decide) hl hG (Nat.le_of_ble_eq_true rfl) (fun p e s m args below meth c F => b_X6_checkGiven F a0 M)

-- ===== X6_checkStep DrumTowns.checkStep(I)V =====
theorem ys_X6_checkStep : yS yX6_checkStep cX6_checkStep 1 none 1 := ⟨sc_X6_checkStep, ini_X6, cd_X6_checkStep, ⟨by decide, by decide, by decide +kernel⟩, by decide⟩

def f_X6_checkStep_10  (M : Mem) : Option ((Unit ⊕ String) × Mem) := some (.inr exI, M)

set_option maxRecDepth 100000 in
set_option maxHeartbeats 4000000 in
theorem l_X6_checkStep_10 {G : GM} {p : Program} {l : Launch} {e : Env} {s : State} {m : MethodId} {args : Array Value} {below : List Frame} {meth : Method} {c : Code} (F : Fx G p l s m args meth c cX6_checkStep RX6 1 none)  (M : Mem) : Rf G p l e s m args below meth c 6 1 (emT vU) (f_X6_checkStep_10   M) 10 [] [] M := by
  unfold f_X6_checkStep_10
  exact r_throwW F atI cl_X6_355 ini_IndexOutOfBoundsException (by decide : (360, "there is no such step") ∈ strW) dX6_checkStep_10 dX6_checkStep_13 dX6_checkStep_14 dX6_checkStep_17 dX6_checkStep_20 (by decide) (Nat.le_of_ble_eq_true rfl)

def f_X6_checkStep (a0 : Int32) (M : Mem) : Option ((Unit ⊕ String) × Mem) := if a0 < 0 then (f_X6_checkStep_10   M) else (if a0 < (24 : Int32) then (some (.inl (), M)) else (f_X6_checkStep_10   M))

set_option maxRecDepth 100000 in
set_option maxHeartbeats 4000000 in
theorem b_X6_checkStep {G : GM} {p : Program} {l : Launch} {e : Env} {s : State} {m : MethodId} {args : Array Value} {below : List Frame} {meth : Method} {c : Code} (F : Fx G p l s m args meth c cX6_checkStep RX6 1 none) (a0 : Int32) (M : Mem) : Rf G p l e s m args below meth c 6 1 (emT vU) (f_X6_checkStep a0 M) 0 [(0, .int a0)] [] M := by
  unfold f_X6_checkStep
  refine r_iload_n F 0 dX6_checkStep_0 rfl rfl ?_
  refine r_if_lt (tgt := 10) F dX6_checkStep_1 (by decide) (fun c1 => ?_) (fun c1 => ?_)
  · refine r_sub [] rfl ?_
    exact l_X6_checkStep_10 F    M
  · refine r_iload_n F 0 dX6_checkStep_4 rfl rfl ?_
    refine r_bipush F dX6_checkStep_5 (v := 24) (by decide) ?_
    refine r_icmp_lt (tgt := 21) F dX6_checkStep_7 (by decide) (fun c2 => ?_) (fun c2 => ?_)
    · exact r_vret F rfl dX6_checkStep_21 rfl
    · refine r_sub [] rfl ?_
      exact l_X6_checkStep_10 F    M

set_option maxRecDepth 100000 in
set_option maxHeartbeats 4000000 in
theorem c_X6_checkStep {l : Launch} {G : GM} (hl : l.stackTraces = false) (hG : GG G) (a0 : Int32) (M : Mem) : ∀ r, f_X6_checkStep a0 M = some r → Ctr l G yX6_checkStep (.code yX6_checkStep cX6_checkStep 1 none :: wsA) 6 [.int a0] M ((emT vU) r) :=
  ctr_of (by decide) hl hG (Nat.le_of_ble_eq_true rfl) (fun p e s m args below meth c F => b_X6_checkStep F a0 M)

-- ===== X6_checkTooth DrumTowns.checkTooth(I)V =====
theorem ys_X6_checkTooth : yS yX6_checkTooth cX6_checkTooth 1 none 1 := ⟨sc_X6_checkTooth, ini_X6, cd_X6_checkTooth, ⟨by decide, by decide, by decide +kernel⟩, by decide⟩

def f_X6_checkTooth_10  (M : Mem) : Option ((Unit ⊕ String) × Mem) := some (.inr exI, M)

set_option maxRecDepth 100000 in
set_option maxHeartbeats 4000000 in
theorem l_X6_checkTooth_10 {G : GM} {p : Program} {l : Launch} {e : Env} {s : State} {m : MethodId} {args : Array Value} {below : List Frame} {meth : Method} {c : Code} (F : Fx G p l s m args meth c cX6_checkTooth RX6 1 none)  (M : Mem) : Rf G p l e s m args below meth c 6 1 (emT vU) (f_X6_checkTooth_10   M) 10 [] [] M := by
  unfold f_X6_checkTooth_10
  exact r_throwW F atI cl_X6_355 ini_IndexOutOfBoundsException (by decide : (362, "there is no such tooth") ∈ strW) dX6_checkTooth_10 dX6_checkTooth_13 dX6_checkTooth_14 dX6_checkTooth_17 dX6_checkTooth_20 (by decide) (Nat.le_of_ble_eq_true rfl)

def f_X6_checkTooth (a0 : Int32) (M : Mem) : Option ((Unit ⊕ String) × Mem) := if a0 < 0 then (f_X6_checkTooth_10   M) else (if a0 < (12 : Int32) then (some (.inl (), M)) else (f_X6_checkTooth_10   M))

set_option maxRecDepth 100000 in
set_option maxHeartbeats 4000000 in
theorem b_X6_checkTooth {G : GM} {p : Program} {l : Launch} {e : Env} {s : State} {m : MethodId} {args : Array Value} {below : List Frame} {meth : Method} {c : Code} (F : Fx G p l s m args meth c cX6_checkTooth RX6 1 none) (a0 : Int32) (M : Mem) : Rf G p l e s m args below meth c 6 1 (emT vU) (f_X6_checkTooth a0 M) 0 [(0, .int a0)] [] M := by
  unfold f_X6_checkTooth
  refine r_iload_n F 0 dX6_checkTooth_0 rfl rfl ?_
  refine r_if_lt (tgt := 10) F dX6_checkTooth_1 (by decide) (fun c1 => ?_) (fun c1 => ?_)
  · refine r_sub [] rfl ?_
    exact l_X6_checkTooth_10 F    M
  · refine r_iload_n F 0 dX6_checkTooth_4 rfl rfl ?_
    refine r_bipush F dX6_checkTooth_5 (v := 12) (by decide) ?_
    refine r_icmp_lt (tgt := 21) F dX6_checkTooth_7 (by decide) (fun c2 => ?_) (fun c2 => ?_)
    · exact r_vret F rfl dX6_checkTooth_21 rfl
    · refine r_sub [] rfl ?_
      exact l_X6_checkTooth_10 F    M

set_option maxRecDepth 100000 in
set_option maxHeartbeats 4000000 in
theorem c_X6_checkTooth {l : Launch} {G : GM} (hl : l.stackTraces = false) (hG : GG G) (a0 : Int32) (M : Mem) : ∀ r, f_X6_checkTooth a0 M = some r → Ctr l G yX6_checkTooth (.code yX6_checkTooth cX6_checkTooth 1 none :: wsA) 6 [.int a0] M ((emT vU) r) :=
  ctr_of (by decide) hl hG (Nat.le_of_ble_eq_true rfl) (fun p e s m args below meth c F => b_X6_checkTooth F a0 M)

-- ===== X6_checkPlace DrumTowns.checkPlace(III)V =====
theorem yv_X6_checkPlace : yV yX6_checkPlace cX6_checkPlace 4 none 3 := ⟨im_X6_checkPlace, sl_X6_checkPlace, ini_X6, cd_X6_checkPlace, ⟨by decide, by decide, by decide +kernel⟩, by decide⟩

def f_X6_checkPlace (a1 : Int32) (a2 : Int32) (a3 : Int32) (M : Mem) : Option ((Unit ⊕ String) × Mem) := bt (f_X6_checkTown a1 M) fun _ M2 => bt (f_X6_checkStep a2 M2) fun _ M6 => bt (f_X6_checkTooth a3 M6) fun _ M10 => some (.inl (), M10)

set_option maxRecDepth 100000 in
set_option maxHeartbeats 4000000 in
theorem b_X6_checkPlace {G : GM} {p : Program} {l : Launch} {e : Env} {s : State} {m : MethodId} {args : Array Value} {below : List Frame} {meth : Method} {c : Code} (F : Fx G p l s m args meth c cX6_checkPlace RX6 4 none) (a1 : Int32) (a2 : Int32) (a3 : Int32) (M : Mem) : Rf G p l e s m args below meth c 7 4 (emT vU) (f_X6_checkPlace a1 a2 a3 M) 0 [(0, .ref (gA G 0)), (1, .int a1), (2, .int a2), (3, .int a3)] [] M := by
  unfold f_X6_checkPlace
  refine r_aload_n F 0 dX6_checkPlace_0 rfl rfl ?_
  refine r_iload_n F 1 dX6_checkPlace_1 rfl rfl ?_
  refine r_tV (val := vU) (As := [.int a1]) (rest := []) (fun _ => []) F (c_X6_checkTown F.st F.gg a1 M) dX6_checkPlace_2 ml_X6_120 yv_X6_checkTown (rfl : kd 0 = 0) (by decide) rfl rfl (by decide) rfl (Nat.le_of_ble_eq_true rfl) (fun _ => rfl) (fun _ M2 => ?_)
  refine r_iload_n F 2 dX6_checkPlace_5 rfl rfl ?_
  refine r_tS (val := vU) (As := [.int a2]) (rest := []) (fun _ => []) F (c_X6_checkStep F.st F.gg a2 M2) dX6_checkPlace_6 ml_X6_236 ys_X6_checkStep rfl (by decide) rfl (Nat.le_of_ble_eq_true rfl) (fun _ => rfl) (fun _ M6 => ?_)
  refine r_iload_n F 3 dX6_checkPlace_9 rfl rfl ?_
  refine r_tS (val := vU) (As := [.int a3]) (rest := []) (fun _ => []) F (c_X6_checkTooth F.st F.gg a3 M6) dX6_checkPlace_10 ml_X6_139 ys_X6_checkTooth rfl (by decide) rfl (Nat.le_of_ble_eq_true rfl) (fun _ => rfl) (fun _ M10 => ?_)
  exact r_vret F rfl dX6_checkPlace_13 rfl

set_option maxRecDepth 100000 in
set_option maxHeartbeats 4000000 in
theorem c_X6_checkPlace {l : Launch} {G : GM} (hl : l.stackTraces = false) (hG : GG G) (a1 : Int32) (a2 : Int32) (a3 : Int32) (M : Mem) : ∀ r, f_X6_checkPlace a1 a2 a3 M = some r → Ctr l G yX6_checkPlace (.code yX6_checkPlace cX6_checkPlace 4 none :: wsA) 7 [.ref (gA G 0), .int a1, .int a2, .int a3] M ((emT vU) r) :=
  ctr_of (by decide) hl hG (Nat.le_of_ble_eq_true rfl) (fun p e s m args below meth c F => b_X6_checkPlace F a1 a2 a3 M)

