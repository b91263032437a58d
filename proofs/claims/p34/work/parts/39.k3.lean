/-! ===== the constructor of DrumTowns ===== -/
def upS (a : Nat) : Nat → Option Nat := va_up (va_up (va_up (va_up (va_up (va_up (fun _ => none) 0 (some (a + 36))) 1 (some (a + 70))) 2 (some (a + 104))) 3 (some (a + 138))) 4 (some (a + 172))) 5 (some (a + 206))
def eX6 (G : GM) (a : Nat) : Nat → va_E := fun j => if j = 0 then .inr (6, [.ref (a + 1), .ref (a + 35), .int 0, .ref (a + 240), .ref (a + 243), .ref (a + 248), .ref (a + 250), .ref (a + 260)]) else if j < 35 then eX0 G (a + 1) (j - 1) else if j = 35 then .inl (gC G 2, 6, .inr (.inr (.inr (.inr (upS a))))) else if j < 240 then eX0 G (a + (36 + 34 * ((j - 36) / 34))) ((j - 36) % 34) else if j < 243 then eX5 G (a + 240) (j - 240) else if j < 248 then eX1 G (a + 243) (j - 243) else if j < 250 then eX2 G (a + 248) (j - 248) else if j < 260 then eX4 G (a + 250) (j - 250) else zi G 24
set_option maxRecDepth 100000 in
set_option maxHeartbeats 8000000 in
theorem k_X6 {l : Launch} {G : GM} (hl : l.stackTraces = false) (hG : GG G) (a : Nat) : CtrN l G yX6_init cX6_init 2 4 a (.inr (6, [.null, .null, .int 0, .null, .null, .null, .null, .null])) 261 (eX6 G a) 260 3556 := by
  refine met_N (by decide) rfl hl hG (by decide) (fun p e s m args below meth c F hnm hN ha hs => ?_)
  refine n_aload_n F 0 dX6_init_0 rfl rfl ?_
  refine n_obj F ml_X6_1 dX6_init_1 ⟨Nat.le_of_ble_eq_true rfl, Nat.le_of_ble_eq_true rfl⟩ ?_
  refine n_aload_n F 0 dX6_init_4 rfl rfl ?_
  refine n_new (ci := 0) (fs := [.null, .int 0, .null, .null, .int 0, .int 0, .int 0, .int 0]) F tyX0 inA_X0 tyX0_ok cl_X6_7 in_X0 ini_X0 rfl df_X0 dX6_init_5 ⟨Nat.le_of_ble_eq_true rfl, Nat.le_of_ble_eq_true rfl⟩ ?_
  refine n_dup F dX6_init_8 rfl ?_
  refine n_initN (n8 := 1) F hN ha (k_X0 F.st F.gg (a + 1)) dX6_init_9 mn_X6_9 im_X0_init ini_X0 cd_X0_init rfl ⟨by decide, by decide, by decide +kernel⟩ ⟨Nat.le_of_ble_eq_true rfl, Nat.le_of_ble_eq_true rfl⟩ ⟨Nat.le_of_ble_eq_true rfl, Nat.le_of_ble_eq_true rfl⟩ rfl (Nat.le_of_ble_eq_true rfl) ?_
  refine n_putF (ci := 6) (ty := .object "DrumTowns$Land") (q9 := a + 1) F tyX6 inA_X6 tyX6_ok nmX6 rfl 0 (Nat.le_of_ble_eq_true rfl) rfl 0 (by decide) fl_X6_10 rfl rfl rfl hnm (by decide +kernel) rfl rfl (Nat.le_of_ble_eq_true rfl) dX6_init_12 ?_
  refine n_aload_n F 0 dX6_init_15 rfl rfl ?_
  refine n_bipush F dX6_init_16 (v := nI 6) (by decide) ?_
  refine n_anew (N := 6) (t0 := 2) F dX6_init_18 cl_X6_7 hN.2.1 rfl (by decide) (by decide) (Nat.le_of_ble_eq_true rfl) ⟨Nat.le_of_ble_eq_true rfl, Nat.le_of_ble_eq_true rfl⟩ ?_
  refine n_putF (ci := 6) (ty := .array (.object "DrumTowns$Land")) (q9 := a + 35) F tyX6 inA_X6 tyX6_ok nmX6 rfl 0 (Nat.le_of_ble_eq_true rfl) rfl 1 (by decide) fl_X6_16 rfl rfl rfl hnm (by decide +kernel) rfl rfl (Nat.le_of_ble_eq_true rfl) dX6_init_21 ?_
  refine n_iconst F dX6_init_24 (v := nI 0) (by decide) ?_
  refine n_istore_n (ls' := [(1, .int (nI 0)), (0, .ref a)]) F dX6_init_25 rfl (by decide) rfl ?_
  refine n_iload_n F 0 dX6_init_26 rfl rfl ?_
  refine n_bipush F dX6_init_27 (v := nI 6) (by decide) ?_
  refine n_icmp_geF (tgt := 51) F dX6_init_29 (by decide) (by decide) ?_
  refine n_aload_n F 1 dX6_init_32 rfl rfl ?_
  refine n_get (ci := 6) (v := .ref (a + 35)) F inA_X6 rfl 0 (Nat.le_of_ble_eq_true rfl) rfl 1 (by decide) fl_X6_16 rfl rfl dX6_init_33 ?_
  refine n_iload_n F 0 dX6_init_36 rfl rfl ?_
  refine n_new (ci := 0) (fs := [.null, .int 0, .null, .null, .int 0, .int 0, .int 0, .int 0]) F tyX0 inA_X0 tyX0_ok cl_X6_7 in_X0 ini_X0 rfl df_X0 dX6_init_37 ⟨Nat.le_of_ble_eq_true rfl, Nat.le_of_ble_eq_true rfl⟩ ?_
  refine n_dup F dX6_init_40 rfl ?_
  refine n_initN (n8 := 36) F hN ha (k_X0 F.st F.gg (a + 36)) dX6_init_41 mn_X6_9 im_X0_init ini_X0 cd_X0_init rfl ⟨by decide, by decide, by decide +kernel⟩ ⟨Nat.le_of_ble_eq_true rfl, Nat.le_of_ble_eq_true rfl⟩ ⟨Nat.le_of_ble_eq_true rfl, Nat.le_of_ble_eq_true rfl⟩ rfl (Nat.le_of_ble_eq_true rfl) ?_
  refine n_aast (t0 := 2) (ci := 0) (N := 6) F dX6_init_44 35 (Nat.le_of_ble_eq_true rfl) rfl rfl 36 (Nat.le_of_ble_eq_true rfl) rfl rfl (by decide) ?_
  refine n_iinc (ls' := [(1, .int (nI 1)), (0, .ref a)]) (k := 0) (v := nI 1) F dX6_init_45 rfl (by decide) (by decide) rfl ?_
  refine n_goto (tgt := 26) F dX6_init_48 (by decide) ?_
  refine n_iload_n F 0 dX6_init_26 rfl rfl ?_
  refine n_bipush F dX6_init_27 (v := nI 6) (by decide) ?_
  refine n_icmp_geF (tgt := 51) F dX6_init_29 (by decide) (by decide) ?_
  refine n_aload_n F 1 dX6_init_32 rfl rfl ?_
  refine n_get (ci := 6) (v := .ref (a + 35)) F inA_X6 rfl 0 (Nat.le_of_ble_eq_true rfl) rfl 1 (by decide) fl_X6_16 rfl rfl dX6_init_33 ?_
  refine n_iload_n F 0 dX6_init_36 rfl rfl ?_
  refine n_new (ci := 0) (fs := [.null, .int 0, .null, .null, .int 0, .int 0, .int 0, .int 0]) F tyX0 inA_X0 tyX0_ok cl_X6_7 in_X0 ini_X0 rfl df_X0 dX6_init_37 ⟨Nat.le_of_ble_eq_true rfl, Nat.le_of_ble_eq_true rfl⟩ ?_
  refine n_dup F dX6_init_40 rfl ?_
  refine n_initN (n8 := 70) F hN ha (k_X0 F.st F.gg (a + 70)) dX6_init_41 mn_X6_9 im_X0_init ini_X0 cd_X0_init rfl ⟨by decide, by decide, by decide +kernel⟩ ⟨Nat.le_of_ble_eq_true rfl, Nat.le_of_ble_eq_true rfl⟩ ⟨Nat.le_of_ble_eq_true rfl, Nat.le_of_ble_eq_true rfl⟩ rfl (Nat.le_of_ble_eq_true rfl) ?_
  refine n_aast (t0 := 2) (ci := 0) (N := 6) F dX6_init_44 35 (Nat.le_of_ble_eq_true rfl) rfl rfl 70 (Nat.le_of_ble_eq_true rfl) rfl rfl (by decide) ?_
  refine n_iinc (ls' := [(1, .int (nI 2)), (0, .ref a)]) (k := 0) (v := nI 2) F dX6_init_45 rfl (by decide) (by decide) rfl ?_
  refine n_goto (tgt := 26) F dX6_init_48 (by decide) ?_
  refine n_iload_n F 0 dX6_init_26 rfl rfl ?_
  refine n_bipush F dX6_init_27 (v := nI 6) (by decide) ?_
  refine n_icmp_geF (tgt := 51) F dX6_init_29 (by decide) (by decide) ?_
  refine n_aload_n F 1 dX6_init_32 rfl rfl ?_
  refine n_get (ci := 6) (v := .ref (a + 35)) F inA_X6 rfl 0 (Nat.le_of_ble_eq_true rfl) rfl 1 (by decide) fl_X6_16 rfl rfl dX6_init_33 ?_
  refine n_iload_n F 0 dX6_init_36 rfl rfl ?_
  refine n_new (ci := 0) (fs := [.null, .int 0, .null, .null, .int 0, .int 0, .int 0, .int 0]) F tyX0 inA_X0 tyX0_ok cl_X6_7 in_X0 ini_X0 rfl df_X0 dX6_init_37 ⟨Nat.le_of_ble_eq_true rfl, Nat.le_of_ble_eq_true rfl⟩ ?_
  refine n_dup F dX6_init_40 rfl ?_
  refine n_initN (n8 := 104) F hN ha (k_X0 F.st F.gg (a + 104)) dX6_init_41 mn_X6_9 im_X0_init ini_X0 cd_X0_init rfl ⟨by decide, by decide, by decide +kernel⟩ ⟨Nat.le_of_ble_eq_true rfl, Nat.le_of_ble_eq_true rfl⟩ ⟨Nat.le_of_ble_eq_true rfl, Nat.le_of_ble_eq_true rfl⟩ rfl (Nat.le_of_ble_eq_true rfl) ?_
  refine n_aast (t0 := 2) (ci := 0) (N := 6) F dX6_init_44 35 (Nat.le_of_ble_eq_true rfl) rfl rfl 104 (Nat.le_of_ble_eq_true rfl) rfl rfl (by decide) ?_
  refine n_iinc (ls' := [(1, .int (nI 3)), (0, .ref a)]) (k := 0) (v := nI 3) F dX6_init_45 rfl (by decide) (by decide) rfl ?_
  refine n_goto (tgt := 26) F dX6_init_48 (by decide) ?_
  refine n_iload_n F 0 dX6_init_26 rfl rfl ?_
  refine n_bipush F dX6_init_27 (v := nI 6) (by decide) ?_
  refine n_icmp_geF (tgt := 51) F dX6_init_29 (by decide) (by decide) ?_
  refine n_aload_n F 1 dX6_init_32 rfl rfl ?_
  refine n_get (ci := 6) (v := .ref (a + 35)) F inA_X6 rfl 0 (Nat.le_of_ble_eq_true rfl) rfl 1 (by decide) fl_X6_16 rfl rfl dX6_init_33 ?_
  refine n_iload_n F 0 dX6_init_36 rfl rfl ?_
  refine n_new (ci := 0) (fs := [.null, .int 0, .null, .null, .int 0, .int 0, .int 0, .int 0]) F tyX0 inA_X0 tyX0_ok cl_X6_7 in_X0 ini_X0 rfl df_X0 dX6_init_37 ⟨Nat.le_of_ble_eq_true rfl, Nat.le_of_ble_eq_true rfl⟩ ?_
  refine n_dup F dX6_init_40 rfl ?_
  refine n_initN (n8 := 138) F hN ha (k_X0 F.st F.gg (a + 138)) dX6_init_41 mn_X6_9 im_X0_init ini_X0 cd_X0_init rfl ⟨by decide, by decide, by decide +kernel⟩ ⟨Nat.le_of_ble_eq_true rfl, Nat.le_of_ble_eq_true rfl⟩ ⟨Nat.le_of_ble_eq_true rfl, Nat.le_of_ble_eq_true rfl⟩ rfl (Nat.le_of_ble_eq_true rfl) ?_
  refine n_aast (t0 := 2) (ci := 0) (N := 6) F dX6_init_44 35 (Nat.le_of_ble_eq_true rfl) rfl rfl 138 (Nat.le_of_ble_eq_true rfl) rfl rfl (by decide) ?_
  refine n_iinc (ls' := [(1, .int (nI 4)), (0, .ref a)]) (k := 0) (v := nI 4) F dX6_init_45 rfl (by decide) (by decide) rfl ?_
  refine n_goto (tgt := 26) F dX6_init_48 (by decide) ?_
  refine n_iload_n F 0 dX6_init_26 rfl rfl ?_
  refine n_bipush F dX6_init_27 (v := nI 6) (by decide) ?_
  refine n_icmp_geF (tgt := 51) F dX6_init_29 (by decide) (by decide) ?_
  refine n_aload_n F 1 dX6_init_32 rfl rfl ?_
  refine n_get (ci := 6) (v := .ref (a + 35)) F inA_X6 rfl 0 (Nat.le_of_ble_eq_true rfl) rfl 1 (by decide) fl_X6_16 rfl rfl dX6_init_33 ?_
  refine n_iload_n F 0 dX6_init_36 rfl rfl ?_
  refine n_new (ci := 0) (fs := [.null, .int 0, .null, .null, .int 0, .int 0, .int 0, .int 0]) F tyX0 inA_X0 tyX0_ok cl_X6_7 in_X0 ini_X0 rfl df_X0 dX6_init_37 ⟨Nat.le_of_ble_eq_true rfl, Nat.le_of_ble_eq_true rfl⟩ ?_
  refine n_dup F dX6_init_40 rfl ?_
  refine n_initN (n8 := 172) F hN ha (k_X0 F.st F.gg (a + 172)) dX6_init_41 mn_X6_9 im_X0_init ini_X0 cd_X0_init rfl ⟨by decide, by decide, by decide +kernel⟩ ⟨Nat.le_of_ble_eq_true rfl, Nat.le_of_ble_eq_true rfl⟩ ⟨Nat.le_of_ble_eq_true rfl, Nat.le_of_ble_eq_true rfl⟩ rfl (Nat.le_of_ble_eq_true rfl) ?_
  refine n_aast (t0 := 2) (ci := 0) (N := 6) F dX6_init_44 35 (Nat.le_of_ble_eq_true rfl) rfl rfl 172 (Nat.le_of_ble_eq_true rfl) rfl rfl (by decide) ?_
  refine n_iinc (ls' := [(1, .int (nI 5)), (0, .ref a)]) (k := 0) (v := nI 5) F dX6_init_45 rfl (by decide) (by decide) rfl ?_
  refine n_goto (tgt := 26) F dX6_init_48 (by decide) ?_
  refine n_iload_n F 0 dX6_init_26 rfl rfl ?_
  refine n_bipush F dX6_init_27 (v := nI 6) (by decide) ?_
  refine n_icmp_geF (tgt := 51) F dX6_init_29 (by decide) (by decide) ?_
  refine n_aload_n F 1 dX6_init_32 rfl rfl ?_
  refine n_get (ci := 6) (v := .ref (a + 35)) F inA_X6 rfl 0 (Nat.le_of_ble_eq_true rfl) rfl 1 (by decide) fl_X6_16 rfl rfl dX6_init_33 ?_
  refine n_iload_n F 0 dX6_init_36 rfl rfl ?_
  refine n_new (ci := 0) (fs := [.null, .int 0, .null, .null, .int 0, .int 0, .int 0, .int 0]) F tyX0 inA_X0 tyX0_ok cl_X6_7 in_X0 ini_X0 rfl df_X0 dX6_init_37 ⟨Nat.le_of_ble_eq_true rfl, Nat.le_of_ble_eq_true rfl⟩ ?_
  refine n_dup F dX6_init_40 rfl ?_
  refine n_initN (n8 := 206) F hN ha (k_X0 F.st F.gg (a + 206)) dX6_init_41 mn_X6_9 im_X0_init ini_X0 cd_X0_init rfl ⟨by decide, by decide, by decide +kernel⟩ ⟨Nat.le_of_ble_eq_true rfl, Nat.le_of_ble_eq_true rfl⟩ ⟨Nat.le_of_ble_eq_true rfl, Nat.le_of_ble_eq_true rfl⟩ rfl (Nat.le_of_ble_eq_true rfl) ?_
  refine n_aast (t0 := 2) (ci := 0) (N := 6) F dX6_init_44 35 (Nat.le_of_ble_eq_true rfl) rfl rfl 206 (Nat.le_of_ble_eq_true rfl) rfl rfl (by decide) ?_
  refine n_iinc (ls' := [(1, .int (nI 6)), (0, .ref a)]) (k := 0) (v := nI 6) F dX6_init_45 rfl (by decide) (by decide) rfl ?_
  refine n_goto (tgt := 26) F dX6_init_48 (by decide) ?_
  refine n_iload_n F 0 dX6_init_26 rfl rfl ?_
  refine n_bipush F dX6_init_27 (v := nI 6) (by decide) ?_
  refine n_icmp_geT (tgt := 51) F dX6_init_29 (by decide) (by decide) ?_
  refine n_aload_n F 1 dX6_init_51 rfl rfl ?_
  refine n_new (ci := 5) (fs := [.null, .int 0, .null, .int 0, .int 0, .int 0]) F tyX5 inA_X5 tyX5_ok cl_X6_20 in_X5 ini_X5 rfl df_X5 dX6_init_52 ⟨Nat.le_of_ble_eq_true rfl, Nat.le_of_ble_eq_true rfl⟩ ?_
  refine n_dup F dX6_init_55 rfl ?_
  refine n_initN (n8 := 240) F hN ha (k_X5 F.st F.gg (a + 240)) dX6_init_56 mn_X6_22 im_X5_init ini_X5 cd_X5_init rfl ⟨by decide, by decide, by decide +kernel⟩ ⟨Nat.le_of_ble_eq_true rfl, Nat.le_of_ble_eq_true rfl⟩ ⟨Nat.le_of_ble_eq_true rfl, Nat.le_of_ble_eq_true rfl⟩ rfl (Nat.le_of_ble_eq_true rfl) ?_
  refine n_putF (ci := 6) (ty := .object "DrumTowns$TuneText") (q9 := a + 240) F tyX6 inA_X6 tyX6_ok nmX6 rfl 0 (Nat.le_of_ble_eq_true rfl) rfl 3 (by decide) fl_X6_23 rfl rfl rfl hnm (by decide +kernel) rfl rfl (Nat.le_of_ble_eq_true rfl) dX6_init_59 ?_
  refine n_aload_n F 1 dX6_init_62 rfl rfl ?_
  refine n_new (ci := 1) (fs := [.null, .null, .null, .null, .int 0, .int 0, .int 0, .int 0, .int 0, .int 0, .int 0]) F tyX1 inA_X1 tyX1_ok cl_X6_27 in_X1 ini_X1 rfl df_X1 dX6_init_63 ⟨Nat.le_of_ble_eq_true rfl, Nat.le_of_ble_eq_true rfl⟩ ?_
  refine n_dup F dX6_init_66 rfl ?_
  refine n_initN (n8 := 243) F hN ha (k_X1 F.st F.gg (a + 243)) dX6_init_67 mn_X6_29 im_X1_init ini_X1 cd_X1_init rfl ⟨by decide, by decide, by decide +kernel⟩ ⟨Nat.le_of_ble_eq_true rfl, Nat.le_of_ble_eq_true rfl⟩ ⟨Nat.le_of_ble_eq_true rfl, Nat.le_of_ble_eq_true rfl⟩ rfl (Nat.le_of_ble_eq_true rfl) ?_
  refine n_putF (ci := 6) (ty := .object "DrumTowns$Playing") (q9 := a + 243) F tyX6 inA_X6 tyX6_ok nmX6 rfl 0 (Nat.le_of_ble_eq_true rfl) rfl 4 (by decide) fl_X6_30 rfl rfl rfl hnm (by decide +kernel) rfl rfl (Nat.le_of_ble_eq_true rfl) dX6_init_70 ?_
  refine n_aload_n F 1 dX6_init_73 rfl rfl ?_
  refine n_new (ci := 2) (fs := [.null, .int 0, .int 0]) F tyX2 inA_X2 tyX2_ok cl_X6_34 in_X2 ini_X2 rfl df_X2 dX6_init_74 ⟨Nat.le_of_ble_eq_true rfl, Nat.le_of_ble_eq_true rfl⟩ ?_
  refine n_dup F dX6_init_77 rfl ?_
  refine n_initN (n8 := 248) F hN ha (k_X2 F.st F.gg (a + 248)) dX6_init_78 mn_X6_36 im_X2_init ini_X2 cd_X2_init rfl ⟨by decide, by decide, by decide +kernel⟩ ⟨Nat.le_of_ble_eq_true rfl, Nat.le_of_ble_eq_true rfl⟩ ⟨Nat.le_of_ble_eq_true rfl, Nat.le_of_ble_eq_true rfl⟩ rfl (Nat.le_of_ble_eq_true rfl) ?_
  refine n_putF (ci := 6) (ty := .object "DrumTowns$Ring") (q9 := a + 248) F tyX6 inA_X6 tyX6_ok nmX6 rfl 0 (Nat.le_of_ble_eq_true rfl) rfl 5 (by decide) fl_X6_37 rfl rfl rfl hnm (by decide +kernel) rfl rfl (Nat.le_of_ble_eq_true rfl) dX6_init_81 ?_
  refine n_aload_n F 1 dX6_init_84 rfl rfl ?_
  refine n_new (ci := 4) (fs := [.null, .null, .null, .int 0, .int 0]) F tyX4 inA_X4 tyX4_ok cl_X6_41 in_X4 ini_X4 rfl df_X4 dX6_init_85 ⟨Nat.le_of_ble_eq_true rfl, Nat.le_of_ble_eq_true rfl⟩ ?_
  refine n_dup F dX6_init_88 rfl ?_
  refine n_initN (n8 := 250) F hN ha (k_X4 F.st F.gg (a + 250)) dX6_init_89 mn_X6_43 im_X4_init ini_X4 cd_X4_init rfl ⟨by decide, by decide, by decide +kernel⟩ ⟨Nat.le_of_ble_eq_true rfl, Nat.le_of_ble_eq_true rfl⟩ ⟨Nat.le_of_ble_eq_true rfl, Nat.le_of_ble_eq_true rfl⟩ rfl (Nat.le_of_ble_eq_true rfl) ?_
  refine n_putF (ci := 6) (ty := .object "DrumTowns$Trades") (q9 := a + 250) F tyX6 inA_X6 tyX6_ok nmX6 rfl 0 (Nat.le_of_ble_eq_true rfl) rfl 6 (by decide) fl_X6_44 rfl rfl rfl hnm (by decide +kernel) rfl rfl (Nat.le_of_ble_eq_true rfl) dX6_init_92 ?_
  refine n_aload_n F 1 dX6_init_95 rfl rfl ?_
  refine n_bipush F dX6_init_96 (v := nI 24) (by decide) ?_
  refine n_newi (N := 24) F dX6_init_98 (by decide) (by decide) (Nat.le_of_ble_eq_true rfl) ⟨Nat.le_of_ble_eq_true rfl, Nat.le_of_ble_eq_true rfl⟩ ?_
  refine n_putF (ci := 6) (ty := .array .int) (q9 := a + 260) F tyX6 inA_X6 tyX6_ok nmX6 rfl 0 (Nat.le_of_ble_eq_true rfl) rfl 7 (by decide) fl_X6_48 rfl rfl rfl hnm (by decide +kernel) rfl rfl (Nat.le_of_ble_eq_true rfl) dX6_init_100 ?_
  refine n_to (E2 := eX6 G a) (fun j hj => ?_) (n_ret F dX6_init_103)
  exact (match j, hj with
    | 0, _ => rfl
    | 1, _ => rfl
    | 2, _ => rfl
    | 3, _ => rfl
    | 4, _ => rfl
    | 5, _ => rfl
    | 6, _ => rfl
    | 7, _ => rfl
    | 8, _ => rfl
    | 9, _ => rfl
    | 10, _ => rfl
    | 11, _ => rfl
    | 12, _ => rfl
    | 13, _ => rfl
    | 14, _ => rfl
    | 15, _ => rfl
    | 16, _ => rfl
    | 17, _ => rfl
    | 18, _ => rfl
    | 19, _ => rfl
    | 20, _ => rfl
    | 21, _ => rfl
    | 22, _ => rfl
    | 23, _ => rfl
    | 24, _ => rfl
    | 25, _ => rfl
    | 26, _ => rfl
    | 27, _ => rfl
    | 28, _ => rfl
    | 29, _ => rfl
    | 30, _ => rfl
    | 31, _ => rfl
    | 32, _ => rfl
    | 33, _ => rfl
    | 34, _ => rfl
    | 35, _ => rfl
    | 36, _ => rfl
    | 37, _ => rfl
    | 38, _ => rfl
    | 39, _ => rfl
    | 40, _ => rfl
    | 41, _ => rfl
    | 42, _ => rfl
    | 43, _ => rfl
    | 44, _ => rfl
    | 45, _ => rfl
    | 46, _ => rfl
    | 47, _ => rfl
    | 48, _ => rfl
    | 49, _ => rfl
    | 50, _ => rfl
    | 51, _ => rfl
    | 52, _ => rfl
    | 53, _ => rfl
    | 54, _ => rfl
    | 55, _ => rfl
    | 56, _ => rfl
    | 57, _ => rfl
    | 58, _ => rfl
    | 59, _ => rfl
    | 60, _ => rfl
    | 61, _ => rfl
    | 62, _ => rfl
    | 63, _ => rfl
    | 64, _ => rfl
    | 65, _ => rfl
    | 66, _ => rfl
    | 67, _ => rfl
    | 68, _ => rfl
    | 69, _ => rfl
    | 70, _ => rfl
    | 71, _ => rfl
    | 72, _ => rfl
    | 73, _ => rfl
    | 74, _ => rfl
    | 75, _ => rfl
    | 76, _ => rfl
    | 77, _ => rfl
    | 78, _ => rfl
    | 79, _ => rfl
    | 80, _ => rfl
    | 81, _ => rfl
    | 82, _ => rfl
    | 83, _ => rfl
    | 84, _ => rfl
    | 85, _ => rfl
    | 86, _ => rfl
    | 87, _ => rfl
    | 88, _ => rfl
    | 89, _ => rfl
    | 90, _ => rfl
    | 91, _ => rfl
    | 92, _ => rfl
    | 93, _ => rfl
    | 94, _ => rfl
    | 95, _ => rfl
    | 96, _ => rfl
    | 97, _ => rfl
    | 98, _ => rfl
    | 99, _ => rfl
    | 100, _ => rfl
    | 101, _ => rfl
    | 102, _ => rfl
    | 103, _ => rfl
    | 104, _ => rfl
    | 105, _ => rfl
    | 106, _ => rfl
    | 107, _ => rfl
    | 108, _ => rfl
    | 109, _ => rfl
    | 110, _ => rfl
    | 111, _ => rfl
    | 112, _ => rfl
    | 113, _ => rfl
    | 114, _ => rfl
    | 115, _ => rfl
    | 116, _ => rfl
    | 117, _ => rfl
    | 118, _ => rfl
    | 119, _ => rfl
    | 120, _ => rfl
    | 121, _ => rfl
    | 122, _ => rfl
    | 123, _ => rfl
    | 124, _ => rfl
    | 125, _ => rfl
    | 126, _ => rfl
    | 127, _ => rfl
    | 128, _ => rfl
    | 129, _ => rfl
    | 130, _ => rfl
    | 131, _ => rfl
    | 132, _ => rfl
    | 133, _ => rfl
    | 134, _ => rfl
    | 135, _ => rfl
    | 136, _ => rfl
    | 137, _ => rfl
    | 138, _ => rfl
    | 139, _ => rfl
    | 140, _ => rfl
    | 141, _ => rfl
    | 142, _ => rfl
    | 143, _ => rfl
    | 144, _ => rfl
    | 145, _ => rfl
    | 146, _ => rfl
    | 147, _ => rfl
    | 148, _ => rfl
    | 149, _ => rfl
    | 150, _ => rfl
    | 151, _ => rfl
    | 152, _ => rfl
    | 153, _ => rfl
    | 154, _ => rfl
    | 155, _ => rfl
    | 156, _ => rfl
    | 157, _ => rfl
    | 158, _ => rfl
    | 159, _ => rfl
    | 160, _ => rfl
    | 161, _ => rfl
    | 162, _ => rfl
    | 163, _ => rfl
    | 164, _ => rfl
    | 165, _ => rfl
    | 166, _ => rfl
    | 167, _ => rfl
    | 168, _ => rfl
    | 169, _ => rfl
    | 170, _ => rfl
    | 171, _ => rfl
    | 172, _ => rfl
    | 173, _ => rfl
    | 174, _ => rfl
    | 175, _ => rfl
    | 176, _ => rfl
    | 177, _ => rfl
    | 178, _ => rfl
    | 179, _ => rfl
    | 180, _ => rfl
    | 181, _ => rfl
    | 182, _ => rfl
    | 183, _ => rfl
    | 184, _ => rfl
    | 185, _ => rfl
    | 186, _ => rfl
    | 187, _ => rfl
    | 188, _ => rfl
    | 189, _ => rfl
    | 190, _ => rfl
    | 191, _ => rfl
    | 192, _ => rfl
    | 193, _ => rfl
    | 194, _ => rfl
    | 195, _ => rfl
    | 196, _ => rfl
    | 197, _ => rfl
    | 198, _ => rfl
    | 199, _ => rfl
    | 200, _ => rfl
    | 201, _ => rfl
    | 202, _ => rfl
    | 203, _ => rfl
    | 204, _ => rfl
    | 205, _ => rfl
    | 206, _ => rfl
    | 207, _ => rfl
    | 208, _ => rfl
    | 209, _ => rfl
    | 210, _ => rfl
    | 211, _ => rfl
    | 212, _ => rfl
    | 213, _ => rfl
    | 214, _ => rfl
    | 215, _ => rfl
    | 216, _ => rfl
    | 217, _ => rfl
    | 218, _ => rfl
    | 219, _ => rfl
    | 220, _ => rfl
    | 221, _ => rfl
    | 222, _ => rfl
    | 223, _ => rfl
    | 224, _ => rfl
    | 225, _ => rfl
    | 226, _ => rfl
    | 227, _ => rfl
    | 228, _ => rfl
    | 229, _ => rfl
    | 230, _ => rfl
    | 231, _ => rfl
    | 232, _ => rfl
    | 233, _ => rfl
    | 234, _ => rfl
    | 235, _ => rfl
    | 236, _ => rfl
    | 237, _ => rfl
    | 238, _ => rfl
    | 239, _ => rfl
    | 240, _ => rfl
    | 241, _ => rfl
    | 242, _ => rfl
    | 243, _ => rfl
    | 244, _ => rfl
    | 245, _ => rfl
    | 246, _ => rfl
    | 247, _ => rfl
    | 248, _ => rfl
    | 249, _ => rfl
    | 250, _ => rfl
    | 251, _ => rfl
    | 252, _ => rfl
    | 253, _ => rfl
    | 254, _ => rfl
    | 255, _ => rfl
    | 256, _ => rfl
    | 257, _ => rfl
    | 258, _ => rfl
    | 259, _ => rfl
    | 260, _ => rfl
    | j + 261, h => absurd h (Nat.not_lt.mpr (Nat.le_add_left _ _)))
