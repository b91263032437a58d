/-! ===== the constructors ===== -/
abbrev zi (G : GM) (n : Nat) : va_E := .inl (gC G 0, n, .inl (fun _ => 0))
theorem df_X0 : ∀ j, j < 8 → defaultValue (tyX0 j) = vp_V [.null, .int 0, .null, .null, .int 0, .int 0, .int 0, .int 0] j := fun j hj => match j, hj with
  | 0, _ => rfl
  | 1, _ => rfl
  | 2, _ => rfl
  | 3, _ => rfl
  | 4, _ => rfl
  | 5, _ => rfl
  | 6, _ => rfl
  | 7, _ => rfl
  | j + 8, h => absurd h (Nat.not_lt.mpr (Nat.le_add_left _ _))
theorem df_X1 : ∀ j, j < 11 → defaultValue (tyX1 j) = vp_V [.null, .null, .null, .null, .int 0, .int 0, .int 0, .int 0, .int 0, .int 0, .int 0] j := fun j hj => match j, hj with
  | 0, _ => rfl
  | 1, _ => rfl
  | 2, _ => rfl
  | 3, _ => rfl
  | 4, _ => rfl
  | 5, _ => rfl
  | 6, _ => rfl
  | 7, _ => rfl
  | 8, _ => rfl
  | 9, _ => rfl
  | 10, _ => rfl
  | j + 11, h => absurd h (Nat.not_lt.mpr (Nat.le_add_left _ _))
theorem df_X2 : ∀ j, j < 3 → defaultValue (tyX2 j) = vp_V [.null, .int 0, .int 0] j := fun j hj => match j, hj with
  | 0, _ => rfl
  | 1, _ => rfl
  | 2, _ => rfl
  | j + 3, h => absurd h (Nat.not_lt.mpr (Nat.le_add_left _ _))
theorem df_X3 : ∀ j, j < 7 → defaultValue (tyX3 j) = vp_V [.int 0, .null, .null, .null, .int 0, .int 0, .int 0] j := fun j hj => match j, hj with
  | 0, _ => rfl
  | 1, _ => rfl
  | 2, _ => rfl
  | 3, _ => rfl
  | 4, _ => rfl
  | 5, _ => rfl
  | 6, _ => rfl
  | j + 7, h => absurd h (Nat.not_lt.mpr (Nat.le_add_left _ _))
theorem df_X4 : ∀ j, j < 5 → defaultValue (tyX4 j) = vp_V [.null, .null, .null, .int 0, .int 0] j := fun j hj => match j, hj with
  | 0, _ => rfl
  | 1, _ => rfl
  | 2, _ => rfl
  | 3, _ => rfl
  | 4, _ => rfl
  | j + 5, h => absurd h (Nat.not_lt.mpr (Nat.le_add_left _ _))
theorem df_X5 : ∀ j, j < 6 → defaultValue (tyX5 j) = vp_V [.null, .int 0, .null, .int 0, .int 0, .int 0] j := fun j hj => match j, hj with
  | 0, _ => rfl
  | 1, _ => rfl
  | 2, _ => rfl
  | 3, _ => rfl
  | 4, _ => rfl
  | 5, _ => rfl
  | j + 6, h => absurd h (Nat.not_lt.mpr (Nat.le_add_left _ _))
theorem df_X6 : ∀ j, j < 8 → defaultValue (tyX6 j) = vp_V [.null, .null, .int 0, .null, .null, .null, .null, .null] j := fun j hj => match j, hj with
  | 0, _ => rfl
  | 1, _ => rfl
  | 2, _ => rfl
  | 3, _ => rfl
  | 4, _ => rfl
  | 5, _ => rfl
  | 6, _ => rfl
  | 7, _ => rfl
  | j + 8, h => absurd h (Nat.not_lt.mpr (Nat.le_add_left _ _))
def eX3 (G : GM) (a : Nat) : Nat → va_E := fun j => match j with
  | 0 => .inr (3, [.int 0, .ref (a + 1), .ref (a + 2), .ref (a + 3), .int 0, .int 0, .int 0])
  | 1 => zi G 24
  | 2 => zi G 24
  | _ => zi G 12
set_option maxRecDepth 100000 in
set_option maxHeartbeats 8000000 in
theorem k_X3 {l : Launch} {G : GM} (hl : l.stackTraces = false) (hG : GG G) (a : Nat) : CtrN l G yX3_init cX3_init 1 1 a (.inr (3, [.int 0, .null, .null, .null, .int 0, .int 0, .int 0])) 4 (eX3 G a) 3 60 := by
  refine met_N (by decide) rfl hl hG (by decide) (fun p e s m args below meth c F hnm hN ha hs => ?_)
  refine n_aload_n F 0 dX3_init_0 rfl rfl ?_
  refine n_obj F ml_X3_3 dX3_init_1 ⟨Nat.le_of_ble_eq_true rfl, Nat.le_of_ble_eq_true rfl⟩ ?_
  refine n_aload_n F 0 dX3_init_4 rfl rfl ?_
  refine n_bipush F dX3_init_5 (v := nI 24) (by decide) ?_
  refine n_newi (N := 24) F dX3_init_7 (by decide) (by decide) (Nat.le_of_ble_eq_true rfl) ⟨Nat.le_of_ble_eq_true rfl, Nat.le_of_ble_eq_true rfl⟩ ?_
  refine n_putF (ci := 3) (ty := .array .int) (q9 := a + 1) F tyX3 inA_X3 tyX3_ok nmX3 rfl 0 (Nat.le_of_ble_eq_true rfl) rfl 1 (by decide) fl_X3_9 rfl rfl rfl hnm (by decide +kernel) rfl rfl (Nat.le_of_ble_eq_true rfl) dX3_init_9 ?_
  refine n_aload_n F 0 dX3_init_12 rfl rfl ?_
  refine n_bipush F dX3_init_13 (v := nI 24) (by decide) ?_
  refine n_newi (N := 24) F dX3_init_15 (by decide) (by decide) (Nat.le_of_ble_eq_true rfl) ⟨Nat.le_of_ble_eq_true rfl, Nat.le_of_ble_eq_true rfl⟩ ?_
  refine n_putF (ci := 3) (ty := .array .int) (q9 := a + 2) F tyX3 inA_X3 tyX3_ok nmX3 rfl 0 (Nat.le_of_ble_eq_true rfl) rfl 2 (by decide) fl_X3_15 rfl rfl rfl hnm (by decide +kernel) rfl rfl (Nat.le_of_ble_eq_true rfl) dX3_init_17 ?_
  refine n_aload_n F 0 dX3_init_20 rfl rfl ?_
  refine n_bipush F dX3_init_21 (v := nI 12) (by decide) ?_
  refine n_newi (N := 12) F dX3_init_23 (by decide) (by decide) (Nat.le_of_ble_eq_true rfl) ⟨Nat.le_of_ble_eq_true rfl, Nat.le_of_ble_eq_true rfl⟩ ?_
  refine n_putF (ci := 3) (ty := .array .int) (q9 := a + 3) F tyX3 inA_X3 tyX3_ok nmX3 rfl 0 (Nat.le_of_ble_eq_true rfl) rfl 3 (by decide) fl_X3_18 rfl rfl rfl hnm (by decide +kernel) rfl rfl (Nat.le_of_ble_eq_true rfl) dX3_init_25 ?_
  refine n_to (E2 := eX3 G a) (fun j hj => ?_) (n_ret F dX3_init_28)
  exact (match j, hj with
    | 0, _ => rfl
    | 1, _ => rfl
    | 2, _ => rfl
    | 3, _ => rfl
    | j + 4, h => absurd h (Nat.not_lt.mpr (Nat.le_add_left _ _)))
def eX5 (G : GM) (a : Nat) : Nat → va_E := fun j => match j with
  | 0 => .inr (5, [.ref (a + 1), .int 0, .ref (a + 2), .int 0, .int 0, .int 0])
  | 1 => zi G 60
  | _ => zi G 24
set_option maxRecDepth 100000 in
set_option maxHeartbeats 8000000 in
theorem k_X5 {l : Launch} {G : GM} (hl : l.stackTraces = false) (hG : GG G) (a : Nat) : CtrN l G yX5_init cX5_init 1 1 a (.inr (5, [.null, .int 0, .null, .int 0, .int 0, .int 0])) 3 (eX5 G a) 2 84 := by
  refine met_N (by decide) rfl hl hG (by decide) (fun p e s m args below meth c F hnm hN ha hs => ?_)
  refine n_aload_n F 0 dX5_init_0 rfl rfl ?_
  refine n_obj F ml_X5_3 dX5_init_1 ⟨Nat.le_of_ble_eq_true rfl, Nat.le_of_ble_eq_true rfl⟩ ?_
  refine n_aload_n F 0 dX5_init_4 rfl rfl ?_
  refine n_bipush F dX5_init_5 (v := nI 60) (by decide) ?_
  refine n_newi (N := 60) F dX5_init_7 (by decide) (by decide) (Nat.le_of_ble_eq_true rfl) ⟨Nat.le_of_ble_eq_true rfl, Nat.le_of_ble_eq_true rfl⟩ ?_
  refine n_putF (ci := 5) (ty := .array .int) (q9 := a + 1) F tyX5 inA_X5 tyX5_ok nmX5 rfl 0 (Nat.le_of_ble_eq_true rfl) rfl 0 (by decide) fl_X5_9 rfl rfl rfl hnm (by decide +kernel) rfl rfl (Nat.le_of_ble_eq_true rfl) dX5_init_9 ?_
  refine n_aload_n F 0 dX5_init_12 rfl rfl ?_
  refine n_bipush F dX5_init_13 (v := nI 24) (by decide) ?_
  refine n_newi (N := 24) F dX5_init_15 (by decide) (by decide) (Nat.le_of_ble_eq_true rfl) ⟨Nat.le_of_ble_eq_true rfl, Nat.le_of_ble_eq_true rfl⟩ ?_
  refine n_putF (ci := 5) (ty := .array .int) (q9 := a + 2) F tyX5 inA_X5 tyX5_ok nmX5 rfl 0 (Nat.le_of_ble_eq_true rfl) rfl 2 (by decide) fl_X5_15 rfl rfl rfl hnm (by decide +kernel) rfl rfl (Nat.le_of_ble_eq_true rfl) dX5_init_17 ?_
  refine n_to (E2 := eX5 G a) (fun j hj => ?_) (n_ret F dX5_init_20)
  exact (match j, hj with
    | 0, _ => rfl
    | 1, _ => rfl
    | 2, _ => rfl
    | j + 3, h => absurd h (Nat.not_lt.mpr (Nat.le_add_left _ _)))
def eX1 (G : GM) (a : Nat) : Nat → va_E := fun j => match j with
  | 0 => .inr (1, [.ref (a + 1), .ref (a + 2), .ref (a + 3), .ref (a + 4), .int 0, .int 0, .int 0, .int 0, .int 0, .int 0, .int 0])
  | 1 => zi G 24
  | 2 => zi G 12
  | 3 => zi G 12
  | _ => zi G 24
set_option maxRecDepth 100000 in
set_option maxHeartbeats 8000000 in
theorem k_X1 {l : Launch} {G : GM} (hl : l.stackTraces = false) (hG : GG G) (a : Nat) : CtrN l G yX1_init cX1_init 1 1 a (.inr (1, [.null, .null, .null, .null, .int 0, .int 0, .int 0, .int 0, .int 0, .int 0, .int 0])) 5 (eX1 G a) 4 72 := by
  refine met_N (by decide) rfl hl hG (by decide) (fun p e s m args below meth c F hnm hN ha hs => ?_)
  refine n_aload_n F 0 dX1_init_0 rfl rfl ?_
  refine n_obj F ml_X1_3 dX1_init_1 ⟨Nat.le_of_ble_eq_true rfl, Nat.le_of_ble_eq_true rfl⟩ ?_
  refine n_aload_n F 0 dX1_init_4 rfl rfl ?_
  refine n_bipush F dX1_init_5 (v := nI 24) (by decide) ?_
  refine n_newi (N := 24) F dX1_init_7 (by decide) (by decide) (Nat.le_of_ble_eq_true rfl) ⟨Nat.le_of_ble_eq_true rfl, Nat.le_of_ble_eq_true rfl⟩ ?_
  refine n_putF (ci := 1) (ty := .array .int) (q9 := a + 1) F tyX1 inA_X1 tyX1_ok nmX1 rfl 0 (Nat.le_of_ble_eq_true rfl) rfl 0 (by decide) fl_X1_9 rfl rfl rfl hnm (by decide +kernel) rfl rfl (Nat.le_of_ble_eq_true rfl) dX1_init_9 ?_
  refine n_aload_n F 0 dX1_init_12 rfl rfl ?_
  refine n_bipush F dX1_init_13 (v := nI 12) (by decide) ?_
  refine n_newi (N := 12) F dX1_init_15 (by decide) (by decide) (Nat.le_of_ble_eq_true rfl) ⟨Nat.le_of_ble_eq_true rfl, Nat.le_of_ble_eq_true rfl⟩ ?_
  refine n_putF (ci := 1) (ty := .array .int) (q9 := a + 2) F tyX1 inA_X1 tyX1_ok nmX1 rfl 0 (Nat.le_of_ble_eq_true rfl) rfl 1 (by decide) fl_X1_15 rfl rfl rfl hnm (by decide +kernel) rfl rfl (Nat.le_of_ble_eq_true rfl) dX1_init_17 ?_
  refine n_aload_n F 0 dX1_init_20 rfl rfl ?_
  refine n_bipush F dX1_init_21 (v := nI 12) (by decide) ?_
  refine n_newi (N := 12) F dX1_init_23 (by decide) (by decide) (Nat.le_of_ble_eq_true rfl) ⟨Nat.le_of_ble_eq_true rfl, Nat.le_of_ble_eq_true rfl⟩ ?_
  refine n_putF (ci := 1) (ty := .array .int) (q9 := a + 3) F tyX1 inA_X1 tyX1_ok nmX1 rfl 0 (Nat.le_of_ble_eq_true rfl) rfl 2 (by decide) fl_X1_18 rfl rfl rfl hnm (by decide +kernel) rfl rfl (Nat.le_of_ble_eq_true rfl) dX1_init_25 ?_
  refine n_aload_n F 0 dX1_init_28 rfl rfl ?_
  refine n_bipush F dX1_init_29 (v := nI 24) (by decide) ?_
  refine n_newi (N := 24) F dX1_init_31 (by decide) (by decide) (Nat.le_of_ble_eq_true rfl) ⟨Nat.le_of_ble_eq_true rfl, Nat.le_of_ble_eq_true rfl⟩ ?_
  refine n_putF (ci := 1) (ty := .array .int) (q9 := a + 4) F tyX1 inA_X1 tyX1_ok nmX1 rfl 0 (Nat.le_of_ble_eq_true rfl) rfl 3 (by decide) fl_X1_21 rfl rfl rfl hnm (by decide +kernel) rfl rfl (Nat.le_of_ble_eq_true rfl) dX1_init_33 ?_
  refine n_to (E2 := eX1 G a) (fun j hj => ?_) (n_ret F dX1_init_36)
  exact (match j, hj with
    | 0, _ => rfl
    | 1, _ => rfl
    | 2, _ => rfl
    | 3, _ => rfl
    | 4, _ => rfl
    | j + 5, h => absurd h (Nat.not_lt.mpr (Nat.le_add_left _ _)))
def eX2 (G : GM) (a : Nat) : Nat → va_E := fun j => match j with
  | 0 => .inr (2, [.ref (a + 1), .int 0, .int 0])
  | _ => zi G 6
set_option maxRecDepth 100000 in
set_option maxHeartbeats 8000000 in
theorem k_X2 {l : Launch} {G : GM} (hl : l.stackTraces = false) (hG : GG G) (a : Nat) : CtrN l G yX2_init cX2_init 1 1 a (.inr (2, [.null, .int 0, .int 0])) 2 (eX2 G a) 1 6 := by
  refine met_N (by decide) rfl hl hG (by decide) (fun p e s m args below meth c F hnm hN ha hs => ?_)
  refine n_aload_n F 0 dX2_init_0 rfl rfl ?_
  refine n_obj F ml_X2_3 dX2_init_1 ⟨Nat.le_of_ble_eq_true rfl, Nat.le_of_ble_eq_true rfl⟩ ?_
  refine n_aload_n F 0 dX2_init_4 rfl rfl ?_
  refine n_bipush F dX2_init_5 (v := nI 6) (by decide) ?_
  refine n_newi (N := 6) F dX2_init_7 (by decide) (by decide) (Nat.le_of_ble_eq_true rfl) ⟨Nat.le_of_ble_eq_true rfl, Nat.le_of_ble_eq_true rfl⟩ ?_
  refine n_putF (ci := 2) (ty := .array .int) (q9 := a + 1) F tyX2 inA_X2 tyX2_ok nmX2 rfl 0 (Nat.le_of_ble_eq_true rfl) rfl 0 (by decide) fl_X2_9 rfl rfl rfl hnm (by decide +kernel) rfl rfl (Nat.le_of_ble_eq_true rfl) dX2_init_9 ?_
  refine n_to (E2 := eX2 G a) (fun j hj => ?_) (n_ret F dX2_init_12)
  exact (match j, hj with
    | 0, _ => rfl
    | 1, _ => rfl
    | j + 2, h => absurd h (Nat.not_lt.mpr (Nat.le_add_left _ _)))
def eX4 (G : GM) (a : Nat) : Nat → va_E := fun j => match j with
  | 0 => .inr (4, [.ref (a + 1), .ref (a + 8), .ref (a + 9), .int 0, .int 0])
  | 1 => .inl (gC G 3, 6, .inr (.inr (.inr (.inr (fun i => if i < 6 then some (a + 1 + 1 + i) else none)))))
  | 8 => zi G 64
  | _ => zi G 6
set_option maxRecDepth 100000 in
set_option maxHeartbeats 8000000 in
theorem k_X4 {l : Launch} {G : GM} (hl : l.stackTraces = false) (hG : GG G) (a : Nat) : CtrN l G yX4_init cX4_init 1 1 a (.inr (4, [.null, .null, .null, .int 0, .int 0])) 10 (eX4 G a) 9 112 := by
  refine met_N (by decide) rfl hl hG (by decide) (fun p e s m args below meth c F hnm hN ha hs => ?_)
  refine n_aload_n F 0 dX4_init_0 rfl rfl ?_
  refine n_obj F ml_X4_3 dX4_init_1 ⟨Nat.le_of_ble_eq_true rfl, Nat.le_of_ble_eq_true rfl⟩ ?_
  refine n_aload_n F 0 dX4_init_4 rfl rfl ?_
  refine n_bipush F dX4_init_5 (v := nI 6) (by decide) ?_
  refine n_bipush F dX4_init_7 (v := nI 6) (by decide) ?_
  refine n_mna (N := 6) (K' := 6) F dX4_init_9 cl_X4_9 hN.2.2 (by decide) (by decide) (by decide) (by decide) (Nat.le_of_ble_eq_true rfl) (Nat.le_of_ble_eq_true rfl) ⟨Nat.le_of_ble_eq_true rfl, Nat.le_of_ble_eq_true rfl⟩ ?_
  refine n_putF (ci := 4) (ty := .array (.array .int)) (q9 := a + 1) F tyX4 inA_X4 tyX4_ok nmX4 rfl 0 (Nat.le_of_ble_eq_true rfl) rfl 0 (by decide) fl_X4_11 rfl rfl rfl hnm (by decide +kernel) rfl rfl (Nat.le_of_ble_eq_true rfl) dX4_init_13 ?_
  refine n_aload_n F 0 dX4_init_16 rfl rfl ?_
  refine n_bipush F dX4_init_17 (v := nI 64) (by decide) ?_
  refine n_newi (N := 64) F dX4_init_19 (by decide) (by decide) (Nat.le_of_ble_eq_true rfl) ⟨Nat.le_of_ble_eq_true rfl, Nat.le_of_ble_eq_true rfl⟩ ?_
  refine n_putF (ci := 4) (ty := .array .int) (q9 := a + 8) F tyX4 inA_X4 tyX4_ok nmX4 rfl 0 (Nat.le_of_ble_eq_true rfl) rfl 1 (by decide) fl_X4_16 rfl rfl rfl hnm (by decide +kernel) rfl rfl (Nat.le_of_ble_eq_true rfl) dX4_init_21 ?_
  refine n_aload_n F 0 dX4_init_24 rfl rfl ?_
  refine n_bipush F dX4_init_25 (v := nI 6) (by decide) ?_
  refine n_newi (N := 6) F dX4_init_27 (by decide) (by decide) (Nat.le_of_ble_eq_true rfl) ⟨Nat.le_of_ble_eq_true rfl, Nat.le_of_ble_eq_true rfl⟩ ?_
  refine n_putF (ci := 4) (ty := .array .int) (q9 := a + 9) F tyX4 inA_X4 tyX4_ok nmX4 rfl 0 (Nat.le_of_ble_eq_true rfl) rfl 2 (by decide) fl_X4_20 rfl rfl rfl hnm (by decide +kernel) rfl rfl (Nat.le_of_ble_eq_true rfl) dX4_init_29 ?_
  refine n_to (E2 := eX4 G a) (fun j hj => ?_) (n_ret F dX4_init_32)
  exact (match j, hj with
    | 0, _ => rfl
    | 1, _ => rfl
    | 2, _ => rfl
    | 3, _ => rfl
    | 4, _ => rfl
    | 5, _ => rfl
    | 6, _ => rfl
    | 7, _ => rfl
    | 8, _ => rfl
    | 9, _ => rfl
    | j + 10, h => absurd h (Nat.not_lt.mpr (Nat.le_add_left _ _)))
def upL (a : Nat) : Nat → Option Nat := va_up (va_up (va_up (va_up (va_up (va_up (fun _ => none) 0 (some (a + 10))) 1 (some (a + 14))) 2 (some (a + 18))) 3 (some (a + 22))) 4 (some (a + 26))) 5 (some (a + 30))
def eX0 (G : GM) (a : Nat) : Nat → va_E := fun j => match j with
  | 0 => .inr (0, [.ref (a + 1), .int 0, .ref (a + 2), .ref (a + 3), .int 0, .int 0, .int 0, .int 0])
  | 1 => .inl (gC G 1, 6, .inr (.inr (.inr (.inr (upL a)))))
  | 2 => .inl (gC G 0, 3, .inl fvT)
  | 3 => .inl (gC G 3, 6, .inr (.inr (.inr (.inr (fun i => if i < 6 then some (a + 3 + 1 + i) else none)))))
  | 4 => zi G 6
  | 5 => zi G 6
  | 6 => zi G 6
  | 7 => zi G 6
  | 8 => zi G 6
  | 9 => zi G 6
  | 10 => eX3 G (a + 10) 0
  | 11 => eX3 G (a + 10) 1
  | 12 => eX3 G (a + 10) 2
  | 13 => eX3 G (a + 10) 3
  | 14 => eX3 G (a + 14) 0
  | 15 => eX3 G (a + 14) 1
  | 16 => eX3 G (a + 14) 2
  | 17 => eX3 G (a + 14) 3
  | 18 => eX3 G (a + 18) 0
  | 19 => eX3 G (a + 18) 1
  | 20 => eX3 G (a + 18) 2
  | 21 => eX3 G (a + 18) 3
  | 22 => eX3 G (a + 22) 0
  | 23 => eX3 G (a + 22) 1
  | 24 => eX3 G (a + 22) 2
  | 25 => eX3 G (a + 22) 3
  | 26 => eX3 G (a + 26) 0
  | 27 => eX3 G (a + 26) 1
  | 28 => eX3 G (a + 26) 2
  | 29 => eX3 G (a + 26) 3
  | 30 => eX3 G (a + 30) 0
  | 31 => eX3 G (a + 30) 1
  | 32 => eX3 G (a + 30) 2
  | _ => eX3 G (a + 30) 3
set_option maxRecDepth 100000 in
set_option maxHeartbeats 8000000 in
theorem k_X0 {l : Launch} {G : GM} (hl : l.stackTraces = false) (hG : GG G) (a : Nat) : CtrN l G yX0_init cX0_init 2 3 a (.inr (0, [.null, .int 0, .null, .null, .int 0, .int 0, .int 0, .int 0])) 34 (eX0 G a) 33 453 := by
  refine met_N (by decide) rfl hl hG (by decide) (fun p e s m args below meth c F hnm hN ha hs => ?_)
  refine n_aload_n F 0 dX0_init_0 rfl rfl ?_
  refine n_obj F ml_X0_3 dX0_init_1 ⟨Nat.le_of_ble_eq_true rfl, Nat.le_of_ble_eq_true rfl⟩ ?_
  refine n_aload_n F 0 dX0_init_4 rfl rfl ?_
  refine n_bipush F dX0_init_5 (v := nI 6) (by decide) ?_
  refine n_anew (N := 6) (t0 := 1) F dX0_init_7 cl_X0_9 hN.1 rfl (by decide) (by decide) (Nat.le_of_ble_eq_true rfl) ⟨Nat.le_of_ble_eq_true rfl, Nat.le_of_ble_eq_true rfl⟩ ?_
  refine n_putF (ci := 0) (ty := .array (.object "DrumTowns$Town")) (q9 := a + 1) F tyX0 inA_X0 tyX0_ok nmX0 rfl 0 (Nat.le_of_ble_eq_true rfl) rfl 0 (by decide) fl_X0_11 rfl rfl rfl hnm (by decide +kernel) rfl rfl (Nat.le_of_ble_eq_true rfl) dX0_init_10 ?_
  refine n_aload_n F 0 dX0_init_13 rfl rfl ?_
  refine n_iconst F dX0_init_14 (v := nI 3) (by decide) ?_
  refine n_newi (N := 3) F dX0_init_15 (by decide) (by decide) (Nat.le_of_ble_eq_true rfl) ⟨Nat.le_of_ble_eq_true rfl, Nat.le_of_ble_eq_true rfl⟩ ?_
  refine n_putF (ci := 0) (ty := .array .int) (q9 := a + 2) F tyX0 inA_X0 tyX0_ok nmX0 rfl 0 (Nat.le_of_ble_eq_true rfl) rfl 2 (by decide) fl_X0_17 rfl rfl rfl hnm (by decide +kernel) rfl rfl (Nat.le_of_ble_eq_true rfl) dX0_init_17 ?_
  refine n_aload_n F 0 dX0_init_20 rfl rfl ?_
  refine n_bipush F dX0_init_21 (v := nI 6) (by decide) ?_
  refine n_bipush F dX0_init_23 (v := nI 6) (by decide) ?_
  refine n_mna (N := 6) (K' := 6) F dX0_init_25 cl_X0_21 hN.2.2 (by decide) (by decide) (by decide) (by decide) (Nat.le_of_ble_eq_true rfl) (Nat.le_of_ble_eq_true rfl) ⟨Nat.le_of_ble_eq_true rfl, Nat.le_of_ble_eq_true rfl⟩ ?_
  refine n_putF (ci := 0) (ty := .array (.array .int)) (q9 := a + 3) F tyX0 inA_X0 tyX0_ok nmX0 rfl 0 (Nat.le_of_ble_eq_true rfl) rfl 3 (by decide) fl_X0_23 rfl rfl rfl hnm (by decide +kernel) rfl rfl (Nat.le_of_ble_eq_true rfl) dX0_init_29 ?_
  refine n_iconst F dX0_init_32 (v := nI 0) (by decide) ?_
  refine n_istore_n (ls' := [(1, .int (nI 0)), (0, .ref a)]) F dX0_init_33 rfl (by decide) rfl ?_
  refine n_iload_n F 0 dX0_init_34 rfl rfl ?_
  refine n_bipush F dX0_init_35 (v := nI 6) (by decide) ?_
  refine n_icmp_geF (tgt := 59) F dX0_init_37 (by decide) (by decide) ?_
  refine n_aload_n F 1 dX0_init_40 rfl rfl ?_
  refine n_get (ci := 0) (v := .ref (a + 1)) F inA_X0 rfl 0 (Nat.le_of_ble_eq_true rfl) rfl 0 (by decide) fl_X0_11 rfl rfl dX0_init_41 ?_
  refine n_iload_n F 0 dX0_init_44 rfl rfl ?_
  refine n_new (ci := 3) (fs := [.int 0, .null, .null, .null, .int 0, .int 0, .int 0]) F tyX3 inA_X3 tyX3_ok cl_X0_9 in_X3 ini_X3 rfl df_X3 dX0_init_45 ⟨Nat.le_of_ble_eq_true rfl, Nat.le_of_ble_eq_true rfl⟩ ?_
  refine n_dup F dX0_init_48 rfl ?_
  refine n_initN (n8 := 10) F hN ha (k_X3 F.st F.gg (a + 10)) dX0_init_49 mn_X0_26 im_X3_init ini_X3 cd_X3_init rfl ⟨by decide, by decide, by decide +kernel⟩ ⟨Nat.le_of_ble_eq_true rfl, Nat.le_of_ble_eq_true rfl⟩ ⟨Nat.le_of_ble_eq_true rfl, Nat.le_of_ble_eq_true rfl⟩ rfl (Nat.le_of_ble_eq_true rfl) ?_
  refine n_aast (t0 := 1) (ci := 3) (N := 6) F dX0_init_52 1 (Nat.le_of_ble_eq_true rfl) rfl rfl 10 (Nat.le_of_ble_eq_true rfl) rfl rfl (by decide) ?_
  refine n_iinc (ls' := [(1, .int (nI 1)), (0, .ref a)]) (k := 0) (v := nI 1) F dX0_init_53 rfl (by decide) (by decide) rfl ?_
  refine n_goto (tgt := 34) F dX0_init_56 (by decide) ?_
  refine n_iload_n F 0 dX0_init_34 rfl rfl ?_
  refine n_bipush F dX0_init_35 (v := nI 6) (by decide) ?_
  refine n_icmp_geF (tgt := 59) F dX0_init_37 (by decide) (by decide) ?_
  refine n_aload_n F 1 dX0_init_40 rfl rfl ?_
  refine n_get (ci := 0) (v := .ref (a + 1)) F inA_X0 rfl 0 (Nat.le_of_ble_eq_true rfl) rfl 0 (by decide) fl_X0_11 rfl rfl dX0_init_41 ?_
  refine n_iload_n F 0 dX0_init_44 rfl rfl ?_
  refine n_new (ci := 3) (fs := [.int 0, .null, .null, .null, .int 0, .int 0, .int 0]) F tyX3 inA_X3 tyX3_ok cl_X0_9 in_X3 ini_X3 rfl df_X3 dX0_init_45 ⟨Nat.le_of_ble_eq_true rfl, Nat.le_of_ble_eq_true rfl⟩ ?_
  refine n_dup F dX0_init_48 rfl ?_
  refine n_initN (n8 := 14) F hN ha (k_X3 F.st F.gg (a + 14)) dX0_init_49 mn_X0_26 im_X3_init ini_X3 cd_X3_init rfl ⟨by decide, by decide, by decide +kernel⟩ ⟨Nat.le_of_ble_eq_true rfl, Nat.le_of_ble_eq_true rfl⟩ ⟨Nat.le_of_ble_eq_true rfl, Nat.le_of_ble_eq_true rfl⟩ rfl (Nat.le_of_ble_eq_true rfl) ?_
  refine n_aast (t0 := 1) (ci := 3) (N := 6) F dX0_init_52 1 (Nat.le_of_ble_eq_true rfl) rfl rfl 14 (Nat.le_of_ble_eq_true rfl) rfl rfl (by decide) ?_
  refine n_iinc (ls' := [(1, .int (nI 2)), (0, .ref a)]) (k := 0) (v := nI 2) F dX0_init_53 rfl (by decide) (by decide) rfl ?_
  refine n_goto (tgt := 34) F dX0_init_56 (by decide) ?_
  refine n_iload_n F 0 dX0_init_34 rfl rfl ?_
  refine n_bipush F dX0_init_35 (v := nI 6) (by decide) ?_
  refine n_icmp_geF (tgt := 59) F dX0_init_37 (by decide) (by decide) ?_
  refine n_aload_n F 1 dX0_init_40 rfl rfl ?_
  refine n_get (ci := 0) (v := .ref (a + 1)) F inA_X0 rfl 0 (Nat.le_of_ble_eq_true rfl) rfl 0 (by decide) fl_X0_11 rfl rfl dX0_init_41 ?_
  refine n_iload_n F 0 dX0_init_44 rfl rfl ?_
  refine n_new (ci := 3) (fs := [.int 0, .null, .null, .null, .int 0, .int 0, .int 0]) F tyX3 inA_X3 tyX3_ok cl_X0_9 in_X3 ini_X3 rfl df_X3 dX0_init_45 ⟨Nat.le_of_ble_eq_true rfl, Nat.le_of_ble_eq_true rfl⟩ ?_
  refine n_dup F dX0_init_48 rfl ?_
  refine n_initN (n8 := 18) F hN ha (k_X3 F.st F.gg (a + 18)) dX0_init_49 mn_X0_26 im_X3_init ini_X3 cd_X3_init rfl ⟨by decide, by decide, by decide +kernel⟩ ⟨Nat.le_of_ble_eq_true rfl, Nat.le_of_ble_eq_true rfl⟩ ⟨Nat.le_of_ble_eq_true rfl, Nat.le_of_ble_eq_true rfl⟩ rfl (Nat.le_of_ble_eq_true rfl) ?_
  refine n_aast (t0 := 1) (ci := 3) (N := 6) F dX0_init_52 1 (Nat.le_of_ble_eq_true rfl) rfl rfl 18 (Nat.le_of_ble_eq_true rfl) rfl rfl (by decide) ?_
  refine n_iinc (ls' := [(1, .int (nI 3)), (0, .ref a)]) (k := 0) (v := nI 3) F dX0_init_53 rfl (by decide) (by decide) rfl ?_
  refine n_goto (tgt := 34) F dX0_init_56 (by decide) ?_
  refine n_iload_n F 0 dX0_init_34 rfl rfl ?_
  refine n_bipush F dX0_init_35 (v := nI 6) (by decide) ?_
  refine n_icmp_geF (tgt := 59) F dX0_init_37 (by decide) (by decide) ?_
  refine n_aload_n F 1 dX0_init_40 rfl rfl ?_
  refine n_get (ci := 0) (v := .ref (a + 1)) F inA_X0 rfl 0 (Nat.le_of_ble_eq_true rfl) rfl 0 (by decide) fl_X0_11 rfl rfl dX0_init_41 ?_
  refine n_iload_n F 0 dX0_init_44 rfl rfl ?_
  refine n_new (ci := 3) (fs := [.int 0, .null, .null, .null, .int 0, .int 0, .int 0]) F tyX3 inA_X3 tyX3_ok cl_X0_9 in_X3 ini_X3 rfl df_X3 dX0_init_45 ⟨Nat.le_of_ble_eq_true rfl, Nat.le_of_ble_eq_true rfl⟩ ?_
  refine n_dup F dX0_init_48 rfl ?_
  refine n_initN (n8 := 22) F hN ha (k_X3 F.st F.gg (a + 22)) dX0_init_49 mn_X0_26 im_X3_init ini_X3 cd_X3_init rfl ⟨by decide, by decide, by decide +kernel⟩ ⟨Nat.le_of_ble_eq_true rfl, Nat.le_of_ble_eq_true rfl⟩ ⟨Nat.le_of_ble_eq_true rfl, Nat.le_of_ble_eq_true rfl⟩ rfl (Nat.le_of_ble_eq_true rfl) ?_
  refine n_aast (t0 := 1) (ci := 3) (N := 6) F dX0_init_52 1 (Nat.le_of_ble_eq_true rfl) rfl rfl 22 (Nat.le_of_ble_eq_true rfl) rfl rfl (by decide) ?_
  refine n_iinc (ls' := [(1, .int (nI 4)), (0, .ref a)]) (k := 0) (v := nI 4) F dX0_init_53 rfl (by decide) (by decide) rfl ?_
  refine n_goto (tgt := 34) F dX0_init_56 (by decide) ?_
  refine n_iload_n F 0 dX0_init_34 rfl rfl ?_
  refine n_bipush F dX0_init_35 (v := nI 6) (by decide) ?_
  refine n_icmp_geF (tgt := 59) F dX0_init_37 (by decide) (by decide) ?_
  refine n_aload_n F 1 dX0_init_40 rfl rfl ?_
  refine n_get (ci := 0) (v := .ref (a + 1)) F inA_X0 rfl 0 (Nat.le_of_ble_eq_true rfl) rfl 0 (by decide) fl_X0_11 rfl rfl dX0_init_41 ?_
  refine n_iload_n F 0 dX0_init_44 rfl rfl ?_
  refine n_new (ci := 3) (fs := [.int 0, .null, .null, .null, .int 0, .int 0, .int 0]) F tyX3 inA_X3 tyX3_ok cl_X0_9 in_X3 ini_X3 rfl df_X3 dX0_init_45 ⟨Nat.le_of_ble_eq_true rfl, Nat.le_of_ble_eq_true rfl⟩ ?_
  refine n_dup F dX0_init_48 rfl ?_
  refine n_initN (n8 := 26) F hN ha (k_X3 F.st F.gg (a + 26)) dX0_init_49 mn_X0_26 im_X3_init ini_X3 cd_X3_init rfl ⟨by decide, by decide, by decide +kernel⟩ ⟨Nat.le_of_ble_eq_true rfl, Nat.le_of_ble_eq_true rfl⟩ ⟨Nat.le_of_ble_eq_true rfl, Nat.le_of_ble_eq_true rfl⟩ rfl (Nat.le_of_ble_eq_true rfl) ?_
  refine n_aast (t0 := 1) (ci := 3) (N := 6) F dX0_init_52 1 (Nat.le_of_ble_eq_true rfl) rfl rfl 26 (Nat.le_of_ble_eq_true rfl) rfl rfl (by decide) ?_
  refine n_iinc (ls' := [(1, .int (nI 5)), (0, .ref a)]) (k := 0) (v := nI 5) F dX0_init_53 rfl (by decide) (by decide) rfl ?_
  refine n_goto (tgt := 34) F dX0_init_56 (by decide) ?_
  refine n_iload_n F 0 dX0_init_34 rfl rfl ?_
  refine n_bipush F dX0_init_35 (v := nI 6) (by decide) ?_
  refine n_icmp_geF (tgt := 59) F dX0_init_37 (by decide) (by decide) ?_
  refine n_aload_n F 1 dX0_init_40 rfl rfl ?_
  refine n_get (ci := 0) (v := .ref (a + 1)) F inA_X0 rfl 0 (Nat.le_of_ble_eq_true rfl) rfl 0 (by decide) fl_X0_11 rfl rfl dX0_init_41 ?_
  refine n_iload_n F 0 dX0_init_44 rfl rfl ?_
  refine n_new (ci := 3) (fs := [.int 0, .null, .null, .null, .int 0, .int 0, .int 0]) F tyX3 inA_X3 tyX3_ok cl_X0_9 in_X3 ini_X3 rfl df_X3 dX0_init_45 ⟨Nat.le_of_ble_eq_true rfl, Nat.le_of_ble_eq_true rfl⟩ ?_
  refine n_dup F dX0_init_48 rfl ?_
  refine n_initN (n8 := 30) F hN ha (k_X3 F.st F.gg (a + 30)) dX0_init_49 mn_X0_26 im_X3_init ini_X3 cd_X3_init rfl ⟨by decide, by decide, by decide +kernel⟩ ⟨Nat.le_of_ble_eq_true rfl, Nat.le_of_ble_eq_true rfl⟩ ⟨Nat.le_of_ble_eq_true rfl, Nat.le_of_ble_eq_true rfl⟩ rfl (Nat.le_of_ble_eq_true rfl) ?_
  refine n_aast (t0 := 1) (ci := 3) (N := 6) F dX0_init_52 1 (Nat.le_of_ble_eq_true rfl) rfl rfl 30 (Nat.le_of_ble_eq_true rfl) rfl rfl (by decide) ?_
  refine n_iinc (ls' := [(1, .int (nI 6)), (0, .ref a)]) (k := 0) (v := nI 6) F dX0_init_53 rfl (by decide) (by decide) rfl ?_
  refine n_goto (tgt := 34) F dX0_init_56 (by decide) ?_
  refine n_iload_n F 0 dX0_init_34 rfl rfl ?_
  refine n_bipush F dX0_init_35 (v := nI 6) (by decide) ?_
  refine n_icmp_geT (tgt := 59) F dX0_init_37 (by decide) (by decide) ?_
  refine n_iconst F dX0_init_59 (v := nI 0) (by decide) ?_
  refine n_istore_n (ls' := [(1, .int (nI 0)), (0, .ref a)]) F dX0_init_60 rfl (by decide) rfl ?_
  refine n_iload_n F 0 dX0_init_61 rfl rfl ?_
  refine n_iconst F dX0_init_62 (v := nI 3) (by decide) ?_
  refine n_icmp_geF (tgt := 83) F dX0_init_63 (by decide) (by decide) ?_
  refine n_aload_n F 1 dX0_init_66 rfl rfl ?_
  refine n_get (ci := 0) (v := .ref (a + 2)) F inA_X0 rfl 0 (Nat.le_of_ble_eq_true rfl) rfl 2 (by decide) fl_X0_17 rfl rfl dX0_init_67 ?_
  refine n_iload_n F 0 dX0_init_70 rfl rfl ?_
  refine n_fval F ha 0 dX0_init_71 fn_X0_27 dX0_init_74 dX0_init_75 rfl rfl (by decide) ?_
  refine n_iast (N := 3) F dX0_init_76 2 (Nat.le_of_ble_eq_true rfl) rfl (by decide) ?_
  refine n_iinc (ls' := [(1, .int (nI 1)), (0, .ref a)]) (k := 0) (v := nI 1) F dX0_init_77 rfl (by decide) (by decide) rfl ?_
  refine n_goto (tgt := 61) F dX0_init_80 (by decide) ?_
  refine n_iload_n F 0 dX0_init_61 rfl rfl ?_
  refine n_iconst F dX0_init_62 (v := nI 3) (by decide) ?_
  refine n_icmp_geF (tgt := 83) F dX0_init_63 (by decide) (by decide) ?_
  refine n_aload_n F 1 dX0_init_66 rfl rfl ?_
  refine n_get (ci := 0) (v := .ref (a + 2)) F inA_X0 rfl 0 (Nat.le_of_ble_eq_true rfl) rfl 2 (by decide) fl_X0_17 rfl rfl dX0_init_67 ?_
  refine n_iload_n F 0 dX0_init_70 rfl rfl ?_
  refine n_fval F ha 0 dX0_init_71 fn_X0_27 dX0_init_74 dX0_init_75 rfl rfl (by decide) ?_
  refine n_iast (N := 3) F dX0_init_76 2 (Nat.le_of_ble_eq_true rfl) rfl (by decide) ?_
  refine n_iinc (ls' := [(1, .int (nI 2)), (0, .ref a)]) (k := 0) (v := nI 2) F dX0_init_77 rfl (by decide) (by decide) rfl ?_
  refine n_goto (tgt := 61) F dX0_init_80 (by decide) ?_
  refine n_iload_n F 0 dX0_init_61 rfl rfl ?_
  refine n_iconst F dX0_init_62 (v := nI 3) (by decide) ?_
  refine n_icmp_geF (tgt := 83) F dX0_init_63 (by decide) (by decide) ?_
  refine n_aload_n F 1 dX0_init_66 rfl rfl ?_
  refine n_get (ci := 0) (v := .ref (a + 2)) F inA_X0 rfl 0 (Nat.le_of_ble_eq_true rfl) rfl 2 (by decide) fl_X0_17 rfl rfl dX0_init_67 ?_
  refine n_iload_n F 0 dX0_init_70 rfl rfl ?_
  refine n_fval F ha 0 dX0_init_71 fn_X0_27 dX0_init_74 dX0_init_75 rfl rfl (by decide) ?_
  refine n_iast (N := 3) F dX0_init_76 2 (Nat.le_of_ble_eq_true rfl) rfl (by decide) ?_
  refine n_iinc (ls' := [(1, .int (nI 3)), (0, .ref a)]) (k := 0) (v := nI 3) F dX0_init_77 rfl (by decide) (by decide) rfl ?_
  refine n_goto (tgt := 61) F dX0_init_80 (by decide) ?_
  refine n_iload_n F 0 dX0_init_61 rfl rfl ?_
  refine n_iconst F dX0_init_62 (v := nI 3) (by decide) ?_
  refine n_icmp_geT (tgt := 83) F dX0_init_63 (by decide) (by decide) ?_
  refine n_to (E2 := eX0 G a) (fun j hj => ?_) (n_ret F dX0_init_83)
  exact (match j, hj with
    | 0, _ => rfl
    | 1, _ => rfl
    | 2, _ => congrArg (fun g => (Sum.inl (gC G 0, 3, Sum.inl g) : va_E)) fv3
    | 3, _ => rfl
    | 4, _ => rfl
    | 5, _ => rfl
    | 6, _ => rfl
    | 7, _ => rfl
    | 8, _ => rfl
    | 9, _ => rfl
    | 10, _ => rfl
    | 11, _ => rfl
    | 12, _ => rfl
    | 13, _ => rfl
    | 14, _ => rfl
    | 15, _ => rfl
    | 16, _ => rfl
    | 17, _ => rfl
    | 18, _ => rfl
    | 19, _ => rfl
    | 20, _ => rfl
    | 21, _ => rfl
    | 22, _ => rfl
    | 23, _ => rfl
    | 24, _ => rfl
    | 25, _ => rfl
    | 26, _ => rfl
    | 27, _ => rfl
    | 28, _ => rfl
    | 29, _ => rfl
    | 30, _ => rfl
    | 31, _ => rfl
    | 32, _ => rfl
    | 33, _ => rfl
    | j + 34, h => absurd h (Nat.not_lt.mpr (Nat.le_add_left _ _)))
