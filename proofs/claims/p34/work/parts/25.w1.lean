/-! ===== the law's wrappers: an exception becomes a number ===== -/
def wrp (es : List (String × Int32)) (Y : Option ((Int32 ⊕ String) × Mem)) : Option (Int32 × Mem) := match Y with
  | none => none
  | some (.inl v, M) => some (v, M)
  | some (.inr E, M) => match es.find? (fun q => q.1 == E) with
    | none => none
    | some q => some (q.2, M)
theorem wrp_v {es : List (String × Int32)} {v : Int32} {M : Mem} : wrp es (some (.inl v, M)) = some (v, M) := rfl
theorem wrp_some {es : List (String × Int32)} {Y : Option ((Int32 ⊕ String) × Mem)} {r : Int32 × Mem} (h : wrp es Y = some r) : Y = some (.inl r.1, r.2) ∨ ∃ q, q ∈ es ∧ Y = some (.inr q.1, r.2) ∧ r.1 = q.2 := by
  match Y with
  | none => cases h
  | some (.inl v, M) => cases h; exact Or.inl rfl
  | some (.inr E, M) =>
    have h' : (match es.find? (fun q => q.1 == E) with
      | none => none
      | some q => some (q.2, M)) = some r := h
    cases hf : es.find? (fun q => q.1 == E) with
    | none => rw [hf] at h'; cases h'
    | some q =>
      rw [hf] at h'
      cases h'
      have h1 := List.find?_some hf
      have h2 := List.mem_of_find?_eq_some hf
      exact Or.inr ⟨q, h2, by rw [eq_of_beq h1], rfl⟩
theorem cs_exI : Cond.castable exI exI ∈ lw_tbl := tb2 (k := 28) rfl
theorem cs_exA : Cond.castable exA exA ∈ lw_tbl := tb2 (k := 100) rfl
theorem cs_exS : Cond.castable exS exS ∈ lw_tbl := tb2 (k := 147) rfl
theorem cw_L_addTown : Cond.codeWith yL_addTown cL_addTown 3 (some .int) [(0, 5, 6, 25), (0, 5, 11, 16)] ∈ wsA := inA (tb3 (k := 131) (by rfl)) (by decide +kernel)
def es_addTown : List (String × Int32) := [(exA, -901), (exS, -902)]
def f_L_addTown (p1 : Int32) (M : Mem) : Option (Int32 × Mem) := wrp es_addTown (f_X6_addTown p1 M)
set_option maxRecDepth 100000 in
set_option maxHeartbeats 4000000 in
theorem m_L_addTown {l : Launch} {G : GM} (hl : l.stackTraces = false) (hG : GG G) (p1 : Int32) {r : Int32 × Mem} {M : Mem} (h : f_L_addTown p1 M = some r) : Met l yL_addTown (.codeWith yL_addTown cL_addTown 3 (some .int) [(0, 5, 6, 25), (0, 5, 11, 16)] :: wsA) rmW (PcG G [.ref (gA G 0), .int p1] M) (QcR G (some (.int r.1)) r.2) 1 6 (A0 G) := by
  refine met_W (by decide) hl hG (Nat.le_of_ble_eq_true rfl) (fun p e s m args below meth c F ht => ?_)
  refine w_aload_n F 0 dL_addTown_0 rfl rfl ?_
  refine w_iload_n F 1 dL_addTown_1 rfl rfl ?_
  rcases wrp_some h with h | ⟨q, hq, h, he⟩
  · refine w_cV (v := some (.int r.1)) (As := [.int p1]) (rest := []) F (c_X6_addTown F.st F.gg p1 M _ h) dL_addTown_2 ml_L_37 yv_X6_addTown (rfl : kd 0 = 0) (by decide) rfl rfl ⟨by decide, by decide⟩ ⟨by decide, by decide⟩ rfl (Nat.le_of_ble_eq_true rfl) ?_
    exact w_wide (u2 := 1) (w2 := 6) (by decide) (by decide) (w_iret F dL_addTown_5 rfl)
  · unfold es_addTown at hq
    rcases List.mem_cons.mp hq with rfl | hq
    · rw [he]
      refine w_cVx (E := exA) (pre := []) (x := ⟨0, 5, 6, 25⟩) (suf := [⟨0, 5, 11, 16⟩]) (tgt := 6) (As := [.int p1]) (rest := []) F (c_X6_addTown F.st F.gg p1 M _ h) dL_addTown_2 ml_L_37 yv_X6_addTown (rfl : kd 0 = 0) (by decide) rfl rfl ⟨by decide, by decide⟩ ⟨by decide, by decide⟩ rfl (Nat.le_of_ble_eq_true rfl) (by rw [ht]; rfl) (fun z hz => by cases hz) (by decide) (by decide) cl_L_25 cs_exA rfl (fun q => ?_)
      refine w_astore_n (ls' := [(2, .ref q), (0, .ref (gA G 0)), (1, .int p1)]) F dL_addTown_6 rfl (by decide) rfl ?_
      refine w_sipush F dL_addTown_7 (v := -901) (by decide) ?_
      exact w_iret F dL_addTown_10 rfl
    rcases List.mem_cons.mp hq with rfl | hq
    · rw [he]
      refine w_cVx (E := exS) (pre := [⟨0, 5, 6, 25⟩]) (x := ⟨0, 5, 11, 16⟩) (suf := []) (tgt := 11) (As := [.int p1]) (rest := []) F (c_X6_addTown F.st F.gg p1 M _ h) dL_addTown_2 ml_L_37 yv_X6_addTown (rfl : kd 0 = 0) (by decide) rfl rfl ⟨by decide, by decide⟩ ⟨by decide, by decide⟩ rfl (Nat.le_of_ble_eq_true rfl) (by rw [ht]; rfl) (fun z hz => by
          rcases List.mem_cons.mp hz with rfl | hz
          · exact ⟨by decide, exA, cl_L_25, by decide⟩
          cases hz) (by decide) (by decide) cl_L_16 cs_exS rfl (fun q => ?_)
      refine w_astore_n (ls' := [(2, .ref q), (0, .ref (gA G 0)), (1, .int p1)]) F dL_addTown_11 rfl (by decide) rfl ?_
      refine w_sipush F dL_addTown_12 (v := -902) (by decide) ?_
      exact w_iret F dL_addTown_15 rfl
    cases hq
theorem cw_L_turn : Cond.codeWith yL_turn cL_turn 4 (some .int) [(0, 6, 7, 14), (0, 6, 12, 25)] ∈ wsA := inA (tb3 (k := 143) (by rfl)) (by decide +kernel)
def es_turn : List (String × Int32) := [(exI, -903), (exA, -901)]
def f_L_turn (p1 : Int32) (p2 : Int32) (M : Mem) : Option (Int32 × Mem) := wrp es_turn (f_X6_turn p1 p2 M)
set_option maxRecDepth 100000 in
set_option maxHeartbeats 4000000 in
theorem m_L_turn {l : Launch} {G : GM} (hl : l.stackTraces = false) (hG : GG G) (p1 : Int32) (p2 : Int32) {r : Int32 × Mem} {M : Mem} (h : f_L_turn p1 p2 M = some r) : Met l yL_turn (.codeWith yL_turn cL_turn 4 (some .int) [(0, 6, 7, 14), (0, 6, 12, 25)] :: wsA) rmW (PcG G [.ref (gA G 0), .int p1, .int p2] M) (QcR G (some (.int r.1)) r.2) 1 6 (A0 G) := by
  refine met_W (by decide) hl hG (Nat.le_of_ble_eq_true rfl) (fun p e s m args below meth c F ht => ?_)
  refine w_aload_n F 0 dL_turn_0 rfl rfl ?_
  refine w_iload_n F 1 dL_turn_1 rfl rfl ?_
  refine w_iload_n F 2 dL_turn_2 rfl rfl ?_
  rcases wrp_some h with h | ⟨q, hq, h, he⟩
  · refine w_cV (v := some (.int r.1)) (As := [.int p1, .int p2]) (rest := []) F (c_X6_turn F.st F.gg p1 p2 M _ h) dL_turn_3 ml_L_41 yv_X6_turn (rfl : kd 0 = 0) (by decide) rfl rfl ⟨by decide, by decide⟩ ⟨by decide, by decide⟩ rfl (Nat.le_of_ble_eq_true rfl) ?_
    exact w_wide (u2 := 1) (w2 := 6) (by decide) (by decide) (w_iret F dL_turn_6 rfl)
  · unfold es_turn at hq
    rcases List.mem_cons.mp hq with rfl | hq
    · rw [he]
      refine w_cVx (E := exI) (pre := []) (x := ⟨0, 6, 7, 14⟩) (suf := [⟨0, 6, 12, 25⟩]) (tgt := 7) (As := [.int p1, .int p2]) (rest := []) F (c_X6_turn F.st F.gg p1 p2 M _ h) dL_turn_3 ml_L_41 yv_X6_turn (rfl : kd 0 = 0) (by decide) rfl rfl ⟨by decide, by decide⟩ ⟨by decide, by decide⟩ rfl (Nat.le_of_ble_eq_true rfl) (by rw [ht]; rfl) (fun z hz => by cases hz) (by decide) (by decide) cl_L_14 cs_exI rfl (fun q => ?_)
      refine w_astore_n (ls' := [(3, .ref q), (0, .ref (gA G 0)), (1, .int p1), (2, .int p2)]) F dL_turn_7 rfl (by decide) rfl ?_
      refine w_sipush F dL_turn_8 (v := -903) (by decide) ?_
      exact w_iret F dL_turn_11 rfl
    rcases List.mem_cons.mp hq with rfl | hq
    · rw [he]
      refine w_cVx (E := exA) (pre := [⟨0, 6, 7, 14⟩]) (x := ⟨0, 6, 12, 25⟩) (suf := []) (tgt := 12) (As := [.int p1, .int p2]) (rest := []) F (c_X6_turn F.st F.gg p1 p2 M _ h) dL_turn_3 ml_L_41 yv_X6_turn (rfl : kd 0 = 0) (by decide) rfl rfl ⟨by decide, by decide⟩ ⟨by decide, by decide⟩ rfl (Nat.le_of_ble_eq_true rfl) (by rw [ht]; rfl) (fun z hz => by
          rcases List.mem_cons.mp hz with rfl | hz
          · exact ⟨by decide, exI, cl_L_14, by decide⟩
          cases hz) (by decide) (by decide) cl_L_25 cs_exA rfl (fun q => ?_)
      refine w_astore_n (ls' := [(3, .ref q), (0, .ref (gA G 0)), (1, .int p1), (2, .int p2)]) F dL_turn_12 rfl (by decide) rfl ?_
      refine w_sipush F dL_turn_13 (v := -901) (by decide) ?_
      exact w_iret F dL_turn_16 rfl
    cases hq
theorem cw_L_learn : Cond.codeWith yL_learn cL_learn 3 (some .int) [(0, 5, 6, 14), (0, 5, 11, 25)] ∈ wsA := inA (tb3 (k := 153) (by rfl)) (by decide +kernel)
def es_learn : List (String × Int32) := [(exI, -903), (exA, -901)]
def f_L_learn (p1 : Int32) (M : Mem) : Option (Int32 × Mem) := wrp es_learn (f_X6_learn p1 M)
set_option maxRecDepth 100000 in
set_option maxHeartbeats 4000000 in
theorem m_L_learn {l : Launch} {G : GM} (hl : l.stackTraces = false) (hG : GG G) (p1 : Int32) {r : Int32 × Mem} {M : Mem} (h : f_L_learn p1 M = some r) : Met l yL_learn (.codeWith yL_learn cL_learn 3 (some .int) [(0, 5, 6, 14), (0, 5, 11, 25)] :: wsA) rmW (PcG G [.ref (gA G 0), .int p1] M) (QcR G (some (.int r.1)) r.2) 1 6 (A0 G) := by
  refine met_W (by decide) hl hG (Nat.le_of_ble_eq_true rfl) (fun p e s m args below meth c F ht => ?_)
  refine w_aload_n F 0 dL_learn_0 rfl rfl ?_
  refine w_iload_n F 1 dL_learn_1 rfl rfl ?_
  rcases wrp_some h with h | ⟨q, hq, h, he⟩
  · refine w_cV (v := some (.int r.1)) (As := [.int p1]) (rest := []) F (c_X6_learn F.st F.gg p1 M _ h) dL_learn_2 ml_L_44 yv_X6_learn (rfl : kd 0 = 0) (by decide) rfl rfl ⟨by decide, by decide⟩ ⟨by decide, by decide⟩ rfl (Nat.le_of_ble_eq_true rfl) ?_
    exact w_wide (u2 := 1) (w2 := 6) (by decide) (by decide) (w_iret F dL_learn_5 rfl)
  · unfold es_learn at hq
    rcases List.mem_cons.mp hq with rfl | hq
    · rw [he]
      refine w_cVx (E := exI) (pre := []) (x := ⟨0, 5, 6, 14⟩) (suf := [⟨0, 5, 11, 25⟩]) (tgt := 6) (As := [.int p1]) (rest := []) F (c_X6_learn F.st F.gg p1 M _ h) dL_learn_2 ml_L_44 yv_X6_learn (rfl : kd 0 = 0) (by decide) rfl rfl ⟨by decide, by decide⟩ ⟨by decide, by decide⟩ rfl (Nat.le_of_ble_eq_true rfl) (by rw [ht]; rfl) (fun z hz => by cases hz) (by decide) (by decide) cl_L_14 cs_exI rfl (fun q => ?_)
      refine w_astore_n (ls' := [(2, .ref q), (0, .ref (gA G 0)), (1, .int p1)]) F dL_learn_6 rfl (by decide) rfl ?_
      refine w_sipush F dL_learn_7 (v := -903) (by decide) ?_
      exact w_iret F dL_learn_10 rfl
    rcases List.mem_cons.mp hq with rfl | hq
    · rw [he]
      refine w_cVx (E := exA) (pre := [⟨0, 5, 6, 14⟩]) (x := ⟨0, 5, 11, 25⟩) (suf := []) (tgt := 11) (As := [.int p1]) (rest := []) F (c_X6_learn F.st F.gg p1 M _ h) dL_learn_2 ml_L_44 yv_X6_learn (rfl : kd 0 = 0) (by decide) rfl rfl ⟨by decide, by decide⟩ ⟨by decide, by decide⟩ rfl (Nat.le_of_ble_eq_true rfl) (by rw [ht]; rfl) (fun z hz => by
          rcases List.mem_cons.mp hz with rfl | hz
          · exact ⟨by decide, exI, cl_L_14, by decide⟩
          cases hz) (by decide) (by decide) cl_L_25 cs_exA rfl (fun q => ?_)
      refine w_astore_n (ls' := [(2, .ref q), (0, .ref (gA G 0)), (1, .int p1)]) F dL_learn_11 rfl (by decide) rfl ?_
      refine w_sipush F dL_learn_12 (v := -901) (by decide) ?_
      exact w_iret F dL_learn_15 rfl
    cases hq
theorem cw_L_set : Cond.codeWith yL_set cL_set 4 (some .int) [(0, 6, 7, 14), (0, 6, 12, 25)] ∈ wsA := inA (tb3 (k := 185) (by rfl)) (by decide +kernel)
def es_set : List (String × Int32) := [(exI, -903), (exA, -901)]
def f_L_set (p1 : Int32) (p2 : Int32) (M : Mem) : Option (Int32 × Mem) := wrp es_set (f_X6_set p1 p2 M)
set_option maxRecDepth 100000 in
set_option maxHeartbeats 4000000 in
theorem m_L_set {l : Launch} {G : GM} (hl : l.stackTraces = false) (hG : GG G) (p1 : Int32) (p2 : Int32) {r : Int32 × Mem} {M : Mem} (h : f_L_set p1 p2 M = some r) : Met l yL_set (.codeWith yL_set cL_set 4 (some .int) [(0, 6, 7, 14), (0, 6, 12, 25)] :: wsA) rmW (PcG G [.ref (gA G 0), .int p1, .int p2] M) (QcR G (some (.int r.1)) r.2) 1 6 (A0 G) := by
  refine met_W (by decide) hl hG (Nat.le_of_ble_eq_true rfl) (fun p e s m args below meth c F ht => ?_)
  refine w_aload_n F 0 dL_set_0 rfl rfl ?_
  refine w_iload_n F 1 dL_set_1 rfl rfl ?_
  refine w_iload_n F 2 dL_set_2 rfl rfl ?_
  rcases wrp_some h with h | ⟨q, hq, h, he⟩
  · refine w_cV (v := some (.int r.1)) (As := [.int p1, .int p2]) (rest := []) F (c_X6_set F.st F.gg p1 p2 M _ h) dL_set_3 ml_L_47 yv_X6_set (rfl : kd 0 = 0) (by decide) rfl rfl ⟨by decide, by decide⟩ ⟨by decide, by decide⟩ rfl (Nat.le_of_ble_eq_true rfl) ?_
    exact w_wide (u2 := 1) (w2 := 6) (by decide) (by decide) (w_iret F dL_set_6 rfl)
  · unfold es_set at hq
    rcases List.mem_cons.mp hq with rfl | hq
    · rw [he]
      refine w_cVx (E := exI) (pre := []) (x := ⟨0, 6, 7, 14⟩) (suf := [⟨0, 6, 12, 25⟩]) (tgt := 7) (As := [.int p1, .int p2]) (rest := []) F (c_X6_set F.st F.gg p1 p2 M _ h) dL_set_3 ml_L_47 yv_X6_set (rfl : kd 0 = 0) (by decide) rfl rfl ⟨by decide, by decide⟩ ⟨by decide, by decide⟩ rfl (Nat.le_of_ble_eq_true rfl) (by rw [ht]; rfl) (fun z hz => by cases hz) (by decide) (by decide) cl_L_14 cs_exI rfl (fun q => ?_)
      refine w_astore_n (ls' := [(3, .ref q), (0, .ref (gA G 0)), (1, .int p1), (2, .int p2)]) F dL_set_7 rfl (by decide) rfl ?_
      refine w_sipush F dL_set_8 (v := -903) (by decide) ?_
      exact w_iret F dL_set_11 rfl
    rcases List.mem_cons.mp hq with rfl | hq
    · rw [he]
      refine w_cVx (E := exA) (pre := [⟨0, 6, 7, 14⟩]) (x := ⟨0, 6, 12, 25⟩) (suf := []) (tgt := 12) (As := [.int p1, .int p2]) (rest := []) F (c_X6_set F.st F.gg p1 p2 M _ h) dL_set_3 ml_L_47 yv_X6_set (rfl : kd 0 = 0) (by decide) rfl rfl ⟨by decide, by decide⟩ ⟨by decide, by decide⟩ rfl (Nat.le_of_ble_eq_true rfl) (by rw [ht]; rfl) (fun z hz => by
          rcases List.mem_cons.mp hz with rfl | hz
          · exact ⟨by decide, exI, cl_L_14, by decide⟩
          cases hz) (by decide) (by decide) cl_L_25 cs_exA rfl (fun q => ?_)
      refine w_astore_n (ls' := [(3, .ref q), (0, .ref (gA G 0)), (1, .int p1), (2, .int p2)]) F dL_set_12 rfl (by decide) rfl ?_
      refine w_sipush F dL_set_13 (v := -901) (by decide) ?_
      exact w_iret F dL_set_16 rfl
    cases hq
theorem cw_L_file : Cond.codeWith yL_file cL_file 4 (some .int) [(0, 6, 7, 14)] ∈ wsA := inA (tb3 (k := 188) (by rfl)) (by decide +kernel)
def es_file : List (String × Int32) := [(exI, -903)]
def f_L_file (p1 : Int32) (p2 : Int32) (M : Mem) : Option (Int32 × Mem) := wrp es_file (f_X6_file p1 p2 M)
set_option maxRecDepth 100000 in
set_option maxHeartbeats 4000000 in
theorem m_L_file {l : Launch} {G : GM} (hl : l.stackTraces = false) (hG : GG G) (p1 : Int32) (p2 : Int32) {r : Int32 × Mem} {M : Mem} (h : f_L_file p1 p2 M = some r) : Met l yL_file (.codeWith yL_file cL_file 4 (some .int) [(0, 6, 7, 14)] :: wsA) rmW (PcG G [.ref (gA G 0), .int p1, .int p2] M) (QcR G (some (.int r.1)) r.2) 1 6 (A0 G) := by
  refine met_W (by decide) hl hG (Nat.le_of_ble_eq_true rfl) (fun p e s m args below meth c F ht => ?_)
  refine w_aload_n F 0 dL_file_0 rfl rfl ?_
  refine w_iload_n F 1 dL_file_1 rfl rfl ?_
  refine w_iload_n F 2 dL_file_2 rfl rfl ?_
  rcases wrp_some h with h | ⟨q, hq, h, he⟩
  · refine w_cV (v := some (.int r.1)) (As := [.int p1, .int p2]) (rest := []) F (c_X6_file F.st F.gg p1 p2 M _ h) dL_file_3 ml_L_50 yv_X6_file (rfl : kd 0 = 0) (by decide) rfl rfl ⟨by decide, by decide⟩ ⟨by decide, by decide⟩ rfl (Nat.le_of_ble_eq_true rfl) ?_
    exact w_wide (u2 := 1) (w2 := 6) (by decide) (by decide) (w_iret F dL_file_6 rfl)
  · unfold es_file at hq
    rcases List.mem_cons.mp hq with rfl | hq
    · rw [he]
      refine w_cVx (E := exI) (pre := []) (x := ⟨0, 6, 7, 14⟩) (suf := []) (tgt := 7) (As := [.int p1, .int p2]) (rest := []) F (c_X6_file F.st F.gg p1 p2 M _ h) dL_file_3 ml_L_50 yv_X6_file (rfl : kd 0 = 0) (by decide) rfl rfl ⟨by decide, by decide⟩ ⟨by decide, by decide⟩ rfl (Nat.le_of_ble_eq_true rfl) (by rw [ht]; rfl) (fun z hz => by cases hz) (by decide) (by decide) cl_L_14 cs_exI rfl (fun q => ?_)
      refine w_astore_n (ls' := [(3, .ref q), (0, .ref (gA G 0)), (1, .int p1), (2, .int p2)]) F dL_file_7 rfl (by decide) rfl ?_
      refine w_sipush F dL_file_8 (v := -903) (by decide) ?_
      exact w_iret F dL_file_11 rfl
    cases hq
theorem cw_L_put : Cond.codeWith yL_put cL_put 5 (some .int) [(0, 7, 8, 14), (0, 7, 14, 16)] ∈ wsA := inA (tb3 (k := 202) (by rfl)) (by decide +kernel)
def es_put : List (String × Int32) := [(exI, -903), (exS, -902)]
def f_L_put (p1 : Int32) (p2 : Int32) (p3 : Int32) (M : Mem) : Option (Int32 × Mem) := wrp es_put (f_X6_put p1 p2 p3 M)
set_option maxRecDepth 100000 in
set_option maxHeartbeats 4000000 in
theorem m_L_put {l : Launch} {G : GM} (hl : l.stackTraces = false) (hG : GG G) (p1 : Int32) (p2 : Int32) (p3 : Int32) {r : Int32 × Mem} {M : Mem} (h : f_L_put p1 p2 p3 M = some r) : Met l yL_put (.codeWith yL_put cL_put 5 (some .int) [(0, 7, 8, 14), (0, 7, 14, 16)] :: wsA) rmW (PcG G [.ref (gA G 0), .int p1, .int p2, .int p3] M) (QcR G (some (.int r.1)) r.2) 1 6 (A0 G) := by
  refine met_W (by decide) hl hG (Nat.le_of_ble_eq_true rfl) (fun p e s m args below meth c F ht => ?_)
  refine w_aload_n F 0 dL_put_0 rfl rfl ?_
  refine w_iload_n F 1 dL_put_1 rfl rfl ?_
  refine w_iload_n F 2 dL_put_2 rfl rfl ?_
  refine w_iload_n F 3 dL_put_3 rfl rfl ?_
  rcases wrp_some h with h | ⟨q, hq, h, he⟩
  · refine w_cV (v := some (.int r.1)) (As := [.int p1, .int p2, .int p3]) (rest := []) F (c_X6_put F.st F.gg p1 p2 p3 M _ h) dL_put_4 ml_L_8 yv_X6_put (rfl : kd 0 = 0) (by decide) rfl rfl ⟨by decide, by decide⟩ ⟨by decide, by decide⟩ rfl (Nat.le_of_ble_eq_true rfl) ?_
    exact w_wide (u2 := 1) (w2 := 6) (by decide) (by decide) (w_iret F dL_put_7 rfl)
  · unfold es_put at hq
    rcases List.mem_cons.mp hq with rfl | hq
    · rw [he]
      refine w_cVx (E := exI) (pre := []) (x := ⟨0, 7, 8, 14⟩) (suf := [⟨0, 7, 14, 16⟩]) (tgt := 8) (As := [.int p1, .int p2, .int p3]) (rest := []) F (c_X6_put F.st F.gg p1 p2 p3 M _ h) dL_put_4 ml_L_8 yv_X6_put (rfl : kd 0 = 0) (by decide) rfl rfl ⟨by decide, by decide⟩ ⟨by decide, by decide⟩ rfl (Nat.le_of_ble_eq_true rfl) (by rw [ht]; rfl) (fun z hz => by cases hz) (by decide) (by decide) cl_L_14 cs_exI rfl (fun q => ?_)
      refine w_astore (ls' := [(4, .ref q), (0, .ref (gA G 0)), (1, .int p1), (2, .int p2), (3, .int p3)]) F dL_put_8 (by decide) rfl ?_
      refine w_sipush F dL_put_10 (v := -903) (by decide) ?_
      exact w_iret F dL_put_13 rfl
    rcases List.mem_cons.mp hq with rfl | hq
    · rw [he]
      refine w_cVx (E := exS) (pre := [⟨0, 7, 8, 14⟩]) (x := ⟨0, 7, 14, 16⟩) (suf := []) (tgt := 14) (As := [.int p1, .int p2, .int p3]) (rest := []) F (c_X6_put F.st F.gg p1 p2 p3 M _ h) dL_put_4 ml_L_8 yv_X6_put (rfl : kd 0 = 0) (by decide) rfl rfl ⟨by decide, by decide⟩ ⟨by decide, by decide⟩ rfl (Nat.le_of_ble_eq_true rfl) (by rw [ht]; rfl) (fun z hz => by
          rcases List.mem_cons.mp hz with rfl | hz
          · exact ⟨by decide, exI, cl_L_14, by decide⟩
          cases hz) (by decide) (by decide) cl_L_16 cs_exS rfl (fun q => ?_)
      refine w_astore (ls' := [(4, .ref q), (0, .ref (gA G 0)), (1, .int p1), (2, .int p2), (3, .int p3)]) F dL_put_14 (by decide) rfl ?_
      refine w_sipush F dL_put_16 (v := -902) (by decide) ?_
      exact w_iret F dL_put_19 rfl
    cases hq
theorem cw_L_pull : Cond.codeWith yL_pull cL_pull 5 (some .int) [(0, 7, 8, 14), (0, 7, 14, 16)] ∈ wsA := inA (tb3 (k := 223) (by rfl)) (by decide +kernel)
def es_pull : List (String × Int32) := [(exI, -903), (exS, -902)]
def f_L_pull (p1 : Int32) (p2 : Int32) (p3 : Int32) (M : Mem) : Option (Int32 × Mem) := wrp es_pull (f_X6_pull p1 p2 p3 M)
set_option maxRecDepth 100000 in
set_option maxHeartbeats 4000000 in
theorem m_L_pull {l : Launch} {G : GM} (hl : l.stackTraces = false) (hG : GG G) (p1 : Int32) (p2 : Int32) (p3 : Int32) {r : Int32 × Mem} {M : Mem} (h : f_L_pull p1 p2 p3 M = some r) : Met l yL_pull (.codeWith yL_pull cL_pull 5 (some .int) [(0, 7, 8, 14), (0, 7, 14, 16)] :: wsA) rmW (PcG G [.ref (gA G 0), .int p1, .int p2, .int p3] M) (QcR G (some (.int r.1)) r.2) 1 6 (A0 G) := by
  refine met_W (by decide) hl hG (Nat.le_of_ble_eq_true rfl) (fun p e s m args below meth c F ht => ?_)
  refine w_aload_n F 0 dL_pull_0 rfl rfl ?_
  refine w_iload_n F 1 dL_pull_1 rfl rfl ?_
  refine w_iload_n F 2 dL_pull_2 rfl rfl ?_
  refine w_iload_n F 3 dL_pull_3 rfl rfl ?_
  rcases wrp_some h with h | ⟨q, hq, h, he⟩
  · refine w_cV (v := some (.int r.1)) (As := [.int p1, .int p2, .int p3]) (rest := []) F (c_X6_pull F.st F.gg p1 p2 p3 M _ h) dL_pull_4 ml_L_18 yv_X6_pull (rfl : kd 0 = 0) (by decide) rfl rfl ⟨by decide, by decide⟩ ⟨by decide, by decide⟩ rfl (Nat.le_of_ble_eq_true rfl) ?_
    exact w_wide (u2 := 1) (w2 := 6) (by decide) (by decide) (w_iret F dL_pull_7 rfl)
  · unfold es_pull at hq
    rcases List.mem_cons.mp hq with rfl | hq
    · rw [he]
      refine w_cVx (E := exI) (pre := []) (x := ⟨0, 7, 8, 14⟩) (suf := [⟨0, 7, 14, 16⟩]) (tgt := 8) (As := [.int p1, .int p2, .int p3]) (rest := []) F (c_X6_pull F.st F.gg p1 p2 p3 M _ h) dL_pull_4 ml_L_18 yv_X6_pull (rfl : kd 0 = 0) (by decide) rfl rfl ⟨by decide, by decide⟩ ⟨by decide, by decide⟩ rfl (Nat.le_of_ble_eq_true rfl) (by rw [ht]; rfl) (fun z hz => by cases hz) (by decide) (by decide) cl_L_14 cs_exI rfl (fun q => ?_)
      refine w_astore (ls' := [(4, .ref q), (0, .ref (gA G 0)), (1, .int p1), (2, .int p2), (3, .int p3)]) F dL_pull_8 (by decide) rfl ?_
      refine w_sipush F dL_pull_10 (v := -903) (by decide) ?_
      exact w_iret F dL_pull_13 rfl
    rcases List.mem_cons.mp hq with rfl | hq
    · rw [he]
      refine w_cVx (E := exS) (pre := [⟨0, 7, 8, 14⟩]) (x := ⟨0, 7, 14, 16⟩) (suf := []) (tgt := 14) (As := [.int p1, .int p2, .int p3]) (rest := []) F (c_X6_pull F.st F.gg p1 p2 p3 M _ h) dL_pull_4 ml_L_18 yv_X6_pull (rfl : kd 0 = 0) (by decide) rfl rfl ⟨by decide, by decide⟩ ⟨by decide, by decide⟩ rfl (Nat.le_of_ble_eq_true rfl) (by rw [ht]; rfl) (fun z hz => by
          rcases List.mem_cons.mp hz with rfl | hz
          · exact ⟨by decide, exI, cl_L_14, by decide⟩
          cases hz) (by decide) (by decide) cl_L_16 cs_exS rfl (fun q => ?_)
      refine w_astore (ls' := [(4, .ref q), (0, .ref (gA G 0)), (1, .int p1), (2, .int p2), (3, .int p3)]) F dL_pull_14 (by decide) rfl ?_
      refine w_sipush F dL_pull_16 (v := -902) (by decide) ?_
      exact w_iret F dL_pull_19 rfl
    cases hq
theorem cw_L_move : Cond.codeWith yL_move cL_move 6 (some .int) [(0, 9, 10, 14), (0, 9, 16, 25), (0, 9, 22, 16)] ∈ wsA := inA (tb3 (k := 232) (by rfl)) (by decide +kernel)
def es_move : List (String × Int32) := [(exI, -903), (exA, -901), (exS, -902)]
def f_L_move (p1 : Int32) (p2 : Int32) (p3 : Int32) (p4 : Int32) (M : Mem) : Option (Int32 × Mem) := wrp es_move (f_X6_move p1 p2 p3 p4 M)
set_option maxRecDepth 100000 in
set_option maxHeartbeats 4000000 in
theorem m_L_move {l : Launch} {G : GM} (hl : l.stackTraces = false) (hG : GG G) (p1 : Int32) (p2 : Int32) (p3 : Int32) (p4 : Int32) {r : Int32 × Mem} {M : Mem} (h : f_L_move p1 p2 p3 p4 M = some r) : Met l yL_move (.codeWith yL_move cL_move 6 (some .int) [(0, 9, 10, 14), (0, 9, 16, 25), (0, 9, 22, 16)] :: wsA) rmW (PcG G [.ref (gA G 0), .int p1, .int p2, .int p3, .int p4] M) (QcR G (some (.int r.1)) r.2) 1 6 (A0 G) := by
  refine met_W (by decide) hl hG (Nat.le_of_ble_eq_true rfl) (fun p e s m args below meth c F ht => ?_)
  refine w_aload_n F 0 dL_move_0 rfl rfl ?_
  refine w_iload_n F 1 dL_move_1 rfl rfl ?_
  refine w_iload_n F 2 dL_move_2 rfl rfl ?_
  refine w_iload_n F 3 dL_move_3 rfl rfl ?_
  refine w_iload F 4 dL_move_4 rfl ?_
  rcases wrp_some h with h | ⟨q, hq, h, he⟩
  · refine w_cV (v := some (.int r.1)) (As := [.int p1, .int p2, .int p3, .int p4]) (rest := []) F (c_X6_move F.st F.gg p1 p2 p3 p4 M _ h) dL_move_6 ml_L_21 yv_X6_move (rfl : kd 0 = 0) (by decide) rfl rfl ⟨by decide, by decide⟩ ⟨by decide, by decide⟩ rfl (Nat.le_of_ble_eq_true rfl) ?_
    exact w_wide (u2 := 1) (w2 := 6) (by decide) (by decide) (w_iret F dL_move_9 rfl)
  · unfold es_move at hq
    rcases List.mem_cons.mp hq with rfl | hq
    · rw [he]
      refine w_cVx (E := exI) (pre := []) (x := ⟨0, 9, 10, 14⟩) (suf := [⟨0, 9, 16, 25⟩, ⟨0, 9, 22, 16⟩]) (tgt := 10) (As := [.int p1, .int p2, .int p3, .int p4]) (rest := []) F (c_X6_move F.st F.gg p1 p2 p3 p4 M _ h) dL_move_6 ml_L_21 yv_X6_move (rfl : kd 0 = 0) (by decide) rfl rfl ⟨by decide, by decide⟩ ⟨by decide, by decide⟩ rfl (Nat.le_of_ble_eq_true rfl) (by rw [ht]; rfl) (fun z hz => by cases hz) (by decide) (by decide) cl_L_14 cs_exI rfl (fun q => ?_)
      refine w_astore (ls' := [(5, .ref q), (0, .ref (gA G 0)), (1, .int p1), (2, .int p2), (3, .int p3), (4, .int p4)]) F dL_move_10 (by decide) rfl ?_
      refine w_sipush F dL_move_12 (v := -903) (by decide) ?_
      exact w_iret F dL_move_15 rfl
    rcases List.mem_cons.mp hq with rfl | hq
    · rw [he]
      refine w_cVx (E := exA) (pre := [⟨0, 9, 10, 14⟩]) (x := ⟨0, 9, 16, 25⟩) (suf := [⟨0, 9, 22, 16⟩]) (tgt := 16) (As := [.int p1, .int p2, .int p3, .int p4]) (rest := []) F (c_X6_move F.st F.gg p1 p2 p3 p4 M _ h) dL_move_6 ml_L_21 yv_X6_move (rfl : kd 0 = 0) (by decide) rfl rfl ⟨by decide, by decide⟩ ⟨by decide, by decide⟩ rfl (Nat.le_of_ble_eq_true rfl) (by rw [ht]; rfl) (fun z hz => by
          rcases List.mem_cons.mp hz with rfl | hz
          · exact ⟨by decide, exI, cl_L_14, by decide⟩
          cases hz) (by decide) (by decide) cl_L_25 cs_exA rfl (fun q => ?_)
      refine w_astore (ls' := [(5, .ref q), (0, .ref (gA G 0)), (1, .int p1), (2, .int p2), (3, .int p3), (4, .int p4)]) F dL_move_16 (by decide) rfl ?_
      refine w_sipush F dL_move_18 (v := -901) (by decide) ?_
      exact w_iret F dL_move_21 rfl
    rcases List.mem_cons.mp hq with rfl | hq
    · rw [he]
      refine w_cVx (E := exS) (pre := [⟨0, 9, 10, 14⟩, ⟨0, 9, 16, 25⟩]) (x := ⟨0, 9, 22, 16⟩) (suf := []) (tgt := 22) (As := [.int p1, .int p2, .int p3, .int p4]) (rest := []) F (c_X6_move F.st F.gg p1 p2 p3 p4 M _ h) dL_move_6 ml_L_21 yv_X6_move (rfl : kd 0 = 0) (by decide) rfl rfl ⟨by decide, by decide⟩ ⟨by decide, by decide⟩ rfl (Nat.le_of_ble_eq_true rfl) (by rw [ht]; rfl) (fun z hz => by
          rcases List.mem_cons.mp hz with rfl | hz
          · exact ⟨by decide, exI, cl_L_14, by decide⟩
          rcases List.mem_cons.mp hz with rfl | hz
          · exact ⟨by decide, exA, cl_L_25, by decide⟩
          cases hz) (by decide) (by decide) cl_L_16 cs_exS rfl (fun q => ?_)
      refine w_astore (ls' := [(5, .ref q), (0, .ref (gA G 0)), (1, .int p1), (2, .int p2), (3, .int p3), (4, .int p4)]) F dL_move_22 (by decide) rfl ?_
      refine w_sipush F dL_move_24 (v := -902) (by decide) ?_
      exact w_iret F dL_move_27 rfl
    cases hq
theorem cw_L_trade : Cond.codeWith yL_trade cL_trade 4 (some .int) [(0, 6, 7, 14), (0, 6, 12, 25)] ∈ wsA := inA (tb4 (k := 4) (by rfl)) (by decide +kernel)
def es_trade : List (String × Int32) := [(exI, -903), (exA, -901)]
def f_L_trade (p1 : Int32) (p2 : Int32) (M : Mem) : Option (Int32 × Mem) := wrp es_trade (f_X6_trade p1 p2 M)
set_option maxRecDepth 100000 in
set_option maxHeartbeats 4000000 in
theorem m_L_trade {l : Launch} {G : GM} (hl : l.stackTraces = false) (hG : GG G) (p1 : Int32) (p2 : Int32) {r : Int32 × Mem} {M : Mem} (h : f_L_trade p1 p2 M = some r) : Met l yL_trade (.codeWith yL_trade cL_trade 4 (some .int) [(0, 6, 7, 14), (0, 6, 12, 25)] :: wsA) rmW (PcG G [.ref (gA G 0), .int p1, .int p2] M) (QcR G (some (.int r.1)) r.2) 1 6 (A0 G) := by
  refine met_W (by decide) hl hG (Nat.le_of_ble_eq_true rfl) (fun p e s m args below meth c F ht => ?_)
  refine w_aload_n F 0 dL_trade_0 rfl rfl ?_
  refine w_iload_n F 1 dL_trade_1 rfl rfl ?_
  refine w_iload_n F 2 dL_trade_2 rfl rfl ?_
  rcases wrp_some h with h | ⟨q, hq, h, he⟩
  · refine w_cV (v := some (.int r.1)) (As := [.int p1, .int p2]) (rest := []) F (c_X6_trade F.st F.gg p1 p2 M _ h) dL_trade_3 ml_L_27 yv_X6_trade (rfl : kd 0 = 0) (by decide) rfl rfl ⟨by decide, by decide⟩ ⟨by decide, by decide⟩ rfl (Nat.le_of_ble_eq_true rfl) ?_
    exact w_wide (u2 := 1) (w2 := 6) (by decide) (by decide) (w_iret F dL_trade_6 rfl)
  · unfold es_trade at hq
    rcases List.mem_cons.mp hq with rfl | hq
    · rw [he]
      refine w_cVx (E := exI) (pre := []) (x := ⟨0, 6, 7, 14⟩) (suf := [⟨0, 6, 12, 25⟩]) (tgt := 7) (As := [.int p1, .int p2]) (rest := []) F (c_X6_trade F.st F.gg p1 p2 M _ h) dL_trade_3 ml_L_27 yv_X6_trade (rfl : kd 0 = 0) (by decide) rfl rfl ⟨by decide, by decide⟩ ⟨by decide, by decide⟩ rfl (Nat.le_of_ble_eq_true rfl) (by rw [ht]; rfl) (fun z hz => by cases hz) (by decide) (by decide) cl_L_14 cs_exI rfl (fun q => ?_)
      refine w_astore_n (ls' := [(3, .ref q), (0, .ref (gA G 0)), (1, .int p1), (2, .int p2)]) F dL_trade_7 rfl (by decide) rfl ?_
      refine w_sipush F dL_trade_8 (v := -903) (by decide) ?_
      exact w_iret F dL_trade_11 rfl
    rcases List.mem_cons.mp hq with rfl | hq
    · rw [he]
      refine w_cVx (E := exA) (pre := [⟨0, 6, 7, 14⟩]) (x := ⟨0, 6, 12, 25⟩) (suf := []) (tgt := 12) (As := [.int p1, .int p2]) (rest := []) F (c_X6_trade F.st F.gg p1 p2 M _ h) dL_trade_3 ml_L_27 yv_X6_trade (rfl : kd 0 = 0) (by decide) rfl rfl ⟨by decide, by decide⟩ ⟨by decide, by decide⟩ rfl (Nat.le_of_ble_eq_true rfl) (by rw [ht]; rfl) (fun z hz => by
          rcases List.mem_cons.mp hz with rfl | hz
          · exact ⟨by decide, exI, cl_L_14, by decide⟩
          cases hz) (by decide) (by decide) cl_L_25 cs_exA rfl (fun q => ?_)
      refine w_astore_n (ls' := [(3, .ref q), (0, .ref (gA G 0)), (1, .int p1), (2, .int p2)]) F dL_trade_12 rfl (by decide) rfl ?_
      refine w_sipush F dL_trade_13 (v := -901) (by decide) ?_
      exact w_iret F dL_trade_16 rfl
    cases hq
theorem cw_L_lend : Cond.codeWith yL_lend cL_lend 5 (some .int) [(0, 7, 8, 14), (0, 7, 14, 25), (0, 7, 20, 16)] ∈ wsA := inA (tb4 (k := 19) (by rfl)) (by decide +kernel)
def es_lend : List (String × Int32) := [(exI, -903), (exA, -901), (exS, -902)]
def f_L_lend (p1 : Int32) (p2 : Int32) (p3 : Int32) (M : Mem) : Option (Int32 × Mem) := wrp es_lend (f_X6_lend p1 p2 p3 M)
set_option maxRecDepth 100000 in
set_option maxHeartbeats 4000000 in
theorem m_L_lend {l : Launch} {G : GM} (hl : l.stackTraces = false) (hG : GG G) (p1 : Int32) (p2 : Int32) (p3 : Int32) {r : Int32 × Mem} {M : Mem} (h : f_L_lend p1 p2 p3 M = some r) : Met l yL_lend (.codeWith yL_lend cL_lend 5 (some .int) [(0, 7, 8, 14), (0, 7, 14, 25), (0, 7, 20, 16)] :: wsA) rmW (PcG G [.ref (gA G 0), .int p1, .int p2, .int p3] M) (QcR G (some (.int r.1)) r.2) 1 6 (A0 G) := by
  refine met_W (by decide) hl hG (Nat.le_of_ble_eq_true rfl) (fun p e s m args below meth c F ht => ?_)
  refine w_aload_n F 0 dL_lend_0 rfl rfl ?_
  refine w_iload_n F 1 dL_lend_1 rfl rfl ?_
  refine w_iload_n F 2 dL_lend_2 rfl rfl ?_
  refine w_iload_n F 3 dL_lend_3 rfl rfl ?_
  rcases wrp_some h with h | ⟨q, hq, h, he⟩
  · refine w_cV (v := some (.int r.1)) (As := [.int p1, .int p2, .int p3]) (rest := []) F (c_X6_lend F.st F.gg p1 p2 p3 M _ h) dL_lend_4 ml_L_31 yv_X6_lend (rfl : kd 0 = 0) (by decide) rfl rfl ⟨by decide, by decide⟩ ⟨by decide, by decide⟩ rfl (Nat.le_of_ble_eq_true rfl) ?_
    exact w_wide (u2 := 1) (w2 := 6) (by decide) (by decide) (w_iret F dL_lend_7 rfl)
  · unfold es_lend at hq
    rcases List.mem_cons.mp hq with rfl | hq
    · rw [he]
      refine w_cVx (E := exI) (pre := []) (x := ⟨0, 7, 8, 14⟩) (suf := [⟨0, 7, 14, 25⟩, ⟨0, 7, 20, 16⟩]) (tgt := 8) (As := [.int p1, .int p2, .int p3]) (rest := []) F (c_X6_lend F.st F.gg p1 p2 p3 M _ h) dL_lend_4 ml_L_31 yv_X6_lend (rfl : kd 0 = 0) (by decide) rfl rfl ⟨by decide, by decide⟩ ⟨by decide, by decide⟩ rfl (Nat.le_of_ble_eq_true rfl) (by rw [ht]; rfl) (fun z hz => by cases hz) (by decide) (by decide) cl_L_14 cs_exI rfl (fun q => ?_)
      refine w_astore (ls' := [(4, .ref q), (0, .ref (gA G 0)), (1, .int p1), (2, .int p2), (3, .int p3)]) F dL_lend_8 (by decide) rfl ?_
      refine w_sipush F dL_lend_10 (v := -903) (by decide) ?_
      exact w_iret F dL_lend_13 rfl
    rcases List.mem_cons.mp hq with rfl | hq
    · rw [he]
      refine w_cVx (E := exA) (pre := [⟨0, 7, 8, 14⟩]) (x := ⟨0, 7, 14, 25⟩) (suf := [⟨0, 7, 20, 16⟩]) (tgt := 14) (As := [.int p1, .int p2, .int p3]) (rest := []) F (c_X6_lend F.st F.gg p1 p2 p3 M _ h) dL_lend_4 ml_L_31 yv_X6_lend (rfl : kd 0 = 0) (by decide) rfl rfl ⟨by decide, by decide⟩ ⟨by decide, by decide⟩ rfl (Nat.le_of_ble_eq_true rfl) (by rw [ht]; rfl) (fun z hz => by
          rcases List.mem_cons.mp hz with rfl | hz
          · exact ⟨by decide, exI, cl_L_14, by decide⟩
          cases hz) (by decide) (by decide) cl_L_25 cs_exA rfl (fun q => ?_)
      refine w_astore (ls' := [(4, .ref q), (0, .ref (gA G 0)), (1, .int p1), (2, .int p2), (3, .int p3)]) F dL_lend_14 (by decide) rfl ?_
      refine w_sipush F dL_lend_16 (v := -901) (by decide) ?_
      exact w_iret F dL_lend_19 rfl
    rcases List.mem_cons.mp hq with rfl | hq
    · rw [he]
      refine w_cVx (E := exS) (pre := [⟨0, 7, 8, 14⟩, ⟨0, 7, 14, 25⟩]) (x := ⟨0, 7, 20, 16⟩) (suf := []) (tgt := 20) (As := [.int p1, .int p2, .int p3]) (rest := []) F (c_X6_lend F.st F.gg p1 p2 p3 M _ h) dL_lend_4 ml_L_31 yv_X6_lend (rfl : kd 0 = 0) (by decide) rfl rfl ⟨by decide, by decide⟩ ⟨by decide, by decide⟩ rfl (Nat.le_of_ble_eq_true rfl) (by rw [ht]; rfl) (fun z hz => by
          rcases List.mem_cons.mp hz with rfl | hz
          · exact ⟨by decide, exI, cl_L_14, by decide⟩
          rcases List.mem_cons.mp hz with rfl | hz
          · exact ⟨by decide, exA, cl_L_25, by decide⟩
          cases hz) (by decide) (by decide) cl_L_16 cs_exS rfl (fun q => ?_)
      refine w_astore (ls' := [(4, .ref q), (0, .ref (gA G 0)), (1, .int p1), (2, .int p2), (3, .int p3)]) F dL_lend_20 (by decide) rfl ?_
      refine w_sipush F dL_lend_22 (v := -902) (by decide) ?_
      exact w_iret F dL_lend_25 rfl
    cases hq
theorem cw_L_repay : Cond.codeWith yL_repay cL_repay 5 (some .int) [(0, 7, 8, 14), (0, 7, 14, 25), (0, 7, 20, 16)] ∈ wsA := inA (tb4 (k := 39) (by rfl)) (by decide +kernel)
def es_repay : List (String × Int32) := [(exI, -903), (exA, -901), (exS, -902)]
def f_L_repay (p1 : Int32) (p2 : Int32) (p3 : Int32) (M : Mem) : Option (Int32 × Mem) := wrp es_repay (f_X6_repay p1 p2 p3 M)
set_option maxRecDepth 100000 in
set_option maxHeartbeats 4000000 in
theorem m_L_repay {l : Launch} {G : GM} (hl : l.stackTraces = false) (hG : GG G) (p1 : Int32) (p2 : Int32) (p3 : Int32) {r : Int32 × Mem} {M : Mem} (h : f_L_repay p1 p2 p3 M = some r) : Met l yL_repay (.codeWith yL_repay cL_repay 5 (some .int) [(0, 7, 8, 14), (0, 7, 14, 25), (0, 7, 20, 16)] :: wsA) rmW (PcG G [.ref (gA G 0), .int p1, .int p2, .int p3] M) (QcR G (some (.int r.1)) r.2) 1 6 (A0 G) := by
  refine met_W (by decide) hl hG (Nat.le_of_ble_eq_true rfl) (fun p e s m args below meth c F ht => ?_)
  refine w_aload_n F 0 dL_repay_0 rfl rfl ?_
  refine w_iload_n F 1 dL_repay_1 rfl rfl ?_
  refine w_iload_n F 2 dL_repay_2 rfl rfl ?_
  refine w_iload_n F 3 dL_repay_3 rfl rfl ?_
  rcases wrp_some h with h | ⟨q, hq, h, he⟩
  · refine w_cV (v := some (.int r.1)) (As := [.int p1, .int p2, .int p3]) (rest := []) F (c_X6_repay F.st F.gg p1 p2 p3 M _ h) dL_repay_4 ml_L_34 yv_X6_repay (rfl : kd 0 = 0) (by decide) rfl rfl ⟨by decide, by decide⟩ ⟨by decide, by decide⟩ rfl (Nat.le_of_ble_eq_true rfl) ?_
    exact w_wide (u2 := 1) (w2 := 6) (by decide) (by decide) (w_iret F dL_repay_7 rfl)
  · unfold es_repay at hq
    rcases List.mem_cons.mp hq with rfl | hq
    · rw [he]
      refine w_cVx (E := exI) (pre := []) (x := ⟨0, 7, 8, 14⟩) (suf := [⟨0, 7, 14, 25⟩, ⟨0, 7, 20, 16⟩]) (tgt := 8) (As := [.int p1, .int p2, .int p3]) (rest := []) F (c_X6_repay F.st F.gg p1 p2 p3 M _ h) dL_repay_4 ml_L_34 yv_X6_repay (rfl : kd 0 = 0) (by decide) rfl rfl ⟨by decide, by decide⟩ ⟨by decide, by decide⟩ rfl (Nat.le_of_ble_eq_true rfl) (by rw [ht]; rfl) (fun z hz => by cases hz) (by decide) (by decide) cl_L_14 cs_exI rfl (fun q => ?_)
      refine w_astore (ls' := [(4, .ref q), (0, .ref (gA G 0)), (1, .int p1), (2, .int p2), (3, .int p3)]) F dL_repay_8 (by decide) rfl ?_
      refine w_sipush F dL_repay_10 (v := -903) (by decide) ?_
      exact w_iret F dL_repay_13 rfl
    rcases List.mem_cons.mp hq with rfl | hq
    · rw [he]
      refine w_cVx (E := exA) (pre := [⟨0, 7, 8, 14⟩]) (x := ⟨0, 7, 14, 25⟩) (suf := [⟨0, 7, 20, 16⟩]) (tgt := 14) (As := [.int p1, .int p2, .int p3]) (rest := []) F (c_X6_repay F.st F.gg p1 p2 p3 M _ h) dL_repay_4 ml_L_34 yv_X6_repay (rfl : kd 0 = 0) (by decide) rfl rfl ⟨by decide, by decide⟩ ⟨by decide, by decide⟩ rfl (Nat.le_of_ble_eq_true rfl) (by rw [ht]; rfl) (fun z hz => by
          rcases List.mem_cons.mp hz with rfl | hz
          · exact ⟨by decide, exI, cl_L_14, by decide⟩
          cases hz) (by decide) (by decide) cl_L_25 cs_exA rfl (fun q => ?_)
      refine w_astore (ls' := [(4, .ref q), (0, .ref (gA G 0)), (1, .int p1), (2, .int p2), (3, .int p3)]) F dL_repay_14 (by decide) rfl ?_
      refine w_sipush F dL_repay_16 (v := -901) (by decide) ?_
      exact w_iret F dL_repay_19 rfl
    rcases List.mem_cons.mp hq with rfl | hq
    · rw [he]
      refine w_cVx (E := exS) (pre := [⟨0, 7, 8, 14⟩, ⟨0, 7, 14, 25⟩]) (x := ⟨0, 7, 20, 16⟩) (suf := []) (tgt := 20) (As := [.int p1, .int p2, .int p3]) (rest := []) F (c_X6_repay F.st F.gg p1 p2 p3 M _ h) dL_repay_4 ml_L_34 yv_X6_repay (rfl : kd 0 = 0) (by decide) rfl rfl ⟨by decide, by decide⟩ ⟨by decide, by decide⟩ rfl (Nat.le_of_ble_eq_true rfl) (by rw [ht]; rfl) (fun z hz => by
          rcases List.mem_cons.mp hz with rfl | hz
          · exact ⟨by decide, exI, cl_L_14, by decide⟩
          rcases List.mem_cons.mp hz with rfl | hz
          · exact ⟨by decide, exA, cl_L_25, by decide⟩
          cases hz) (by decide) (by decide) cl_L_16 cs_exS rfl (fun q => ?_)
      refine w_astore (ls' := [(4, .ref q), (0, .ref (gA G 0)), (1, .int p1), (2, .int p2), (3, .int p3)]) F dL_repay_20 (by decide) rfl ?_
      refine w_sipush F dL_repay_22 (v := -902) (by decide) ?_
      exact w_iret F dL_repay_25 rfl
    cases hq
