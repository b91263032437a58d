/-! ===== the law's wrappers ===== -/
theorem cs_exA : Cond.castable exA exA ∈ lw_tbl := tb2 (k := 156) rfl
theorem cs_exI : Cond.castable exI exI ∈ lw_tbl := tb3 (k := 0) rfl
theorem cs_exS : Cond.castable exS exS ∈ lw_tbl := tb3 (k := 130) rfl
theorem cw_L_addTown : Cond.codeWith yL_addTown cL_addTown 4 (some .int) [(0, 9, 12, 13), (0, 9, 15, 15)] ∈ wsA := inA (tb3 (k := 120) (by rfl)) (by decide +kernel)
set_option maxRecDepth 100000 in
set_option maxHeartbeats 4000000 in
theorem m_L_addTown {l : Launch} {G : GM} (hl : l.stackTraces = false) (hG : GG G) (p1 : Int32) {r : Int32 ⊕ String} {M M1 M2 : Mem} {c9 : Int32} (h : f_X6_addTown p1 M = some (r, M1)) (hw : wO [exA, exS] r M1 c9 M2) : Met l yL_addTown (.codeWith yL_addTown cL_addTown 4 (some .int) [(0, 9, 12, 13), (0, 9, 15, 15)] :: wsA) rmW (PcG G [.ref (gA G 0), .int p1, .ref (gA G 23)] M) (QcR G (some (.int c9)) M2) 1 6 (A0 G) := by
  refine met_W (by decide) hl hG (Nat.le_of_ble_eq_true rfl) (fun p e s m args below meth c F ht => ?_)
  refine w_aload_n F 2 dL_addTown_0 rfl rfl ?_
  refine w_iconst F dL_addTown_1 (v := 0) (by decide) ?_
  refine w_aload_n F 0 dL_addTown_2 rfl rfl ?_
  refine w_iload_n F 1 dL_addTown_3 rfl rfl ?_
  rcases hw with ⟨v, rfl, rfl, rfl⟩ | ⟨j, E, hj, rfl, rfl, rfl⟩
  · refine w_cV (v := some (.int v)) (As := [.int p1]) (rest := [.int 0, .ref (gA G 23)]) F (c_X6_addTown F.st F.gg p1 M _ h) dL_addTown_4 ml_L_7 yv_X6_addTown (rfl : kd 0 = 0) (by decide) rfl rfl ⟨by decide, by decide⟩ ⟨by decide, by decide⟩ rfl (Nat.le_of_ble_eq_true rfl) ?_
    refine w_i2l F dL_addTown_7 ?_
    refine w_last F dL_addTown_8 (rfl : kd 23 = 12) (by decide) ?_
    refine w_goto (tgt := 18) F dL_addTown_9 (by decide) ?_
    refine w_iconst F dL_addTown_18 (v := nI 0) (by decide) ?_
    exact w_wide (u2 := 1) (w2 := 6) (by decide) (by decide) (w_iret F dL_addTown_19 rfl)
  · rcases j with _ | _ | j
    · cases hj
      refine w_cVx (pre := []) (x := ⟨0, 9, 12, 13⟩) (suf := [⟨0, 9, 15, 15⟩]) (tgt := 12) (As := [.int p1]) (rest := [.int 0, .ref (gA G 23)]) F (c_X6_addTown F.st F.gg p1 M _ h) dL_addTown_4 ml_L_7 yv_X6_addTown (rfl : kd 0 = 0) (by decide) rfl rfl ⟨by decide, by decide⟩ ⟨by decide, by decide⟩ rfl (Nat.le_of_ble_eq_true rfl) (by rw [ht]; rfl) (fun z hz => by cases hz) (by decide) (by decide) cl_L_13 cs_exA rfl (fun q => ?_)
      refine w_astore_n (ls' := [(3, .ref q), (0, .ref (gA G 0)), (1, .int p1), (2, .ref (gA G 23))]) F dL_addTown_12 rfl (by decide) rfl ?_
      refine w_iconst F dL_addTown_13 (v := nI (0 + 1)) (by decide) ?_
      exact w_iret F dL_addTown_14 rfl
    · cases hj
      refine w_cVx (pre := [⟨0, 9, 12, 13⟩]) (x := ⟨0, 9, 15, 15⟩) (suf := []) (tgt := 15) (As := [.int p1]) (rest := [.int 0, .ref (gA G 23)]) F (c_X6_addTown F.st F.gg p1 M _ h) dL_addTown_4 ml_L_7 yv_X6_addTown (rfl : kd 0 = 0) (by decide) rfl rfl ⟨by decide, by decide⟩ ⟨by decide, by decide⟩ rfl (Nat.le_of_ble_eq_true rfl) (by rw [ht]; rfl) (fun z hz => by
          rcases List.mem_cons.mp hz with rfl | hz
          · exact ⟨by decide, exA, cl_L_13, by decide⟩
          cases hz) (by decide) (by decide) cl_L_15 cs_exS rfl (fun q => ?_)
      refine w_astore_n (ls' := [(3, .ref q), (0, .ref (gA G 0)), (1, .int p1), (2, .ref (gA G 23))]) F dL_addTown_15 rfl (by decide) rfl ?_
      refine w_iconst F dL_addTown_16 (v := nI (1 + 1)) (by decide) ?_
      exact w_iret F dL_addTown_17 rfl
    · cases hj
theorem cw_L_set : Cond.codeWith yL_set cL_set 5 (some .int) [(0, 10, 13, 21), (0, 10, 17, 13)] ∈ wsA := inA (tb3 (k := 147) (by rfl)) (by decide +kernel)
set_option maxRecDepth 100000 in
set_option maxHeartbeats 4000000 in
theorem m_L_set {l : Launch} {G : GM} (hl : l.stackTraces = false) (hG : GG G) (p1 : Int32) (p2 : Int32) {r : Int32 ⊕ String} {M M1 M2 : Mem} {c9 : Int32} (h : f_X6_set p1 p2 M = some (r, M1)) (hw : wO [exI, exA] r M1 c9 M2) : Met l yL_set (.codeWith yL_set cL_set 5 (some .int) [(0, 10, 13, 21), (0, 10, 17, 13)] :: wsA) rmW (PcG G [.ref (gA G 0), .int p1, .int p2, .ref (gA G 23)] M) (QcR G (some (.int c9)) M2) 1 6 (A0 G) := by
  refine met_W (by decide) hl hG (Nat.le_of_ble_eq_true rfl) (fun p e s m args below meth c F ht => ?_)
  refine w_aload_n F 3 dL_set_0 rfl rfl ?_
  refine w_iconst F dL_set_1 (v := 0) (by decide) ?_
  refine w_aload_n F 0 dL_set_2 rfl rfl ?_
  refine w_iload_n F 1 dL_set_3 rfl rfl ?_
  refine w_iload_n F 2 dL_set_4 rfl rfl ?_
  rcases hw with ⟨v, rfl, rfl, rfl⟩ | ⟨j, E, hj, rfl, rfl, rfl⟩
  · refine w_cV (v := some (.int v)) (As := [.int p1, .int p2]) (rest := [.int 0, .ref (gA G 23)]) F (c_X6_set F.st F.gg p1 p2 M _ h) dL_set_5 ml_L_17 yv_X6_set (rfl : kd 0 = 0) (by decide) rfl rfl ⟨by decide, by decide⟩ ⟨by decide, by decide⟩ rfl (Nat.le_of_ble_eq_true rfl) ?_
    refine w_i2l F dL_set_8 ?_
    refine w_last F dL_set_9 (rfl : kd 23 = 12) (by decide) ?_
    refine w_goto (tgt := 21) F dL_set_10 (by decide) ?_
    refine w_iconst F dL_set_21 (v := nI 0) (by decide) ?_
    exact w_wide (u2 := 1) (w2 := 6) (by decide) (by decide) (w_iret F dL_set_22 rfl)
  · rcases j with _ | _ | j
    · cases hj
      refine w_cVx (pre := []) (x := ⟨0, 10, 13, 21⟩) (suf := [⟨0, 10, 17, 13⟩]) (tgt := 13) (As := [.int p1, .int p2]) (rest := [.int 0, .ref (gA G 23)]) F (c_X6_set F.st F.gg p1 p2 M _ h) dL_set_5 ml_L_17 yv_X6_set (rfl : kd 0 = 0) (by decide) rfl rfl ⟨by decide, by decide⟩ ⟨by decide, by decide⟩ rfl (Nat.le_of_ble_eq_true rfl) (by rw [ht]; rfl) (fun z hz => by cases hz) (by decide) (by decide) cl_L_21 cs_exI rfl (fun q => ?_)
      refine w_astore (ls' := [(4, .ref q), (0, .ref (gA G 0)), (1, .int p1), (2, .int p2), (3, .ref (gA G 23))]) F dL_set_13 (by decide) rfl ?_
      refine w_iconst F dL_set_15 (v := nI (0 + 1)) (by decide) ?_
      exact w_iret F dL_set_16 rfl
    · cases hj
      refine w_cVx (pre := [⟨0, 10, 13, 21⟩]) (x := ⟨0, 10, 17, 13⟩) (suf := []) (tgt := 17) (As := [.int p1, .int p2]) (rest := [.int 0, .ref (gA G 23)]) F (c_X6_set F.st F.gg p1 p2 M _ h) dL_set_5 ml_L_17 yv_X6_set (rfl : kd 0 = 0) (by decide) rfl rfl ⟨by decide, by decide⟩ ⟨by decide, by decide⟩ rfl (Nat.le_of_ble_eq_true rfl) (by rw [ht]; rfl) (fun z hz => by
          rcases List.mem_cons.mp hz with rfl | hz
          · exact ⟨by decide, exI, cl_L_21, by decide⟩
          cases hz) (by decide) (by decide) cl_L_13 cs_exA rfl (fun q => ?_)
      refine w_astore (ls' := [(4, .ref q), (0, .ref (gA G 0)), (1, .int p1), (2, .int p2), (3, .ref (gA G 23))]) F dL_set_17 (by decide) rfl ?_
      refine w_iconst F dL_set_19 (v := nI (1 + 1)) (by decide) ?_
      exact w_iret F dL_set_20 rfl
    · cases hj
theorem cw_L_put : Cond.codeWith yL_put cL_put 6 (some .int) [(0, 12, 15, 21), (0, 12, 19, 15)] ∈ wsA := inA (tb3 (k := 164) (by rfl)) (by decide +kernel)
set_option maxRecDepth 100000 in
set_option maxHeartbeats 4000000 in
theorem m_L_put {l : Launch} {G : GM} (hl : l.stackTraces = false) (hG : GG G) (p1 : Int32) (p2 : Int32) (p3 : Int32) {r : Int32 ⊕ String} {M M1 M2 : Mem} {c9 : Int32} (h : f_X6_put p1 p2 p3 M = some (r, M1)) (hw : wO [exI, exS] r M1 c9 M2) : Met l yL_put (.codeWith yL_put cL_put 6 (some .int) [(0, 12, 15, 21), (0, 12, 19, 15)] :: wsA) rmW (PcG G [.ref (gA G 0), .int p1, .int p2, .int p3, .ref (gA G 23)] M) (QcR G (some (.int c9)) M2) 1 6 (A0 G) := by
  refine met_W (by decide) hl hG (Nat.le_of_ble_eq_true rfl) (fun p e s m args below meth c F ht => ?_)
  refine w_aload F 4 dL_put_0 rfl ?_
  refine w_iconst F dL_put_2 (v := 0) (by decide) ?_
  refine w_aload_n F 0 dL_put_3 rfl rfl ?_
  refine w_iload_n F 1 dL_put_4 rfl rfl ?_
  refine w_iload_n F 2 dL_put_5 rfl rfl ?_
  refine w_iload_n F 3 dL_put_6 rfl rfl ?_
  rcases hw with ⟨v, rfl, rfl, rfl⟩ | ⟨j, E, hj, rfl, rfl, rfl⟩
  · refine w_cV (v := some (.int v)) (As := [.int p1, .int p2, .int p3]) (rest := [.int 0, .ref (gA G 23)]) F (c_X6_put F.st F.gg p1 p2 p3 M _ h) dL_put_7 ml_L_23 yv_X6_put (rfl : kd 0 = 0) (by decide) rfl rfl ⟨by decide, by decide⟩ ⟨by decide, by decide⟩ rfl (Nat.le_of_ble_eq_true rfl) ?_
    refine w_i2l F dL_put_10 ?_
    refine w_last F dL_put_11 (rfl : kd 23 = 12) (by decide) ?_
    refine w_goto (tgt := 23) F dL_put_12 (by decide) ?_
    refine w_iconst F dL_put_23 (v := nI 0) (by decide) ?_
    exact w_wide (u2 := 1) (w2 := 6) (by decide) (by decide) (w_iret F dL_put_24 rfl)
  · rcases j with _ | _ | j
    · cases hj
      refine w_cVx (pre := []) (x := ⟨0, 12, 15, 21⟩) (suf := [⟨0, 12, 19, 15⟩]) (tgt := 15) (As := [.int p1, .int p2, .int p3]) (rest := [.int 0, .ref (gA G 23)]) F (c_X6_put F.st F.gg p1 p2 p3 M _ h) dL_put_7 ml_L_23 yv_X6_put (rfl : kd 0 = 0) (by decide) rfl rfl ⟨by decide, by decide⟩ ⟨by decide, by decide⟩ rfl (Nat.le_of_ble_eq_true rfl) (by rw [ht]; rfl) (fun z hz => by cases hz) (by decide) (by decide) cl_L_21 cs_exI rfl (fun q => ?_)
      refine w_astore (ls' := [(5, .ref q), (0, .ref (gA G 0)), (1, .int p1), (2, .int p2), (3, .int p3), (4, .ref (gA G 23))]) F dL_put_15 (by decide) rfl ?_
      refine w_iconst F dL_put_17 (v := nI (0 + 1)) (by decide) ?_
      exact w_iret F dL_put_18 rfl
    · cases hj
      refine w_cVx (pre := [⟨0, 12, 15, 21⟩]) (x := ⟨0, 12, 19, 15⟩) (suf := []) (tgt := 19) (As := [.int p1, .int p2, .int p3]) (rest := [.int 0, .ref (gA G 23)]) F (c_X6_put F.st F.gg p1 p2 p3 M _ h) dL_put_7 ml_L_23 yv_X6_put (rfl : kd 0 = 0) (by decide) rfl rfl ⟨by decide, by decide⟩ ⟨by decide, by decide⟩ rfl (Nat.le_of_ble_eq_true rfl) (by rw [ht]; rfl) (fun z hz => by
          rcases List.mem_cons.mp hz with rfl | hz
          · exact ⟨by decide, exI, cl_L_21, by decide⟩
          cases hz) (by decide) (by decide) cl_L_15 cs_exS rfl (fun q => ?_)
      refine w_astore (ls' := [(5, .ref q), (0, .ref (gA G 0)), (1, .int p1), (2, .int p2), (3, .int p3), (4, .ref (gA G 23))]) F dL_put_19 (by decide) rfl ?_
      refine w_iconst F dL_put_21 (v := nI (1 + 1)) (by decide) ?_
      exact w_iret F dL_put_22 rfl
    · cases hj
theorem cw_L_pull : Cond.codeWith yL_pull cL_pull 6 (some .int) [(0, 12, 15, 21), (0, 12, 19, 15)] ∈ wsA := inA (tb3 (k := 189) (by rfl)) (by decide +kernel)
set_option maxRecDepth 100000 in
set_option maxHeartbeats 4000000 in
theorem m_L_pull {l : Launch} {G : GM} (hl : l.stackTraces = false) (hG : GG G) (p1 : Int32) (p2 : Int32) (p3 : Int32) {r : Int32 ⊕ String} {M M1 M2 : Mem} {c9 : Int32} (h : f_X6_pull p1 p2 p3 M = some (r, M1)) (hw : wO [exI, exS] r M1 c9 M2) : Met l yL_pull (.codeWith yL_pull cL_pull 6 (some .int) [(0, 12, 15, 21), (0, 12, 19, 15)] :: wsA) rmW (PcG G [.ref (gA G 0), .int p1, .int p2, .int p3, .ref (gA G 23)] M) (QcR G (some (.int c9)) M2) 1 6 (A0 G) := by
  refine met_W (by decide) hl hG (Nat.le_of_ble_eq_true rfl) (fun p e s m args below meth c F ht => ?_)
  refine w_aload F 4 dL_pull_0 rfl ?_
  refine w_iconst F dL_pull_2 (v := 0) (by decide) ?_
  refine w_aload_n F 0 dL_pull_3 rfl rfl ?_
  refine w_iload_n F 1 dL_pull_4 rfl rfl ?_
  refine w_iload_n F 2 dL_pull_5 rfl rfl ?_
  refine w_iload_n F 3 dL_pull_6 rfl rfl ?_
  rcases hw with ⟨v, rfl, rfl, rfl⟩ | ⟨j, E, hj, rfl, rfl, rfl⟩
  · refine w_cV (v := some (.int v)) (As := [.int p1, .int p2, .int p3]) (rest := [.int 0, .ref (gA G 23)]) F (c_X6_pull F.st F.gg p1 p2 p3 M _ h) dL_pull_7 ml_L_27 yv_X6_pull (rfl : kd 0 = 0) (by decide) rfl rfl ⟨by decide, by decide⟩ ⟨by decide, by decide⟩ rfl (Nat.le_of_ble_eq_true rfl) ?_
    refine w_i2l F dL_pull_10 ?_
    refine w_last F dL_pull_11 (rfl : kd 23 = 12) (by decide) ?_
    refine w_goto (tgt := 23) F dL_pull_12 (by decide) ?_
    refine w_iconst F dL_pull_23 (v := nI 0) (by decide) ?_
    exact w_wide (u2 := 1) (w2 := 6) (by decide) (by decide) (w_iret F dL_pull_24 rfl)
  · rcases j with _ | _ | j
    · cases hj
      refine w_cVx (pre := []) (x := ⟨0, 12, 15, 21⟩) (suf := [⟨0, 12, 19, 15⟩]) (tgt := 15) (As := [.int p1, .int p2, .int p3]) (rest := [.int 0, .ref (gA G 23)]) F (c_X6_pull F.st F.gg p1 p2 p3 M _ h) dL_pull_7 ml_L_27 yv_X6_pull (rfl : kd 0 = 0) (by decide) rfl rfl ⟨by decide, by decide⟩ ⟨by decide, by decide⟩ rfl (Nat.le_of_ble_eq_true rfl) (by rw [ht]; rfl) (fun z hz => by cases hz) (by decide) (by decide) cl_L_21 cs_exI rfl (fun q => ?_)
      refine w_astore (ls' := [(5, .ref q), (0, .ref (gA G 0)), (1, .int p1), (2, .int p2), (3, .int p3), (4, .ref (gA G 23))]) F dL_pull_15 (by decide) rfl ?_
      refine w_iconst F dL_pull_17 (v := nI (0 + 1)) (by decide) ?_
      exact w_iret F dL_pull_18 rfl
    · cases hj
      refine w_cVx (pre := [⟨0, 12, 15, 21⟩]) (x := ⟨0, 12, 19, 15⟩) (suf := []) (tgt := 19) (As := [.int p1, .int p2, .int p3]) (rest := [.int 0, .ref (gA G 23)]) F (c_X6_pull F.st F.gg p1 p2 p3 M _ h) dL_pull_7 ml_L_27 yv_X6_pull (rfl : kd 0 = 0) (by decide) rfl rfl ⟨by decide, by decide⟩ ⟨by decide, by decide⟩ rfl (Nat.le_of_ble_eq_true rfl) (by rw [ht]; rfl) (fun z hz => by
          rcases List.mem_cons.mp hz with rfl | hz
          · exact ⟨by decide, exI, cl_L_21, by decide⟩
          cases hz) (by decide) (by decide) cl_L_15 cs_exS rfl (fun q => ?_)
      refine w_astore (ls' := [(5, .ref q), (0, .ref (gA G 0)), (1, .int p1), (2, .int p2), (3, .int p3), (4, .ref (gA G 23))]) F dL_pull_19 (by decide) rfl ?_
      refine w_iconst F dL_pull_21 (v := nI (1 + 1)) (by decide) ?_
      exact w_iret F dL_pull_22 rfl
    · cases hj
theorem cw_L_move : Cond.codeWith yL_move cL_move 7 (some .int) [(0, 14, 17, 21), (0, 14, 21, 13), (0, 14, 25, 15)] ∈ wsA := inA (tb3 (k := 198) (by rfl)) (by decide +kernel)
set_option maxRecDepth 100000 in
set_option maxHeartbeats 4000000 in
theorem m_L_move {l : Launch} {G : GM} (hl : l.stackTraces = false) (hG : GG G) (p1 : Int32) (p2 : Int32) (p3 : Int32) (p4 : Int32) {r : Int32 ⊕ String} {M M1 M2 : Mem} {c9 : Int32} (h : f_X6_move p1 p2 p3 p4 M = some (r, M1)) (hw : wO [exI, exA, exS] r M1 c9 M2) : Met l yL_move (.codeWith yL_move cL_move 7 (some .int) [(0, 14, 17, 21), (0, 14, 21, 13), (0, 14, 25, 15)] :: wsA) rmW (PcG G [.ref (gA G 0), .int p1, .int p2, .int p3, .int p4, .ref (gA G 23)] M) (QcR G (some (.int c9)) M2) 1 6 (A0 G) := by
  refine met_W (by decide) hl hG (Nat.le_of_ble_eq_true rfl) (fun p e s m args below meth c F ht => ?_)
  refine w_aload F 5 dL_move_0 rfl ?_
  refine w_iconst F dL_move_2 (v := 0) (by decide) ?_
  refine w_aload_n F 0 dL_move_3 rfl rfl ?_
  refine w_iload_n F 1 dL_move_4 rfl rfl ?_
  refine w_iload_n F 2 dL_move_5 rfl rfl ?_
  refine w_iload_n F 3 dL_move_6 rfl rfl ?_
  refine w_iload F 4 dL_move_7 rfl ?_
  rcases hw with ⟨v, rfl, rfl, rfl⟩ | ⟨j, E, hj, rfl, rfl, rfl⟩
  · refine w_cV (v := some (.int v)) (As := [.int p1, .int p2, .int p3, .int p4]) (rest := [.int 0, .ref (gA G 23)]) F (c_X6_move F.st F.gg p1 p2 p3 p4 M _ h) dL_move_9 ml_L_30 yv_X6_move (rfl : kd 0 = 0) (by decide) rfl rfl ⟨by decide, by decide⟩ ⟨by decide, by decide⟩ rfl (Nat.le_of_ble_eq_true rfl) ?_
    refine w_i2l F dL_move_12 ?_
    refine w_last F dL_move_13 (rfl : kd 23 = 12) (by decide) ?_
    refine w_goto (tgt := 29) F dL_move_14 (by decide) ?_
    refine w_iconst F dL_move_29 (v := nI 0) (by decide) ?_
    exact w_wide (u2 := 1) (w2 := 6) (by decide) (by decide) (w_iret F dL_move_30 rfl)
  · rcases j with _ | _ | _ | j
    · cases hj
      refine w_cVx (pre := []) (x := ⟨0, 14, 17, 21⟩) (suf := [⟨0, 14, 21, 13⟩, ⟨0, 14, 25, 15⟩]) (tgt := 17) (As := [.int p1, .int p2, .int p3, .int p4]) (rest := [.int 0, .ref (gA G 23)]) F (c_X6_move F.st F.gg p1 p2 p3 p4 M _ h) dL_move_9 ml_L_30 yv_X6_move (rfl : kd 0 = 0) (by decide) rfl rfl ⟨by decide, by decide⟩ ⟨by decide, by decide⟩ rfl (Nat.le_of_ble_eq_true rfl) (by rw [ht]; rfl) (fun z hz => by cases hz) (by decide) (by decide) cl_L_21 cs_exI rfl (fun q => ?_)
      refine w_astore (ls' := [(6, .ref q), (0, .ref (gA G 0)), (1, .int p1), (2, .int p2), (3, .int p3), (4, .int p4), (5, .ref (gA G 23))]) F dL_move_17 (by decide) rfl ?_
      refine w_iconst F dL_move_19 (v := nI (0 + 1)) (by decide) ?_
      exact w_iret F dL_move_20 rfl
    · cases hj
      refine w_cVx (pre := [⟨0, 14, 17, 21⟩]) (x := ⟨0, 14, 21, 13⟩) (suf := [⟨0, 14, 25, 15⟩]) (tgt := 21) (As := [.int p1, .int p2, .int p3, .int p4]) (rest := [.int 0, .ref (gA G 23)]) F (c_X6_move F.st F.gg p1 p2 p3 p4 M _ h) dL_move_9 ml_L_30 yv_X6_move (rfl : kd 0 = 0) (by decide) rfl rfl ⟨by decide, by decide⟩ ⟨by decide, by decide⟩ rfl (Nat.le_of_ble_eq_true rfl) (by rw [ht]; rfl) (fun z hz => by
          rcases List.mem_cons.mp hz with rfl | hz
          · exact ⟨by decide, exI, cl_L_21, by decide⟩
          cases hz) (by decide) (by decide) cl_L_13 cs_exA rfl (fun q => ?_)
      refine w_astore (ls' := [(6, .ref q), (0, .ref (gA G 0)), (1, .int p1), (2, .int p2), (3, .int p3), (4, .int p4), (5, .ref (gA G 23))]) F dL_move_21 (by decide) rfl ?_
      refine w_iconst F dL_move_23 (v := nI (1 + 1)) (by decide) ?_
      exact w_iret F dL_move_24 rfl
    · cases hj
      refine w_cVx (pre := [⟨0, 14, 17, 21⟩, ⟨0, 14, 21, 13⟩]) (x := ⟨0, 14, 25, 15⟩) (suf := []) (tgt := 25) (As := [.int p1, .int p2, .int p3, .int p4]) (rest := [.int 0, .ref (gA G 23)]) F (c_X6_move F.st F.gg p1 p2 p3 p4 M _ h) dL_move_9 ml_L_30 yv_X6_move (rfl : kd 0 = 0) (by decide) rfl rfl ⟨by decide, by decide⟩ ⟨by decide, by decide⟩ rfl (Nat.le_of_ble_eq_true rfl) (by rw [ht]; rfl) (fun z hz => by
          rcases List.mem_cons.mp hz with rfl | hz
          · exact ⟨by decide, exI, cl_L_21, by decide⟩
          rcases List.mem_cons.mp hz with rfl | hz
          · exact ⟨by decide, exA, cl_L_13, by decide⟩
          cases hz) (by decide) (by decide) cl_L_15 cs_exS rfl (fun q => ?_)
      refine w_astore (ls' := [(6, .ref q), (0, .ref (gA G 0)), (1, .int p1), (2, .int p2), (3, .int p3), (4, .int p4), (5, .ref (gA G 23))]) F dL_move_25 (by decide) rfl ?_
      refine w_iconst F dL_move_27 (v := nI (2 + 1)) (by decide) ?_
      exact w_iret F dL_move_28 rfl
    · cases hj
theorem cw_L_trade : Cond.codeWith yL_trade cL_trade 5 (some .int) [(0, 10, 13, 21), (0, 10, 17, 13)] ∈ wsA := inA (tb3 (k := 210) (by rfl)) (by decide +kernel)
set_option maxRecDepth 100000 in
set_option maxHeartbeats 4000000 in
theorem m_L_trade {l : Launch} {G : GM} (hl : l.stackTraces = false) (hG : GG G) (p1 : Int32) (p2 : Int32) {r : Int32 ⊕ String} {M M1 M2 : Mem} {c9 : Int32} (h : f_X6_trade p1 p2 M = some (r, M1)) (hw : wO [exI, exA] r M1 c9 M2) : Met l yL_trade (.codeWith yL_trade cL_trade 5 (some .int) [(0, 10, 13, 21), (0, 10, 17, 13)] :: wsA) rmW (PcG G [.ref (gA G 0), .int p1, .int p2, .ref (gA G 23)] M) (QcR G (some (.int c9)) M2) 1 6 (A0 G) := by
  refine met_W (by decide) hl hG (Nat.le_of_ble_eq_true rfl) (fun p e s m args below meth c F ht => ?_)
  refine w_aload_n F 3 dL_trade_0 rfl rfl ?_
  refine w_iconst F dL_trade_1 (v := 0) (by decide) ?_
  refine w_aload_n F 0 dL_trade_2 rfl rfl ?_
  refine w_iload_n F 1 dL_trade_3 rfl rfl ?_
  refine w_iload_n F 2 dL_trade_4 rfl rfl ?_
  rcases hw with ⟨v, rfl, rfl, rfl⟩ | ⟨j, E, hj, rfl, rfl, rfl⟩
  · refine w_cV (v := some (.int v)) (As := [.int p1, .int p2]) (rest := [.int 0, .ref (gA G 23)]) F (c_X6_trade F.st F.gg p1 p2 M _ h) dL_trade_5 ml_L_34 yv_X6_trade (rfl : kd 0 = 0) (by decide) rfl rfl ⟨by decide, by decide⟩ ⟨by decide, by decide⟩ rfl (Nat.le_of_ble_eq_true rfl) ?_
    refine w_i2l F dL_trade_8 ?_
    refine w_last F dL_trade_9 (rfl : kd 23 = 12) (by decide) ?_
    refine w_goto (tgt := 21) F dL_trade_10 (by decide) ?_
    refine w_iconst F dL_trade_21 (v := nI 0) (by decide) ?_
    exact w_wide (u2 := 1) (w2 := 6) (by decide) (by decide) (w_iret F dL_trade_22 rfl)
  · rcases j with _ | _ | j
    · cases hj
      refine w_cVx (pre := []) (x := ⟨0, 10, 13, 21⟩) (suf := [⟨0, 10, 17, 13⟩]) (tgt := 13) (As := [.int p1, .int p2]) (rest := [.int 0, .ref (gA G 23)]) F (c_X6_trade F.st F.gg p1 p2 M _ h) dL_trade_5 ml_L_34 yv_X6_trade (rfl : kd 0 = 0) (by decide) rfl rfl ⟨by decide, by decide⟩ ⟨by decide, by decide⟩ rfl (Nat.le_of_ble_eq_true rfl) (by rw [ht]; rfl) (fun z hz => by cases hz) (by decide) (by decide) cl_L_21 cs_exI rfl (fun q => ?_)
      refine w_astore (ls' := [(4, .ref q), (0, .ref (gA G 0)), (1, .int p1), (2, .int p2), (3, .ref (gA G 23))]) F dL_trade_13 (by decide) rfl ?_
      refine w_iconst F dL_trade_15 (v := nI (0 + 1)) (by decide) ?_
      exact w_iret F dL_trade_16 rfl
    · cases hj
      refine w_cVx (pre := [⟨0, 10, 13, 21⟩]) (x := ⟨0, 10, 17, 13⟩) (suf := []) (tgt := 17) (As := [.int p1, .int p2]) (rest := [.int 0, .ref (gA G 23)]) F (c_X6_trade F.st F.gg p1 p2 M _ h) dL_trade_5 ml_L_34 yv_X6_trade (rfl : kd 0 = 0) (by decide) rfl rfl ⟨by decide, by decide⟩ ⟨by decide, by decide⟩ rfl (Nat.le_of_ble_eq_true rfl) (by rw [ht]; rfl) (fun z hz => by
          rcases List.mem_cons.mp hz with rfl | hz
          · exact ⟨by decide, exI, cl_L_21, by decide⟩
          cases hz) (by decide) (by decide) cl_L_13 cs_exA rfl (fun q => ?_)
      refine w_astore (ls' := [(4, .ref q), (0, .ref (gA G 0)), (1, .int p1), (2, .int p2), (3, .ref (gA G 23))]) F dL_trade_17 (by decide) rfl ?_
      refine w_iconst F dL_trade_19 (v := nI (1 + 1)) (by decide) ?_
      exact w_iret F dL_trade_20 rfl
    · cases hj
theorem cw_L_turn : Cond.codeWith yL_turn cL_turn 5 (some .int) [(0, 10, 13, 21), (0, 10, 17, 13)] ∈ wsA := inA (tb3 (k := 217) (by rfl)) (by decide +kernel)
set_option maxRecDepth 100000 in
set_option maxHeartbeats 4000000 in
theorem m_L_turn {l : Launch} {G : GM} (hl : l.stackTraces = false) (hG : GG G) (p1 : Int32) (p2 : Int32) {r : Int32 ⊕ String} {M M1 M2 : Mem} {c9 : Int32} (h : f_X6_turn p1 p2 M = some (r, M1)) (hw : wO [exI, exA] r M1 c9 M2) : Met l yL_turn (.codeWith yL_turn cL_turn 5 (some .int) [(0, 10, 13, 21), (0, 10, 17, 13)] :: wsA) rmW (PcG G [.ref (gA G 0), .int p1, .int p2, .ref (gA G 23)] M) (QcR G (some (.int c9)) M2) 1 6 (A0 G) := by
  refine met_W (by decide) hl hG (Nat.le_of_ble_eq_true rfl) (fun p e s m args below meth c F ht => ?_)
  refine w_aload_n F 3 dL_turn_0 rfl rfl ?_
  refine w_iconst F dL_turn_1 (v := 0) (by decide) ?_
  refine w_aload_n F 0 dL_turn_2 rfl rfl ?_
  refine w_iload_n F 1 dL_turn_3 rfl rfl ?_
  refine w_iload_n F 2 dL_turn_4 rfl rfl ?_
  rcases hw with ⟨v, rfl, rfl, rfl⟩ | ⟨j, E, hj, rfl, rfl, rfl⟩
  · refine w_cV (v := some (.int v)) (As := [.int p1, .int p2]) (rest := [.int 0, .ref (gA G 23)]) F (c_X6_turn F.st F.gg p1 p2 M _ h) dL_turn_5 ml_L_37 yv_X6_turn (rfl : kd 0 = 0) (by decide) rfl rfl ⟨by decide, by decide⟩ ⟨by decide, by decide⟩ rfl (Nat.le_of_ble_eq_true rfl) ?_
    refine w_i2l F dL_turn_8 ?_
    refine w_last F dL_turn_9 (rfl : kd 23 = 12) (by decide) ?_
    refine w_goto (tgt := 21) F dL_turn_10 (by decide) ?_
    refine w_iconst F dL_turn_21 (v := nI 0) (by decide) ?_
    exact w_wide (u2 := 1) (w2 := 6) (by decide) (by decide) (w_iret F dL_turn_22 rfl)
  · rcases j with _ | _ | j
    · cases hj
      refine w_cVx (pre := []) (x := ⟨0, 10, 13, 21⟩) (suf := [⟨0, 10, 17, 13⟩]) (tgt := 13) (As := [.int p1, .int p2]) (rest := [.int 0, .ref (gA G 23)]) F (c_X6_turn F.st F.gg p1 p2 M _ h) dL_turn_5 ml_L_37 yv_X6_turn (rfl : kd 0 = 0) (by decide) rfl rfl ⟨by decide, by decide⟩ ⟨by decide, by decide⟩ rfl (Nat.le_of_ble_eq_true rfl) (by rw [ht]; rfl) (fun z hz => by cases hz) (by decide) (by decide) cl_L_21 cs_exI rfl (fun q => ?_)
      refine w_astore (ls' := [(4, .ref q), (0, .ref (gA G 0)), (1, .int p1), (2, .int p2), (3, .ref (gA G 23))]) F dL_turn_13 (by decide) rfl ?_
      refine w_iconst F dL_turn_15 (v := nI (0 + 1)) (by decide) ?_
      exact w_iret F dL_turn_16 rfl
    · cases hj
      refine w_cVx (pre := [⟨0, 10, 13, 21⟩]) (x := ⟨0, 10, 17, 13⟩) (suf := []) (tgt := 17) (As := [.int p1, .int p2]) (rest := [.int 0, .ref (gA G 23)]) F (c_X6_turn F.st F.gg p1 p2 M _ h) dL_turn_5 ml_L_37 yv_X6_turn (rfl : kd 0 = 0) (by decide) rfl rfl ⟨by decide, by decide⟩ ⟨by decide, by decide⟩ rfl (Nat.le_of_ble_eq_true rfl) (by rw [ht]; rfl) (fun z hz => by
          rcases List.mem_cons.mp hz with rfl | hz
          · exact ⟨by decide, exI, cl_L_21, by decide⟩
          cases hz) (by decide) (by decide) cl_L_13 cs_exA rfl (fun q => ?_)
      refine w_astore (ls' := [(4, .ref q), (0, .ref (gA G 0)), (1, .int p1), (2, .int p2), (3, .ref (gA G 23))]) F dL_turn_17 (by decide) rfl ?_
      refine w_iconst F dL_turn_19 (v := nI (1 + 1)) (by decide) ?_
      exact w_iret F dL_turn_20 rfl
    · cases hj
theorem cw_L_file : Cond.codeWith yL_file cL_file 5 (some .int) [(0, 10, 13, 21)] ∈ wsA := inA (tb3 (k := 226) (by rfl)) (by decide +kernel)
set_option maxRecDepth 100000 in
set_option maxHeartbeats 4000000 in
theorem m_L_file {l : Launch} {G : GM} (hl : l.stackTraces = false) (hG : GG G) (p1 : Int32) (p2 : Int32) {r : Int32 ⊕ String} {M M1 M2 : Mem} {c9 : Int32} (h : f_X6_file p1 p2 M = some (r, M1)) (hw : wO [exI] r M1 c9 M2) : Met l yL_file (.codeWith yL_file cL_file 5 (some .int) [(0, 10, 13, 21)] :: wsA) rmW (PcG G [.ref (gA G 0), .int p1, .int p2, .ref (gA G 23)] M) (QcR G (some (.int c9)) M2) 1 6 (A0 G) := by
  refine met_W (by decide) hl hG (Nat.le_of_ble_eq_true rfl) (fun p e s m args below meth c F ht => ?_)
  refine w_aload_n F 3 dL_file_0 rfl rfl ?_
  refine w_iconst F dL_file_1 (v := 0) (by decide) ?_
  refine w_aload_n F 0 dL_file_2 rfl rfl ?_
  refine w_iload_n F 1 dL_file_3 rfl rfl ?_
  refine w_iload_n F 2 dL_file_4 rfl rfl ?_
  rcases hw with ⟨v, rfl, rfl, rfl⟩ | ⟨j, E, hj, rfl, rfl, rfl⟩
  · refine w_cV (v := some (.int v)) (As := [.int p1, .int p2]) (rest := [.int 0, .ref (gA G 23)]) F (c_X6_file F.st F.gg p1 p2 M _ h) dL_file_5 ml_L_40 yv_X6_file (rfl : kd 0 = 0) (by decide) rfl rfl ⟨by decide, by decide⟩ ⟨by decide, by decide⟩ rfl (Nat.le_of_ble_eq_true rfl) ?_
    refine w_i2l F dL_file_8 ?_
    refine w_last F dL_file_9 (rfl : kd 23 = 12) (by decide) ?_
    refine w_goto (tgt := 17) F dL_file_10 (by decide) ?_
    refine w_iconst F dL_file_17 (v := nI 0) (by decide) ?_
    exact w_wide (u2 := 1) (w2 := 6) (by decide) (by decide) (w_iret F dL_file_18 rfl)
  · rcases j with _ | j
    · cases hj
      refine w_cVx (pre := []) (x := ⟨0, 10, 13, 21⟩) (suf := []) (tgt := 13) (As := [.int p1, .int p2]) (rest := [.int 0, .ref (gA G 23)]) F (c_X6_file F.st F.gg p1 p2 M _ h) dL_file_5 ml_L_40 yv_X6_file (rfl : kd 0 = 0) (by decide) rfl rfl ⟨by decide, by decide⟩ ⟨by decide, by decide⟩ rfl (Nat.le_of_ble_eq_true rfl) (by rw [ht]; rfl) (fun z hz => by cases hz) (by decide) (by decide) cl_L_21 cs_exI rfl (fun q => ?_)
      refine w_astore (ls' := [(4, .ref q), (0, .ref (gA G 0)), (1, .int p1), (2, .int p2), (3, .ref (gA G 23))]) F dL_file_13 (by decide) rfl ?_
      refine w_iconst F dL_file_15 (v := nI (0 + 1)) (by decide) ?_
      exact w_iret F dL_file_16 rfl
    · cases hj
theorem cw_L_play : Cond.codeWith yL_play cL_play 4 (some .int) [(0, 9, 12, 21)] ∈ wsA := inA (tb3 (k := 233) (by rfl)) (by decide +kernel)
set_option maxRecDepth 100000 in
set_option maxHeartbeats 4000000 in
theorem m_L_play {l : Launch} {G : GM} (hl : l.stackTraces = false) (hG : GG G) (p1 : Int32) {r : Int32 ⊕ String} {M M1 M2 : Mem} {c9 : Int32} (h : f_X6_play p1 M = some (r, M1)) (hw : wO [exI] r M1 c9 M2) : Met l yL_play (.codeWith yL_play cL_play 4 (some .int) [(0, 9, 12, 21)] :: wsA) rmW (PcG G [.ref (gA G 0), .int p1, .ref (gA G 23)] M) (QcR G (some (.int c9)) M2) 1 6 (A0 G) := by
  refine met_W (by decide) hl hG (Nat.le_of_ble_eq_true rfl) (fun p e s m args below meth c F ht => ?_)
  refine w_aload_n F 2 dL_play_0 rfl rfl ?_
  refine w_iconst F dL_play_1 (v := 0) (by decide) ?_
  refine w_aload_n F 0 dL_play_2 rfl rfl ?_
  refine w_iload_n F 1 dL_play_3 rfl rfl ?_
  rcases hw with ⟨v, rfl, rfl, rfl⟩ | ⟨j, E, hj, rfl, rfl, rfl⟩
  · refine w_cV (v := some (.int v)) (As := [.int p1]) (rest := [.int 0, .ref (gA G 23)]) F (c_X6_play F.st F.gg p1 M _ h) dL_play_4 ml_L_43 yv_X6_play (rfl : kd 0 = 0) (by decide) rfl rfl ⟨by decide, by decide⟩ ⟨by decide, by decide⟩ rfl (Nat.le_of_ble_eq_true rfl) ?_
    refine w_i2l F dL_play_7 ?_
    refine w_last F dL_play_8 (rfl : kd 23 = 12) (by decide) ?_
    refine w_goto (tgt := 15) F dL_play_9 (by decide) ?_
    refine w_iconst F dL_play_15 (v := nI 0) (by decide) ?_
    exact w_wide (u2 := 1) (w2 := 6) (by decide) (by decide) (w_iret F dL_play_16 rfl)
  · rcases j with _ | j
    · cases hj
      refine w_cVx (pre := []) (x := ⟨0, 9, 12, 21⟩) (suf := []) (tgt := 12) (As := [.int p1]) (rest := [.int 0, .ref (gA G 23)]) F (c_X6_play F.st F.gg p1 M _ h) dL_play_4 ml_L_43 yv_X6_play (rfl : kd 0 = 0) (by decide) rfl rfl ⟨by decide, by decide⟩ ⟨by decide, by decide⟩ rfl (Nat.le_of_ble_eq_true rfl) (by rw [ht]; rfl) (fun z hz => by cases hz) (by decide) (by decide) cl_L_21 cs_exI rfl (fun q => ?_)
      refine w_astore_n (ls' := [(3, .ref q), (0, .ref (gA G 0)), (1, .int p1), (2, .ref (gA G 23))]) F dL_play_12 rfl (by decide) rfl ?_
      refine w_iconst F dL_play_13 (v := nI (0 + 1)) (by decide) ?_
      exact w_iret F dL_play_14 rfl
    · cases hj
theorem cw_L_lend : Cond.codeWith yL_lend cL_lend 6 (some .int) [(0, 12, 15, 21), (0, 12, 19, 13), (0, 12, 23, 15)] ∈ wsA := inA (tb4 (k := 4) (by rfl)) (by decide +kernel)
set_option maxRecDepth 100000 in
set_option maxHeartbeats 4000000 in
theorem m_L_lend {l : Launch} {G : GM} (hl : l.stackTraces = false) (hG : GG G) (p1 : Int32) (p2 : Int32) (p3 : Int32) {r : Int32 ⊕ String} {M M1 M2 : Mem} {c9 : Int32} (h : f_X6_lend p1 p2 p3 M = some (r, M1)) (hw : wO [exI, exA, exS] r M1 c9 M2) : Met l yL_lend (.codeWith yL_lend cL_lend 6 (some .int) [(0, 12, 15, 21), (0, 12, 19, 13), (0, 12, 23, 15)] :: wsA) rmW (PcG G [.ref (gA G 0), .int p1, .int p2, .int p3, .ref (gA G 23)] M) (QcR G (some (.int c9)) M2) 1 6 (A0 G) := by
  refine met_W (by decide) hl hG (Nat.le_of_ble_eq_true rfl) (fun p e s m args below meth c F ht => ?_)
  refine w_aload F 4 dL_lend_0 rfl ?_
  refine w_iconst F dL_lend_2 (v := 0) (by decide) ?_
  refine w_aload_n F 0 dL_lend_3 rfl rfl ?_
  refine w_iload_n F 1 dL_lend_4 rfl rfl ?_
  refine w_iload_n F 2 dL_lend_5 rfl rfl ?_
  refine w_iload_n F 3 dL_lend_6 rfl rfl ?_
  rcases hw with ⟨v, rfl, rfl, rfl⟩ | ⟨j, E, hj, rfl, rfl, rfl⟩
  · refine w_cV (v := some (.int v)) (As := [.int p1, .int p2, .int p3]) (rest := [.int 0, .ref (gA G 23)]) F (c_X6_lend F.st F.gg p1 p2 p3 M _ h) dL_lend_7 ml_L_46 yv_X6_lend (rfl : kd 0 = 0) (by decide) rfl rfl ⟨by decide, by decide⟩ ⟨by decide, by decide⟩ rfl (Nat.le_of_ble_eq_true rfl) ?_
    refine w_i2l F dL_lend_10 ?_
    refine w_last F dL_lend_11 (rfl : kd 23 = 12) (by decide) ?_
    refine w_goto (tgt := 27) F dL_lend_12 (by decide) ?_
    refine w_iconst F dL_lend_27 (v := nI 0) (by decide) ?_
    exact w_wide (u2 := 1) (w2 := 6) (by decide) (by decide) (w_iret F dL_lend_28 rfl)
  · rcases j with _ | _ | _ | j
    · cases hj
      refine w_cVx (pre := []) (x := ⟨0, 12, 15, 21⟩) (suf := [⟨0, 12, 19, 13⟩, ⟨0, 12, 23, 15⟩]) (tgt := 15) (As := [.int p1, .int p2, .int p3]) (rest := [.int 0, .ref (gA G 23)]) F (c_X6_lend F.st F.gg p1 p2 p3 M _ h) dL_lend_7 ml_L_46 yv_X6_lend (rfl : kd 0 = 0) (by decide) rfl rfl ⟨by decide, by decide⟩ ⟨by decide, by decide⟩ rfl (Nat.le_of_ble_eq_true rfl) (by rw [ht]; rfl) (fun z hz => by cases hz) (by decide) (by decide) cl_L_21 cs_exI rfl (fun q => ?_)
      refine w_astore (ls' := [(5, .ref q), (0, .ref (gA G 0)), (1, .int p1), (2, .int p2), (3, .int p3), (4, .ref (gA G 23))]) F dL_lend_15 (by decide) rfl ?_
      refine w_iconst F dL_lend_17 (v := nI (0 + 1)) (by decide) ?_
      exact w_iret F dL_lend_18 rfl
    · cases hj
      refine w_cVx (pre := [⟨0, 12, 15, 21⟩]) (x := ⟨0, 12, 19, 13⟩) (suf := [⟨0, 12, 23, 15⟩]) (tgt := 19) (As := [.int p1, .int p2, .int p3]) (rest := [.int 0, .ref (gA G 23)]) F (c_X6_lend F.st F.gg p1 p2 p3 M _ h) dL_lend_7 ml_L_46 yv_X6_lend (rfl : kd 0 = 0) (by decide) rfl rfl ⟨by decide, by decide⟩ ⟨by decide, by decide⟩ rfl (Nat.le_of_ble_eq_true rfl) (by rw [ht]; rfl) (fun z hz => by
          rcases List.mem_cons.mp hz with rfl | hz
          · exact ⟨by decide, exI, cl_L_21, by decide⟩
          cases hz) (by decide) (by decide) cl_L_13 cs_exA rfl (fun q => ?_)
      refine w_astore (ls' := [(5, .ref q), (0, .ref (gA G 0)), (1, .int p1), (2, .int p2), (3, .int p3), (4, .ref (gA G 23))]) F dL_lend_19 (by decide) rfl ?_
      refine w_iconst F dL_lend_21 (v := nI (1 + 1)) (by decide) ?_
      exact w_iret F dL_lend_22 rfl
    · cases hj
      refine w_cVx (pre := [⟨0, 12, 15, 21⟩, ⟨0, 12, 19, 13⟩]) (x := ⟨0, 12, 23, 15⟩) (suf := []) (tgt := 23) (As := [.int p1, .int p2, .int p3]) (rest := [.int 0, .ref (gA G 23)]) F (c_X6_lend F.st F.gg p1 p2 p3 M _ h) dL_lend_7 ml_L_46 yv_X6_lend (rfl : kd 0 = 0) (by decide) rfl rfl ⟨by decide, by decide⟩ ⟨by decide, by decide⟩ rfl (Nat.le_of_ble_eq_true rfl) (by rw [ht]; rfl) (fun z hz => by
          rcases List.mem_cons.mp hz with rfl | hz
          · exact ⟨by decide, exI, cl_L_21, by decide⟩
          rcases List.mem_cons.mp hz with rfl | hz
          · exact ⟨by decide, exA, cl_L_13, by decide⟩
          cases hz) (by decide) (by decide) cl_L_15 cs_exS rfl (fun q => ?_)
      refine w_astore (ls' := [(5, .ref q), (0, .ref (gA G 0)), (1, .int p1), (2, .int p2), (3, .int p3), (4, .ref (gA G 23))]) F dL_lend_23 (by decide) rfl ?_
      refine w_iconst F dL_lend_25 (v := nI (2 + 1)) (by decide) ?_
      exact w_iret F dL_lend_26 rfl
    · cases hj
theorem cw_L_repay : Cond.codeWith yL_repay cL_repay 6 (some .int) [(0, 12, 15, 21), (0, 12, 19, 13), (0, 12, 23, 15)] ∈ wsA := inA (tb4 (k := 24) (by rfl)) (by decide +kernel)
set_option maxRecDepth 100000 in
set_option maxHeartbeats 4000000 in
theorem m_L_repay {l : Launch} {G : GM} (hl : l.stackTraces = false) (hG : GG G) (p1 : Int32) (p2 : Int32) (p3 : Int32) {r : Int32 ⊕ String} {M M1 M2 : Mem} {c9 : Int32} (h : f_X6_repay p1 p2 p3 M = some (r, M1)) (hw : wO [exI, exA, exS] r M1 c9 M2) : Met l yL_repay (.codeWith yL_repay cL_repay 6 (some .int) [(0, 12, 15, 21), (0, 12, 19, 13), (0, 12, 23, 15)] :: wsA) rmW (PcG G [.ref (gA G 0), .int p1, .int p2, .int p3, .ref (gA G 23)] M) (QcR G (some (.int c9)) M2) 1 6 (A0 G) := by
  refine met_W (by decide) hl hG (Nat.le_of_ble_eq_true rfl) (fun p e s m args below meth c F ht => ?_)
  refine w_aload F 4 dL_repay_0 rfl ?_
  refine w_iconst F dL_repay_2 (v := 0) (by decide) ?_
  refine w_aload_n F 0 dL_repay_3 rfl rfl ?_
  refine w_iload_n F 1 dL_repay_4 rfl rfl ?_
  refine w_iload_n F 2 dL_repay_5 rfl rfl ?_
  refine w_iload_n F 3 dL_repay_6 rfl rfl ?_
  rcases hw with ⟨v, rfl, rfl, rfl⟩ | ⟨j, E, hj, rfl, rfl, rfl⟩
  · refine w_cV (v := some (.int v)) (As := [.int p1, .int p2, .int p3]) (rest := [.int 0, .ref (gA G 23)]) F (c_X6_repay F.st F.gg p1 p2 p3 M _ h) dL_repay_7 ml_L_49 yv_X6_repay (rfl : kd 0 = 0) (by decide) rfl rfl ⟨by decide, by decide⟩ ⟨by decide, by decide⟩ rfl (Nat.le_of_ble_eq_true rfl) ?_
    refine w_i2l F dL_repay_10 ?_
    refine w_last F dL_repay_11 (rfl : kd 23 = 12) (by decide) ?_
    refine w_goto (tgt := 27) F dL_repay_12 (by decide) ?_
    refine w_iconst F dL_repay_27 (v := nI 0) (by decide) ?_
    exact w_wide (u2 := 1) (w2 := 6) (by decide) (by decide) (w_iret F dL_repay_28 rfl)
  · rcases j with _ | _ | _ | j
    · cases hj
      refine w_cVx (pre := []) (x := ⟨0, 12, 15, 21⟩) (suf := [⟨0, 12, 19, 13⟩, ⟨0, 12, 23, 15⟩]) (tgt := 15) (As := [.int p1, .int p2, .int p3]) (rest := [.int 0, .ref (gA G 23)]) F (c_X6_repay F.st F.gg p1 p2 p3 M _ h) dL_repay_7 ml_L_49 yv_X6_repay (rfl : kd 0 = 0) (by decide) rfl rfl ⟨by decide, by decide⟩ ⟨by decide, by decide⟩ rfl (Nat.le_of_ble_eq_true rfl) (by rw [ht]; rfl) (fun z hz => by cases hz) (by decide) (by decide) cl_L_21 cs_exI rfl (fun q => ?_)
      refine w_astore (ls' := [(5, .ref q), (0, .ref (gA G 0)), (1, .int p1), (2, .int p2), (3, .int p3), (4, .ref (gA G 23))]) F dL_repay_15 (by decide) rfl ?_
      refine w_iconst F dL_repay_17 (v := nI (0 + 1)) (by decide) ?_
      exact w_iret F dL_repay_18 rfl
    · cases hj
      refine w_cVx (pre := [⟨0, 12, 15, 21⟩]) (x := ⟨0, 12, 19, 13⟩) (suf := [⟨0, 12, 23, 15⟩]) (tgt := 19) (As := [.int p1, .int p2, .int p3]) (rest := [.int 0, .ref (gA G 23)]) F (c_X6_repay F.st F.gg p1 p2 p3 M _ h) dL_repay_7 ml_L_49 yv_X6_repay (rfl : kd 0 = 0) (by decide) rfl rfl ⟨by decide, by decide⟩ ⟨by decide, by decide⟩ rfl (Nat.le_of_ble_eq_true rfl) (by rw [ht]; rfl) (fun z hz => by
          rcases List.mem_cons.mp hz with rfl | hz
          · exact ⟨by decide, exI, cl_L_21, by decide⟩
          cases hz) (by decide) (by decide) cl_L_13 cs_exA rfl (fun q => ?_)
      refine w_astore (ls' := [(5, .ref q), (0, .ref (gA G 0)), (1, .int p1), (2, .int p2), (3, .int p3), (4, .ref (gA G 23))]) F dL_repay_19 (by decide) rfl ?_
      refine w_iconst F dL_repay_21 (v := nI (1 + 1)) (by decide) ?_
      exact w_iret F dL_repay_22 rfl
    · cases hj
      refine w_cVx (pre := [⟨0, 12, 15, 21⟩, ⟨0, 12, 19, 13⟩]) (x := ⟨0, 12, 23, 15⟩) (suf := []) (tgt := 23) (As := [.int p1, .int p2, .int p3]) (rest := [.int 0, .ref (gA G 23)]) F (c_X6_repay F.st F.gg p1 p2 p3 M _ h) dL_repay_7 ml_L_49 yv_X6_repay (rfl : kd 0 = 0) (by decide) rfl rfl ⟨by decide, by decide⟩ ⟨by decide, by decide⟩ rfl (Nat.le_of_ble_eq_true rfl) (by rw [ht]; rfl) (fun z hz => by
          rcases List.mem_cons.mp hz with rfl | hz
          · exact ⟨by decide, exI, cl_L_21, by decide⟩
          rcases List.mem_cons.mp hz with rfl | hz
          · exact ⟨by decide, exA, cl_L_13, by decide⟩
          cases hz) (by decide) (by decide) cl_L_15 cs_exS rfl (fun q => ?_)
      refine w_astore (ls' := [(5, .ref q), (0, .ref (gA G 0)), (1, .int p1), (2, .int p2), (3, .int p3), (4, .ref (gA G 23))]) F dL_repay_23 (by decide) rfl ?_
      refine w_iconst F dL_repay_25 (v := nI (2 + 1)) (by decide) ?_
      exact w_iret F dL_repay_26 rfl
    · cases hj
theorem cw_L_append : Cond.codeWith yL_append cL_append 4 (some .int) [(0, 9, 12, 13), (0, 9, 15, 15)] ∈ wsA := inA (tb4 (k := 32) (by rfl)) (by decide +kernel)
set_option maxRecDepth 100000 in
set_option maxHeartbeats 4000000 in
theorem m_L_append {l : Launch} {G : GM} (hl : l.stackTraces = false) (hG : GG G) (p1 : Int32) {r : Int32 ⊕ String} {M M1 M2 : Mem} {c9 : Int32} (h : f_X6_append p1 M = some (r, M1)) (hw : wO [exA, exS] r M1 c9 M2) : Met l yL_append (.codeWith yL_append cL_append 4 (some .int) [(0, 9, 12, 13), (0, 9, 15, 15)] :: wsA) rmW (PcG G [.ref (gA G 0), .int p1, .ref (gA G 23)] M) (QcR G (some (.int c9)) M2) 1 6 (A0 G) := by
  refine met_W (by decide) hl hG (Nat.le_of_ble_eq_true rfl) (fun p e s m args below meth c F ht => ?_)
  refine w_aload_n F 2 dL_append_0 rfl rfl ?_
  refine w_iconst F dL_append_1 (v := 0) (by decide) ?_
  refine w_aload_n F 0 dL_append_2 rfl rfl ?_
  refine w_iload_n F 1 dL_append_3 rfl rfl ?_
  rcases hw with ⟨v, rfl, rfl, rfl⟩ | ⟨j, E, hj, rfl, rfl, rfl⟩
  · refine w_cV (v := some (.int v)) (As := [.int p1]) (rest := [.int 0, .ref (gA G 23)]) F (c_X6_append F.st F.gg p1 M _ h) dL_append_4 ml_L_52 yv_X6_append (rfl : kd 0 = 0) (by decide) rfl rfl ⟨by decide, by decide⟩ ⟨by decide, by decide⟩ rfl (Nat.le_of_ble_eq_true rfl) ?_
    refine w_i2l F dL_append_7 ?_
    refine w_last F dL_append_8 (rfl : kd 23 = 12) (by decide) ?_
    refine w_goto (tgt := 18) F dL_append_9 (by decide) ?_
    refine w_iconst F dL_append_18 (v := nI 0) (by decide) ?_
    exact w_wide (u2 := 1) (w2 := 6) (by decide) (by decide) (w_iret F dL_append_19 rfl)
  · rcases j with _ | _ | j
    · cases hj
      refine w_cVx (pre := []) (x := ⟨0, 9, 12, 13⟩) (suf := [⟨0, 9, 15, 15⟩]) (tgt := 12) (As := [.int p1]) (rest := [.int 0, .ref (gA G 23)]) F (c_X6_append F.st F.gg p1 M _ h) dL_append_4 ml_L_52 yv_X6_append (rfl : kd 0 = 0) (by decide) rfl rfl ⟨by decide, by decide⟩ ⟨by decide, by decide⟩ rfl (Nat.le_of_ble_eq_true rfl) (by rw [ht]; rfl) (fun z hz => by cases hz) (by decide) (by decide) cl_L_13 cs_exA rfl (fun q => ?_)
      refine w_astore_n (ls' := [(3, .ref q), (0, .ref (gA G 0)), (1, .int p1), (2, .ref (gA G 23))]) F dL_append_12 rfl (by decide) rfl ?_
      refine w_iconst F dL_append_13 (v := nI (0 + 1)) (by decide) ?_
      exact w_iret F dL_append_14 rfl
    · cases hj
      refine w_cVx (pre := [⟨0, 9, 12, 13⟩]) (x := ⟨0, 9, 15, 15⟩) (suf := []) (tgt := 15) (As := [.int p1]) (rest := [.int 0, .ref (gA G 23)]) F (c_X6_append F.st F.gg p1 M _ h) dL_append_4 ml_L_52 yv_X6_append (rfl : kd 0 = 0) (by decide) rfl rfl ⟨by decide, by decide⟩ ⟨by decide, by decide⟩ rfl (Nat.le_of_ble_eq_true rfl) (by rw [ht]; rfl) (fun z hz => by
          rcases List.mem_cons.mp hz with rfl | hz
          · exact ⟨by decide, exA, cl_L_13, by decide⟩
          cases hz) (by decide) (by decide) cl_L_15 cs_exS rfl (fun q => ?_)
      refine w_astore_n (ls' := [(3, .ref q), (0, .ref (gA G 0)), (1, .int p1), (2, .ref (gA G 23))]) F dL_append_15 rfl (by decide) rfl ?_
      refine w_iconst F dL_append_16 (v := nI (1 + 1)) (by decide) ?_
      exact w_iret F dL_append_17 rfl
    · cases hj
theorem cw_L_learn : Cond.codeWith yL_learn cL_learn 4 (some .int) [(0, 9, 12, 21), (0, 9, 15, 13)] ∈ wsA := inA (tb4 (k := 41) (by rfl)) (by decide +kernel)
set_option maxRecDepth 100000 in
set_option maxHeartbeats 4000000 in
theorem m_L_learn {l : Launch} {G : GM} (hl : l.stackTraces = false) (hG : GG G) (p1 : Int32) {r : Int32 ⊕ String} {M M1 M2 : Mem} {c9 : Int32} (h : f_X6_learn p1 M = some (r, M1)) (hw : wO [exI, exA] r M1 c9 M2) : Met l yL_learn (.codeWith yL_learn cL_learn 4 (some .int) [(0, 9, 12, 21), (0, 9, 15, 13)] :: wsA) rmW (PcG G [.ref (gA G 0), .int p1, .ref (gA G 23)] M) (QcR G (some (.int c9)) M2) 1 6 (A0 G) := by
  refine met_W (by decide) hl hG (Nat.le_of_ble_eq_true rfl) (fun p e s m args below meth c F ht => ?_)
  refine w_aload_n F 2 dL_learn_0 rfl rfl ?_
  refine w_iconst F dL_learn_1 (v := 0) (by decide) ?_
  refine w_aload_n F 0 dL_learn_2 rfl rfl ?_
  refine w_iload_n F 1 dL_learn_3 rfl rfl ?_
  rcases hw with ⟨v, rfl, rfl, rfl⟩ | ⟨j, E, hj, rfl, rfl, rfl⟩
  · refine w_cV (v := some (.int v)) (As := [.int p1]) (rest := [.int 0, .ref (gA G 23)]) F (c_X6_learn F.st F.gg p1 M _ h) dL_learn_4 ml_L_55 yv_X6_learn (rfl : kd 0 = 0) (by decide) rfl rfl ⟨by decide, by decide⟩ ⟨by decide, by decide⟩ rfl (Nat.le_of_ble_eq_true rfl) ?_
    refine w_i2l F dL_learn_7 ?_
    refine w_last F dL_learn_8 (rfl : kd 23 = 12) (by decide) ?_
    refine w_goto (tgt := 18) F dL_learn_9 (by decide) ?_
    refine w_iconst F dL_learn_18 (v := nI 0) (by decide) ?_
    exact w_wide (u2 := 1) (w2 := 6) (by decide) (by decide) (w_iret F dL_learn_19 rfl)
  · rcases j with _ | _ | j
    · cases hj
      refine w_cVx (pre := []) (x := ⟨0, 9, 12, 21⟩) (suf := [⟨0, 9, 15, 13⟩]) (tgt := 12) (As := [.int p1]) (rest := [.int 0, .ref (gA G 23)]) F (c_X6_learn F.st F.gg p1 M _ h) dL_learn_4 ml_L_55 yv_X6_learn (rfl : kd 0 = 0) (by decide) rfl rfl ⟨by decide, by decide⟩ ⟨by decide, by decide⟩ rfl (Nat.le_of_ble_eq_true rfl) (by rw [ht]; rfl) (fun z hz => by cases hz) (by decide) (by decide) cl_L_21 cs_exI rfl (fun q => ?_)
      refine w_astore_n (ls' := [(3, .ref q), (0, .ref (gA G 0)), (1, .int p1), (2, .ref (gA G 23))]) F dL_learn_12 rfl (by decide) rfl ?_
      refine w_iconst F dL_learn_13 (v := nI (0 + 1)) (by decide) ?_
      exact w_iret F dL_learn_14 rfl
    · cases hj
      refine w_cVx (pre := [⟨0, 9, 12, 21⟩]) (x := ⟨0, 9, 15, 13⟩) (suf := []) (tgt := 15) (As := [.int p1]) (rest := [.int 0, .ref (gA G 23)]) F (c_X6_learn F.st F.gg p1 M _ h) dL_learn_4 ml_L_55 yv_X6_learn (rfl : kd 0 = 0) (by decide) rfl rfl ⟨by decide, by decide⟩ ⟨by decide, by decide⟩ rfl (Nat.le_of_ble_eq_true rfl) (by rw [ht]; rfl) (fun z hz => by
          rcases List.mem_cons.mp hz with rfl | hz
          · exact ⟨by decide, exI, cl_L_21, by decide⟩
          cases hz) (by decide) (by decide) cl_L_13 cs_exA rfl (fun q => ?_)
      refine w_astore_n (ls' := [(3, .ref q), (0, .ref (gA G 0)), (1, .int p1), (2, .ref (gA G 23))]) F dL_learn_15 rfl (by decide) rfl ?_
      refine w_iconst F dL_learn_16 (v := nI (1 + 1)) (by decide) ?_
      exact w_iret F dL_learn_17 rfl
    · cases hj
theorem cw_L_undo : Cond.codeWith yL_undo cL_undo 3 (some .int) [(0, 8, 11, 15)] ∈ wsA := inA (tb4 (k := 53) (by rfl)) (by decide +kernel)
set_option maxRecDepth 100000 in
set_option maxHeartbeats 4000000 in
theorem m_L_undo {l : Launch} {G : GM} (hl : l.stackTraces = false) (hG : GG G)  {r : Int32 ⊕ String} {M M1 M2 : Mem} {c9 : Int32} (h : f_X6_undo  M = some (r, M1)) (hw : wO [exS] r M1 c9 M2) : Met l yL_undo (.codeWith yL_undo cL_undo 3 (some .int) [(0, 8, 11, 15)] :: wsA) rmW (PcG G [.ref (gA G 0), .ref (gA G 23)] M) (QcR G (some (.int c9)) M2) 1 6 (A0 G) := by
  refine met_W (by decide) hl hG (Nat.le_of_ble_eq_true rfl) (fun p e s m args below meth c F ht => ?_)
  refine w_aload_n F 1 dL_undo_0 rfl rfl ?_
  refine w_iconst F dL_undo_1 (v := 0) (by decide) ?_
  refine w_aload_n F 0 dL_undo_2 rfl rfl ?_
  rcases hw with ⟨v, rfl, rfl, rfl⟩ | ⟨j, E, hj, rfl, rfl, rfl⟩
  · refine w_cV (v := some (.int v)) (As := []) (rest := [.int 0, .ref (gA G 23)]) F (c_X6_undo F.st F.gg  M _ h) dL_undo_3 ml_L_58 yv_X6_undo (rfl : kd 0 = 0) (by decide) rfl rfl ⟨by decide, by decide⟩ ⟨by decide, by decide⟩ rfl (Nat.le_of_ble_eq_true rfl) ?_
    refine w_i2l F dL_undo_6 ?_
    refine w_last F dL_undo_7 (rfl : kd 23 = 12) (by decide) ?_
    refine w_goto (tgt := 14) F dL_undo_8 (by decide) ?_
    refine w_iconst F dL_undo_14 (v := nI 0) (by decide) ?_
    exact w_wide (u2 := 1) (w2 := 6) (by decide) (by decide) (w_iret F dL_undo_15 rfl)
  · rcases j with _ | j
    · cases hj
      refine w_cVx (pre := []) (x := ⟨0, 8, 11, 15⟩) (suf := []) (tgt := 11) (As := []) (rest := [.int 0, .ref (gA G 23)]) F (c_X6_undo F.st F.gg  M _ h) dL_undo_3 ml_L_58 yv_X6_undo (rfl : kd 0 = 0) (by decide) rfl rfl ⟨by decide, by decide⟩ ⟨by decide, by decide⟩ rfl (Nat.le_of_ble_eq_true rfl) (by rw [ht]; rfl) (fun z hz => by cases hz) (by decide) (by decide) cl_L_15 cs_exS rfl (fun q => ?_)
      refine w_astore_n (ls' := [(2, .ref q), (0, .ref (gA G 0)), (1, .ref (gA G 23))]) F dL_undo_11 rfl (by decide) rfl ?_
      refine w_iconst F dL_undo_12 (v := nI (0 + 1)) (by decide) ?_
      exact w_iret F dL_undo_13 rfl
    · cases hj
theorem cw_L_town : Cond.codeWith yL_town cL_town 5 (some .int) [(0, 10, 13, 21), (0, 10, 17, 13)] ∈ wsA := inA (tb4 (k := 61) (by rfl)) (by decide +kernel)
set_option maxRecDepth 100000 in
set_option maxHeartbeats 4000000 in
theorem m_L_town {l : Launch} {G : GM} (hl : l.stackTraces = false) (hG : GG G) (p1 : Int32) (p2 : Int32) {r : Int32 ⊕ String} {M M1 M2 : Mem} {c9 : Int32} (h : f_X6_town p1 p2 M = some (r, M1)) (hw : wO [exI, exA] r M1 c9 M2) : Met l yL_town (.codeWith yL_town cL_town 5 (some .int) [(0, 10, 13, 21), (0, 10, 17, 13)] :: wsA) rmW (PcG G [.ref (gA G 0), .int p1, .int p2, .ref (gA G 23)] M) (QcR G (some (.int c9)) M2) 1 6 (A0 G) := by
  refine met_W (by decide) hl hG (Nat.le_of_ble_eq_true rfl) (fun p e s m args below meth c F ht => ?_)
  refine w_aload_n F 3 dL_town_0 rfl rfl ?_
  refine w_iconst F dL_town_1 (v := 0) (by decide) ?_
  refine w_aload_n F 0 dL_town_2 rfl rfl ?_
  refine w_iload_n F 1 dL_town_3 rfl rfl ?_
  refine w_iload_n F 2 dL_town_4 rfl rfl ?_
  rcases hw with ⟨v, rfl, rfl, rfl⟩ | ⟨j, E, hj, rfl, rfl, rfl⟩
  · refine w_cV (v := some (.int v)) (As := [.int p1, .int p2]) (rest := [.int 0, .ref (gA G 23)]) F (c_X6_town F.st F.gg p1 p2 M _ h) dL_town_5 ml_L_62 yv_X6_town (rfl : kd 0 = 0) (by decide) rfl rfl ⟨by decide, by decide⟩ ⟨by decide, by decide⟩ rfl (Nat.le_of_ble_eq_true rfl) ?_
    refine w_i2l F dL_town_8 ?_
    refine w_last F dL_town_9 (rfl : kd 23 = 12) (by decide) ?_
    refine w_goto (tgt := 21) F dL_town_10 (by decide) ?_
    refine w_iconst F dL_town_21 (v := nI 0) (by decide) ?_
    exact w_wide (u2 := 1) (w2 := 6) (by decide) (by decide) (w_iret F dL_town_22 rfl)
  · rcases j with _ | _ | j
    · cases hj
      refine w_cVx (pre := []) (x := ⟨0, 10, 13, 21⟩) (suf := [⟨0, 10, 17, 13⟩]) (tgt := 13) (As := [.int p1, .int p2]) (rest := [.int 0, .ref (gA G 23)]) F (c_X6_town F.st F.gg p1 p2 M _ h) dL_town_5 ml_L_62 yv_X6_town (rfl : kd 0 = 0) (by decide) rfl rfl ⟨by decide, by decide⟩ ⟨by decide, by decide⟩ rfl (Nat.le_of_ble_eq_true rfl) (by rw [ht]; rfl) (fun z hz => by cases hz) (by decide) (by decide) cl_L_21 cs_exI rfl (fun q => ?_)
      refine w_astore (ls' := [(4, .ref q), (0, .ref (gA G 0)), (1, .int p1), (2, .int p2), (3, .ref (gA G 23))]) F dL_town_13 (by decide) rfl ?_
      refine w_iconst F dL_town_15 (v := nI (0 + 1)) (by decide) ?_
      exact w_iret F dL_town_16 rfl
    · cases hj
      refine w_cVx (pre := [⟨0, 10, 13, 21⟩]) (x := ⟨0, 10, 17, 13⟩) (suf := []) (tgt := 17) (As := [.int p1, .int p2]) (rest := [.int 0, .ref (gA G 23)]) F (c_X6_town F.st F.gg p1 p2 M _ h) dL_town_5 ml_L_62 yv_X6_town (rfl : kd 0 = 0) (by decide) rfl rfl ⟨by decide, by decide⟩ ⟨by decide, by decide⟩ rfl (Nat.le_of_ble_eq_true rfl) (by rw [ht]; rfl) (fun z hz => by
          rcases List.mem_cons.mp hz with rfl | hz
          · exact ⟨by decide, exI, cl_L_21, by decide⟩
          cases hz) (by decide) (by decide) cl_L_13 cs_exA rfl (fun q => ?_)
      refine w_astore (ls' := [(4, .ref q), (0, .ref (gA G 0)), (1, .int p1), (2, .int p2), (3, .ref (gA G 23))]) F dL_town_17 (by decide) rfl ?_
      refine w_iconst F dL_town_19 (v := nI (1 + 1)) (by decide) ?_
      exact w_iret F dL_town_20 rfl
    · cases hj
theorem cw_L_step : Cond.codeWith yL_step cL_step 6 (some .int) [(0, 12, 15, 21), (0, 12, 19, 13)] ∈ wsA := inA (tb4 (k := 65) (by rfl)) (by decide +kernel)
set_option maxRecDepth 100000 in
set_option maxHeartbeats 4000000 in
theorem m_L_step {l : Launch} {G : GM} (hl : l.stackTraces = false) (hG : GG G) (p1 : Int32) (p2 : Int32) (p3 : Int32) {r : Int32 ⊕ String} {M M1 M2 : Mem} {c9 : Int32} (h : f_X6_step p1 p2 p3 M = some (r, M1)) (hw : wO [exI, exA] r M1 c9 M2) : Met l yL_step (.codeWith yL_step cL_step 6 (some .int) [(0, 12, 15, 21), (0, 12, 19, 13)] :: wsA) rmW (PcG G [.ref (gA G 0), .int p1, .int p2, .int p3, .ref (gA G 23)] M) (QcR G (some (.int c9)) M2) 1 6 (A0 G) := by
  refine met_W (by decide) hl hG (Nat.le_of_ble_eq_true rfl) (fun p e s m args below meth c F ht => ?_)
  refine w_aload F 4 dL_step_0 rfl ?_
  refine w_iconst F dL_step_2 (v := 0) (by decide) ?_
  refine w_aload_n F 0 dL_step_3 rfl rfl ?_
  refine w_iload_n F 1 dL_step_4 rfl rfl ?_
  refine w_iload_n F 2 dL_step_5 rfl rfl ?_
  refine w_iload_n F 3 dL_step_6 rfl rfl ?_
  rcases hw with ⟨v, rfl, rfl, rfl⟩ | ⟨j, E, hj, rfl, rfl, rfl⟩
  · refine w_cV (v := some (.int v)) (As := [.int p1, .int p2, .int p3]) (rest := [.int 0, .ref (gA G 23)]) F (c_X6_step F.st F.gg p1 p2 p3 M _ h) dL_step_7 ml_L_65 yv_X6_step (rfl : kd 0 = 0) (by decide) rfl rfl ⟨by decide, by decide⟩ ⟨by decide, by decide⟩ rfl (Nat.le_of_ble_eq_true rfl) ?_
    refine w_i2l F dL_step_10 ?_
    refine w_last F dL_step_11 (rfl : kd 23 = 12) (by decide) ?_
    refine w_goto (tgt := 23) F dL_step_12 (by decide) ?_
    refine w_iconst F dL_step_23 (v := nI 0) (by decide) ?_
    exact w_wide (u2 := 1) (w2 := 6) (by decide) (by decide) (w_iret F dL_step_24 rfl)
  · rcases j with _ | _ | j
    · cases hj
      refine w_cVx (pre := []) (x := ⟨0, 12, 15, 21⟩) (suf := [⟨0, 12, 19, 13⟩]) (tgt := 15) (As := [.int p1, .int p2, .int p3]) (rest := [.int 0, .ref (gA G 23)]) F (c_X6_step F.st F.gg p1 p2 p3 M _ h) dL_step_7 ml_L_65 yv_X6_step (rfl : kd 0 = 0) (by decide) rfl rfl ⟨by decide, by decide⟩ ⟨by decide, by decide⟩ rfl (Nat.le_of_ble_eq_true rfl) (by rw [ht]; rfl) (fun z hz => by cases hz) (by decide) (by decide) cl_L_21 cs_exI rfl (fun q => ?_)
      refine w_astore (ls' := [(5, .ref q), (0, .ref (gA G 0)), (1, .int p1), (2, .int p2), (3, .int p3), (4, .ref (gA G 23))]) F dL_step_15 (by decide) rfl ?_
      refine w_iconst F dL_step_17 (v := nI (0 + 1)) (by decide) ?_
      exact w_iret F dL_step_18 rfl
    · cases hj
      refine w_cVx (pre := [⟨0, 12, 15, 21⟩]) (x := ⟨0, 12, 19, 13⟩) (suf := []) (tgt := 19) (As := [.int p1, .int p2, .int p3]) (rest := [.int 0, .ref (gA G 23)]) F (c_X6_step F.st F.gg p1 p2 p3 M _ h) dL_step_7 ml_L_65 yv_X6_step (rfl : kd 0 = 0) (by decide) rfl rfl ⟨by decide, by decide⟩ ⟨by decide, by decide⟩ rfl (Nat.le_of_ble_eq_true rfl) (by rw [ht]; rfl) (fun z hz => by
          rcases List.mem_cons.mp hz with rfl | hz
          · exact ⟨by decide, exI, cl_L_21, by decide⟩
          cases hz) (by decide) (by decide) cl_L_13 cs_exA rfl (fun q => ?_)
      refine w_astore (ls' := [(5, .ref q), (0, .ref (gA G 0)), (1, .int p1), (2, .int p2), (3, .int p3), (4, .ref (gA G 23))]) F dL_step_19 (by decide) rfl ?_
      refine w_iconst F dL_step_21 (v := nI (1 + 1)) (by decide) ?_
      exact w_iret F dL_step_22 rfl
    · cases hj
theorem cw_L_wear : Cond.codeWith yL_wear cL_wear 5 (some .int) [(0, 10, 13, 21)] ∈ wsA := inA (tb4 (k := 73) (by rfl)) (by decide +kernel)
set_option maxRecDepth 100000 in
set_option maxHeartbeats 4000000 in
theorem m_L_wear {l : Launch} {G : GM} (hl : l.stackTraces = false) (hG : GG G) (p1 : Int32) (p2 : Int32) {r : Int32 ⊕ String} {M M1 M2 : Mem} {c9 : Int32} (h : f_X6_wear p1 p2 M = some (r, M1)) (hw : wO [exI] r M1 c9 M2) : Met l yL_wear (.codeWith yL_wear cL_wear 5 (some .int) [(0, 10, 13, 21)] :: wsA) rmW (PcG G [.ref (gA G 0), .int p1, .int p2, .ref (gA G 23)] M) (QcR G (some (.int c9)) M2) 1 6 (A0 G) := by
  refine met_W (by decide) hl hG (Nat.le_of_ble_eq_true rfl) (fun p e s m args below meth c F ht => ?_)
  refine w_aload_n F 3 dL_wear_0 rfl rfl ?_
  refine w_iconst F dL_wear_1 (v := 0) (by decide) ?_
  refine w_aload_n F 0 dL_wear_2 rfl rfl ?_
  refine w_iload_n F 1 dL_wear_3 rfl rfl ?_
  refine w_iload_n F 2 dL_wear_4 rfl rfl ?_
  rcases hw with ⟨v, rfl, rfl, rfl⟩ | ⟨j, E, hj, rfl, rfl, rfl⟩
  · refine w_cV (v := some (.int v)) (As := [.int p1, .int p2]) (rest := [.int 0, .ref (gA G 23)]) F (c_X6_wear F.st F.gg p1 p2 M _ h) dL_wear_5 ml_L_68 yv_X6_wear (rfl : kd 0 = 0) (by decide) rfl rfl ⟨by decide, by decide⟩ ⟨by decide, by decide⟩ rfl (Nat.le_of_ble_eq_true rfl) ?_
    refine w_i2l F dL_wear_8 ?_
    refine w_last F dL_wear_9 (rfl : kd 23 = 12) (by decide) ?_
    refine w_goto (tgt := 17) F dL_wear_10 (by decide) ?_
    refine w_iconst F dL_wear_17 (v := nI 0) (by decide) ?_
    exact w_wide (u2 := 1) (w2 := 6) (by decide) (by decide) (w_iret F dL_wear_18 rfl)
  · rcases j with _ | j
    · cases hj
      refine w_cVx (pre := []) (x := ⟨0, 10, 13, 21⟩) (suf := []) (tgt := 13) (As := [.int p1, .int p2]) (rest := [.int 0, .ref (gA G 23)]) F (c_X6_wear F.st F.gg p1 p2 M _ h) dL_wear_5 ml_L_68 yv_X6_wear (rfl : kd 0 = 0) (by decide) rfl rfl ⟨by decide, by decide⟩ ⟨by decide, by decide⟩ rfl (Nat.le_of_ble_eq_true rfl) (by rw [ht]; rfl) (fun z hz => by cases hz) (by decide) (by decide) cl_L_21 cs_exI rfl (fun q => ?_)
      refine w_astore (ls' := [(4, .ref q), (0, .ref (gA G 0)), (1, .int p1), (2, .int p2), (3, .ref (gA G 23))]) F dL_wear_13 (by decide) rfl ?_
      refine w_iconst F dL_wear_15 (v := nI (0 + 1)) (by decide) ?_
      exact w_iret F dL_wear_16 rfl
    · cases hj
theorem cw_L_debt : Cond.codeWith yL_debt cL_debt 5 (some .int) [(0, 10, 13, 21)] ∈ wsA := inA (tb4 (k := 80) (by rfl)) (by decide +kernel)
set_option maxRecDepth 100000 in
set_option maxHeartbeats 4000000 in
theorem m_L_debt {l : Launch} {G : GM} (hl : l.stackTraces = false) (hG : GG G) (p1 : Int32) (p2 : Int32) {r : Int32 ⊕ String} {M M1 M2 : Mem} {c9 : Int32} (h : f_X6_debt p1 p2 M = some (r, M1)) (hw : wO [exI] r M1 c9 M2) : Met l yL_debt (.codeWith yL_debt cL_debt 5 (some .int) [(0, 10, 13, 21)] :: wsA) rmW (PcG G [.ref (gA G 0), .int p1, .int p2, .ref (gA G 23)] M) (QcR G (some (.int c9)) M2) 1 6 (A0 G) := by
  refine met_W (by decide) hl hG (Nat.le_of_ble_eq_true rfl) (fun p e s m args below meth c F ht => ?_)
  refine w_aload_n F 3 dL_debt_0 rfl rfl ?_
  refine w_iconst F dL_debt_1 (v := 0) (by decide) ?_
  refine w_aload_n F 0 dL_debt_2 rfl rfl ?_
  refine w_iload_n F 1 dL_debt_3 rfl rfl ?_
  refine w_iload_n F 2 dL_debt_4 rfl rfl ?_
  rcases hw with ⟨v, rfl, rfl, rfl⟩ | ⟨j, E, hj, rfl, rfl, rfl⟩
  · refine w_cV (v := some (.int v)) (As := [.int p1, .int p2]) (rest := [.int 0, .ref (gA G 23)]) F (c_X6_debt F.st F.gg p1 p2 M _ h) dL_debt_5 ml_L_71 yv_X6_debt (rfl : kd 0 = 0) (by decide) rfl rfl ⟨by decide, by decide⟩ ⟨by decide, by decide⟩ rfl (Nat.le_of_ble_eq_true rfl) ?_
    refine w_i2l F dL_debt_8 ?_
    refine w_last F dL_debt_9 (rfl : kd 23 = 12) (by decide) ?_
    refine w_goto (tgt := 17) F dL_debt_10 (by decide) ?_
    refine w_iconst F dL_debt_17 (v := nI 0) (by decide) ?_
    exact w_wide (u2 := 1) (w2 := 6) (by decide) (by decide) (w_iret F dL_debt_18 rfl)
  · rcases j with _ | j
    · cases hj
      refine w_cVx (pre := []) (x := ⟨0, 10, 13, 21⟩) (suf := []) (tgt := 13) (As := [.int p1, .int p2]) (rest := [.int 0, .ref (gA G 23)]) F (c_X6_debt F.st F.gg p1 p2 M _ h) dL_debt_5 ml_L_71 yv_X6_debt (rfl : kd 0 = 0) (by decide) rfl rfl ⟨by decide, by decide⟩ ⟨by decide, by decide⟩ rfl (Nat.le_of_ble_eq_true rfl) (by rw [ht]; rfl) (fun z hz => by cases hz) (by decide) (by decide) cl_L_21 cs_exI rfl (fun q => ?_)
      refine w_astore (ls' := [(4, .ref q), (0, .ref (gA G 0)), (1, .int p1), (2, .int p2), (3, .ref (gA G 23))]) F dL_debt_13 (by decide) rfl ?_
      refine w_iconst F dL_debt_15 (v := nI (0 + 1)) (by decide) ?_
      exact w_iret F dL_debt_16 rfl
    · cases hj
theorem cw_L_count : Cond.codeWith yL_count cL_count 4 (some .int) [(0, 9, 12, 13)] ∈ wsA := inA (tb4 (k := 87) (by rfl)) (by decide +kernel)
set_option maxRecDepth 100000 in
set_option maxHeartbeats 4000000 in
theorem m_L_count {l : Launch} {G : GM} (hl : l.stackTraces = false) (hG : GG G) (p1 : Int32) {r : Int32 ⊕ String} {M M1 M2 : Mem} {c9 : Int32} (h : f_X6_count p1 M = some (r, M1)) (hw : wO [exA] r M1 c9 M2) : Met l yL_count (.codeWith yL_count cL_count 4 (some .int) [(0, 9, 12, 13)] :: wsA) rmW (PcG G [.ref (gA G 0), .int p1, .ref (gA G 23)] M) (QcR G (some (.int c9)) M2) 1 6 (A0 G) := by
  refine met_W (by decide) hl hG (Nat.le_of_ble_eq_true rfl) (fun p e s m args below meth c F ht => ?_)
  refine w_aload_n F 2 dL_count_0 rfl rfl ?_
  refine w_iconst F dL_count_1 (v := 0) (by decide) ?_
  refine w_aload_n F 0 dL_count_2 rfl rfl ?_
  refine w_iload_n F 1 dL_count_3 rfl rfl ?_
  rcases hw with ⟨v, rfl, rfl, rfl⟩ | ⟨j, E, hj, rfl, rfl, rfl⟩
  · refine w_cV (v := some (.int v)) (As := [.int p1]) (rest := [.int 0, .ref (gA G 23)]) F (c_X6_count F.st F.gg p1 M _ h) dL_count_4 ml_L_74 yv_X6_count (rfl : kd 0 = 0) (by decide) rfl rfl ⟨by decide, by decide⟩ ⟨by decide, by decide⟩ rfl (Nat.le_of_ble_eq_true rfl) ?_
    refine w_i2l F dL_count_7 ?_
    refine w_last F dL_count_8 (rfl : kd 23 = 12) (by decide) ?_
    refine w_goto (tgt := 15) F dL_count_9 (by decide) ?_
    refine w_iconst F dL_count_15 (v := nI 0) (by decide) ?_
    exact w_wide (u2 := 1) (w2 := 6) (by decide) (by decide) (w_iret F dL_count_16 rfl)
  · rcases j with _ | j
    · cases hj
      refine w_cVx (pre := []) (x := ⟨0, 9, 12, 13⟩) (suf := []) (tgt := 12) (As := [.int p1]) (rest := [.int 0, .ref (gA G 23)]) F (c_X6_count F.st F.gg p1 M _ h) dL_count_4 ml_L_74 yv_X6_count (rfl : kd 0 = 0) (by decide) rfl rfl ⟨by decide, by decide⟩ ⟨by decide, by decide⟩ rfl (Nat.le_of_ble_eq_true rfl) (by rw [ht]; rfl) (fun z hz => by cases hz) (by decide) (by decide) cl_L_13 cs_exA rfl (fun q => ?_)
      refine w_astore_n (ls' := [(3, .ref q), (0, .ref (gA G 0)), (1, .int p1), (2, .ref (gA G 23))]) F dL_count_12 rfl (by decide) rfl ?_
      refine w_iconst F dL_count_13 (v := nI (0 + 1)) (by decide) ?_
      exact w_iret F dL_count_14 rfl
    · cases hj
theorem cw_L_setting : Cond.codeWith yL_setting cL_setting 4 (some .int) [(0, 9, 12, 21)] ∈ wsA := inA (tb4 (k := 91) (by rfl)) (by decide +kernel)
set_option maxRecDepth 100000 in
set_option maxHeartbeats 4000000 in
theorem m_L_setting {l : Launch} {G : GM} (hl : l.stackTraces = false) (hG : GG G) (p1 : Int32) {r : Int32 ⊕ String} {M M1 M2 : Mem} {c9 : Int32} (h : f_X6_setting p1 M = some (r, M1)) (hw : wO [exI] r M1 c9 M2) : Met l yL_setting (.codeWith yL_setting cL_setting 4 (some .int) [(0, 9, 12, 21)] :: wsA) rmW (PcG G [.ref (gA G 0), .int p1, .ref (gA G 23)] M) (QcR G (some (.int c9)) M2) 1 6 (A0 G) := by
  refine met_W (by decide) hl hG (Nat.le_of_ble_eq_true rfl) (fun p e s m args below meth c F ht => ?_)
  refine w_aload_n F 2 dL_setting_0 rfl rfl ?_
  refine w_iconst F dL_setting_1 (v := 0) (by decide) ?_
  refine w_aload_n F 0 dL_setting_2 rfl rfl ?_
  refine w_iload_n F 1 dL_setting_3 rfl rfl ?_
  rcases hw with ⟨v, rfl, rfl, rfl⟩ | ⟨j, E, hj, rfl, rfl, rfl⟩
  · refine w_cV (v := some (.int v)) (As := [.int p1]) (rest := [.int 0, .ref (gA G 23)]) F (c_X6_setting F.st F.gg p1 M _ h) dL_setting_4 ml_L_77 yv_X6_setting (rfl : kd 0 = 0) (by decide) rfl rfl ⟨by decide, by decide⟩ ⟨by decide, by decide⟩ rfl (Nat.le_of_ble_eq_true rfl) ?_
    refine w_i2l F dL_setting_7 ?_
    refine w_last F dL_setting_8 (rfl : kd 23 = 12) (by decide) ?_
    refine w_goto (tgt := 15) F dL_setting_9 (by decide) ?_
    refine w_iconst F dL_setting_15 (v := nI 0) (by decide) ?_
    exact w_wide (u2 := 1) (w2 := 6) (by decide) (by decide) (w_iret F dL_setting_16 rfl)
  · rcases j with _ | j
    · cases hj
      refine w_cVx (pre := []) (x := ⟨0, 9, 12, 21⟩) (suf := []) (tgt := 12) (As := [.int p1]) (rest := [.int 0, .ref (gA G 23)]) F (c_X6_setting F.st F.gg p1 M _ h) dL_setting_4 ml_L_77 yv_X6_setting (rfl : kd 0 = 0) (by decide) rfl rfl ⟨by decide, by decide⟩ ⟨by decide, by decide⟩ rfl (Nat.le_of_ble_eq_true rfl) (by rw [ht]; rfl) (fun z hz => by cases hz) (by decide) (by decide) cl_L_21 cs_exI rfl (fun q => ?_)
      refine w_astore_n (ls' := [(3, .ref q), (0, .ref (gA G 0)), (1, .int p1), (2, .ref (gA G 23))]) F dL_setting_12 rfl (by decide) rfl ?_
      refine w_iconst F dL_setting_13 (v := nI (0 + 1)) (by decide) ?_
      exact w_iret F dL_setting_14 rfl
    · cases hj
theorem cw_L_ifPlayed : Cond.codeWith yL_ifPlayed cL_ifPlayed 5 (some .int) [(0, 10, 13, 21), (0, 10, 17, 13)] ∈ wsA := inA (tb4 (k := 98) (by rfl)) (by decide +kernel)
set_option maxRecDepth 100000 in
set_option maxHeartbeats 4000000 in
theorem m_L_ifPlayed {l : Launch} {G : GM} (hl : l.stackTraces = false) (hG : GG G) (p1 : Int32) (p2 : Int32) {r : Int32 ⊕ String} {M M1 M2 : Mem} {c9 : Int32} (h : f_X6_ifPlayed p1 p2 M = some (r, M1)) (hw : wO [exI, exA] r M1 c9 M2) : Met l yL_ifPlayed (.codeWith yL_ifPlayed cL_ifPlayed 5 (some .int) [(0, 10, 13, 21), (0, 10, 17, 13)] :: wsA) rmW (PcG G [.ref (gA G 0), .int p1, .int p2, .ref (gA G 23)] M) (QcR G (some (.int c9)) M2) 1 6 (A0 G) := by
  refine met_W (by decide) hl hG (Nat.le_of_ble_eq_true rfl) (fun p e s m args below meth c F ht => ?_)
  refine w_aload_n F 3 dL_ifPlayed_0 rfl rfl ?_
  refine w_iconst F dL_ifPlayed_1 (v := 0) (by decide) ?_
  refine w_aload_n F 0 dL_ifPlayed_2 rfl rfl ?_
  refine w_iload_n F 1 dL_ifPlayed_3 rfl rfl ?_
  refine w_iload_n F 2 dL_ifPlayed_4 rfl rfl ?_
  rcases hw with ⟨v, rfl, rfl, rfl⟩ | ⟨j, E, hj, rfl, rfl, rfl⟩
  · refine w_cV (v := some (.int v)) (As := [.int p1, .int p2]) (rest := [.int 0, .ref (gA G 23)]) F (c_X6_ifPlayed F.st F.gg p1 p2 M _ h) dL_ifPlayed_5 ml_L_80 yv_X6_ifPlayed (rfl : kd 0 = 0) (by decide) rfl rfl ⟨by decide, by decide⟩ ⟨by decide, by decide⟩ rfl (Nat.le_of_ble_eq_true rfl) ?_
    refine w_i2l F dL_ifPlayed_8 ?_
    refine w_last F dL_ifPlayed_9 (rfl : kd 23 = 12) (by decide) ?_
    refine w_goto (tgt := 21) F dL_ifPlayed_10 (by decide) ?_
    refine w_iconst F dL_ifPlayed_21 (v := nI 0) (by decide) ?_
    exact w_wide (u2 := 1) (w2 := 6) (by decide) (by decide) (w_iret F dL_ifPlayed_22 rfl)
  · rcases j with _ | _ | j
    · cases hj
      refine w_cVx (pre := []) (x := ⟨0, 10, 13, 21⟩) (suf := [⟨0, 10, 17, 13⟩]) (tgt := 13) (As := [.int p1, .int p2]) (rest := [.int 0, .ref (gA G 23)]) F (c_X6_ifPlayed F.st F.gg p1 p2 M _ h) dL_ifPlayed_5 ml_L_80 yv_X6_ifPlayed (rfl : kd 0 = 0) (by decide) rfl rfl ⟨by decide, by decide⟩ ⟨by decide, by decide⟩ rfl (Nat.le_of_ble_eq_true rfl) (by rw [ht]; rfl) (fun z hz => by cases hz) (by decide) (by decide) cl_L_21 cs_exI rfl (fun q => ?_)
      refine w_astore (ls' := [(4, .ref q), (0, .ref (gA G 0)), (1, .int p1), (2, .int p2), (3, .ref (gA G 23))]) F dL_ifPlayed_13 (by decide) rfl ?_
      refine w_iconst F dL_ifPlayed_15 (v := nI (0 + 1)) (by decide) ?_
      exact w_iret F dL_ifPlayed_16 rfl
    · cases hj
      refine w_cVx (pre := [⟨0, 10, 13, 21⟩]) (x := ⟨0, 10, 17, 13⟩) (suf := []) (tgt := 17) (As := [.int p1, .int p2]) (rest := [.int 0, .ref (gA G 23)]) F (c_X6_ifPlayed F.st F.gg p1 p2 M _ h) dL_ifPlayed_5 ml_L_80 yv_X6_ifPlayed (rfl : kd 0 = 0) (by decide) rfl rfl ⟨by decide, by decide⟩ ⟨by decide, by decide⟩ rfl (Nat.le_of_ble_eq_true rfl) (by rw [ht]; rfl) (fun z hz => by
          rcases List.mem_cons.mp hz with rfl | hz
          · exact ⟨by decide, exI, cl_L_21, by decide⟩
          cases hz) (by decide) (by decide) cl_L_13 cs_exA rfl (fun q => ?_)
      refine w_astore (ls' := [(4, .ref q), (0, .ref (gA G 0)), (1, .int p1), (2, .int p2), (3, .ref (gA G 23))]) F dL_ifPlayed_17 (by decide) rfl ?_
      refine w_iconst F dL_ifPlayed_19 (v := nI (1 + 1)) (by decide) ?_
      exact w_iret F dL_ifPlayed_20 rfl
    · cases hj
theorem cw_L_lastsFor : Cond.codeWith yL_lastsFor cL_lastsFor 4 (some .int) [(0, 9, 12, 21)] ∈ wsA := inA (tb4 (k := 106) (by rfl)) (by decide +kernel)
set_option maxRecDepth 100000 in
set_option maxHeartbeats 4000000 in
theorem m_L_lastsFor {l : Launch} {G : GM} (hl : l.stackTraces = false) (hG : GG G) (p1 : Int32) {r : Int32 ⊕ String} {M M1 M2 : Mem} {c9 : Int32} (h : f_X6_lastsFor p1 M = some (r, M1)) (hw : wO [exI] r M1 c9 M2) : Met l yL_lastsFor (.codeWith yL_lastsFor cL_lastsFor 4 (some .int) [(0, 9, 12, 21)] :: wsA) rmW (PcG G [.ref (gA G 0), .int p1, .ref (gA G 23)] M) (QcR G (some (.int c9)) M2) 1 6 (A0 G) := by
  refine met_W (by decide) hl hG (Nat.le_of_ble_eq_true rfl) (fun p e s m args below meth c F ht => ?_)
  refine w_aload_n F 2 dL_lastsFor_0 rfl rfl ?_
  refine w_iconst F dL_lastsFor_1 (v := 0) (by decide) ?_
  refine w_aload_n F 0 dL_lastsFor_2 rfl rfl ?_
  refine w_iload_n F 1 dL_lastsFor_3 rfl rfl ?_
  rcases hw with ⟨v, rfl, rfl, rfl⟩ | ⟨j, E, hj, rfl, rfl, rfl⟩
  · refine w_cV (v := some (.int v)) (As := [.int p1]) (rest := [.int 0, .ref (gA G 23)]) F (c_X6_lastsFor F.st F.gg p1 M _ h) dL_lastsFor_4 ml_L_83 yv_X6_lastsFor (rfl : kd 0 = 0) (by decide) rfl rfl ⟨by decide, by decide⟩ ⟨by decide, by decide⟩ rfl (Nat.le_of_ble_eq_true rfl) ?_
    refine w_i2l F dL_lastsFor_7 ?_
    refine w_last F dL_lastsFor_8 (rfl : kd 23 = 12) (by decide) ?_
    refine w_goto (tgt := 15) F dL_lastsFor_9 (by decide) ?_
    refine w_iconst F dL_lastsFor_15 (v := nI 0) (by decide) ?_
    exact w_wide (u2 := 1) (w2 := 6) (by decide) (by decide) (w_iret F dL_lastsFor_16 rfl)
  · rcases j with _ | j
    · cases hj
      refine w_cVx (pre := []) (x := ⟨0, 9, 12, 21⟩) (suf := []) (tgt := 12) (As := [.int p1]) (rest := [.int 0, .ref (gA G 23)]) F (c_X6_lastsFor F.st F.gg p1 M _ h) dL_lastsFor_4 ml_L_83 yv_X6_lastsFor (rfl : kd 0 = 0) (by decide) rfl rfl ⟨by decide, by decide⟩ ⟨by decide, by decide⟩ rfl (Nat.le_of_ble_eq_true rfl) (by rw [ht]; rfl) (fun z hz => by cases hz) (by decide) (by decide) cl_L_21 cs_exI rfl (fun q => ?_)
      refine w_astore_n (ls' := [(3, .ref q), (0, .ref (gA G 0)), (1, .int p1), (2, .ref (gA G 23))]) F dL_lastsFor_12 rfl (by decide) rfl ?_
      refine w_iconst F dL_lastsFor_13 (v := nI (0 + 1)) (by decide) ?_
      exact w_iret F dL_lastsFor_14 rfl
    · cases hj
theorem cw_L_bestTurn : Cond.codeWith yL_bestTurn cL_bestTurn 5 (some .int) [(0, 10, 13, 21), (0, 10, 17, 13)] ∈ wsA := inA (tb4 (k := 110) (by rfl)) (by decide +kernel)
set_option maxRecDepth 100000 in
set_option maxHeartbeats 4000000 in
theorem m_L_bestTurn {l : Launch} {G : GM} (hl : l.stackTraces = false) (hG : GG G) (p1 : Int32) (p2 : Int32) {r : Int32 ⊕ String} {M M1 M2 : Mem} {c9 : Int32} (h : f_X6_bestTurn p1 p2 M = some (r, M1)) (hw : wO [exI, exA] r M1 c9 M2) : Met l yL_bestTurn (.codeWith yL_bestTurn cL_bestTurn 5 (some .int) [(0, 10, 13, 21), (0, 10, 17, 13)] :: wsA) rmW (PcG G [.ref (gA G 0), .int p1, .int p2, .ref (gA G 23)] M) (QcR G (some (.int c9)) M2) 1 6 (A0 G) := by
  refine met_W (by decide) hl hG (Nat.le_of_ble_eq_true rfl) (fun p e s m args below meth c F ht => ?_)
  refine w_aload_n F 3 dL_bestTurn_0 rfl rfl ?_
  refine w_iconst F dL_bestTurn_1 (v := 0) (by decide) ?_
  refine w_aload_n F 0 dL_bestTurn_2 rfl rfl ?_
  refine w_iload_n F 1 dL_bestTurn_3 rfl rfl ?_
  refine w_iload_n F 2 dL_bestTurn_4 rfl rfl ?_
  rcases hw with ⟨v, rfl, rfl, rfl⟩ | ⟨j, E, hj, rfl, rfl, rfl⟩
  · refine w_cV (v := some (.int v)) (As := [.int p1, .int p2]) (rest := [.int 0, .ref (gA G 23)]) F (c_X6_bestTurn F.st F.gg p1 p2 M _ h) dL_bestTurn_5 ml_L_86 yv_X6_bestTurn (rfl : kd 0 = 0) (by decide) rfl rfl ⟨by decide, by decide⟩ ⟨by decide, by decide⟩ rfl (Nat.le_of_ble_eq_true rfl) ?_
    refine w_i2l F dL_bestTurn_8 ?_
    refine w_last F dL_bestTurn_9 (rfl : kd 23 = 12) (by decide) ?_
    refine w_goto (tgt := 21) F dL_bestTurn_10 (by decide) ?_
    refine w_iconst F dL_bestTurn_21 (v := nI 0) (by decide) ?_
    exact w_wide (u2 := 1) (w2 := 6) (by decide) (by decide) (w_iret F dL_bestTurn_22 rfl)
  · rcases j with _ | _ | j
    · cases hj
      refine w_cVx (pre := []) (x := ⟨0, 10, 13, 21⟩) (suf := [⟨0, 10, 17, 13⟩]) (tgt := 13) (As := [.int p1, .int p2]) (rest := [.int 0, .ref (gA G 23)]) F (c_X6_bestTurn F.st F.gg p1 p2 M _ h) dL_bestTurn_5 ml_L_86 yv_X6_bestTurn (rfl : kd 0 = 0) (by decide) rfl rfl ⟨by decide, by decide⟩ ⟨by decide, by decide⟩ rfl (Nat.le_of_ble_eq_true rfl) (by rw [ht]; rfl) (fun z hz => by cases hz) (by decide) (by decide) cl_L_21 cs_exI rfl (fun q => ?_)
      refine w_astore (ls' := [(4, .ref q), (0, .ref (gA G 0)), (1, .int p1), (2, .int p2), (3, .ref (gA G 23))]) F dL_bestTurn_13 (by decide) rfl ?_
      refine w_iconst F dL_bestTurn_15 (v := nI (0 + 1)) (by decide) ?_
      exact w_iret F dL_bestTurn_16 rfl
    · cases hj
      refine w_cVx (pre := [⟨0, 10, 13, 21⟩]) (x := ⟨0, 10, 17, 13⟩) (suf := []) (tgt := 17) (As := [.int p1, .int p2]) (rest := [.int 0, .ref (gA G 23)]) F (c_X6_bestTurn F.st F.gg p1 p2 M _ h) dL_bestTurn_5 ml_L_86 yv_X6_bestTurn (rfl : kd 0 = 0) (by decide) rfl rfl ⟨by decide, by decide⟩ ⟨by decide, by decide⟩ rfl (Nat.le_of_ble_eq_true rfl) (by rw [ht]; rfl) (fun z hz => by
          rcases List.mem_cons.mp hz with rfl | hz
          · exact ⟨by decide, exI, cl_L_21, by decide⟩
          cases hz) (by decide) (by decide) cl_L_13 cs_exA rfl (fun q => ?_)
      refine w_astore (ls' := [(4, .ref q), (0, .ref (gA G 0)), (1, .int p1), (2, .int p2), (3, .ref (gA G 23))]) F dL_bestTurn_17 (by decide) rfl ?_
      refine w_iconst F dL_bestTurn_19 (v := nI (1 + 1)) (by decide) ?_
      exact w_iret F dL_bestTurn_20 rfl
    · cases hj
theorem cw_L_bestDrum : Cond.codeWith yL_bestDrum cL_bestDrum 4 (some .int) [(0, 9, 12, 21)] ∈ wsA := inA (tb4 (k := 114) (by rfl)) (by decide +kernel)
set_option maxRecDepth 100000 in
set_option maxHeartbeats 4000000 in
theorem m_L_bestDrum {l : Launch} {G : GM} (hl : l.stackTraces = false) (hG : GG G) (p1 : Int32) {r : Int32 ⊕ String} {M M1 M2 : Mem} {c9 : Int32} (h : f_X6_bestDrum p1 M = some (r, M1)) (hw : wO [exI] r M1 c9 M2) : Met l yL_bestDrum (.codeWith yL_bestDrum cL_bestDrum 4 (some .int) [(0, 9, 12, 21)] :: wsA) rmW (PcG G [.ref (gA G 0), .int p1, .ref (gA G 23)] M) (QcR G (some (.int c9)) M2) 1 6 (A0 G) := by
  refine met_W (by decide) hl hG (Nat.le_of_ble_eq_true rfl) (fun p e s m args below meth c F ht => ?_)
  refine w_aload_n F 2 dL_bestDrum_0 rfl rfl ?_
  refine w_iconst F dL_bestDrum_1 (v := 0) (by decide) ?_
  refine w_aload_n F 0 dL_bestDrum_2 rfl rfl ?_
  refine w_iload_n F 1 dL_bestDrum_3 rfl rfl ?_
  rcases hw with ⟨v, rfl, rfl, rfl⟩ | ⟨j, E, hj, rfl, rfl, rfl⟩
  · refine w_cV (v := some (.int v)) (As := [.int p1]) (rest := [.int 0, .ref (gA G 23)]) F (c_X6_bestDrum F.st F.gg p1 M _ h) dL_bestDrum_4 ml_L_89 yv_X6_bestDrum (rfl : kd 0 = 0) (by decide) rfl rfl ⟨by decide, by decide⟩ ⟨by decide, by decide⟩ rfl (Nat.le_of_ble_eq_true rfl) ?_
    refine w_i2l F dL_bestDrum_7 ?_
    refine w_last F dL_bestDrum_8 (rfl : kd 23 = 12) (by decide) ?_
    refine w_goto (tgt := 15) F dL_bestDrum_9 (by decide) ?_
    refine w_iconst F dL_bestDrum_15 (v := nI 0) (by decide) ?_
    exact w_wide (u2 := 1) (w2 := 6) (by decide) (by decide) (w_iret F dL_bestDrum_16 rfl)
  · rcases j with _ | j
    · cases hj
      refine w_cVx (pre := []) (x := ⟨0, 9, 12, 21⟩) (suf := []) (tgt := 12) (As := [.int p1]) (rest := [.int 0, .ref (gA G 23)]) F (c_X6_bestDrum F.st F.gg p1 M _ h) dL_bestDrum_4 ml_L_89 yv_X6_bestDrum (rfl : kd 0 = 0) (by decide) rfl rfl ⟨by decide, by decide⟩ ⟨by decide, by decide⟩ rfl (Nat.le_of_ble_eq_true rfl) (by rw [ht]; rfl) (fun z hz => by cases hz) (by decide) (by decide) cl_L_21 cs_exI rfl (fun q => ?_)
      refine w_astore_n (ls' := [(3, .ref q), (0, .ref (gA G 0)), (1, .int p1), (2, .ref (gA G 23))]) F dL_bestDrum_12 rfl (by decide) rfl ?_
      refine w_iconst F dL_bestDrum_13 (v := nI (0 + 1)) (by decide) ?_
      exact w_iret F dL_bestDrum_14 rfl
    · cases hj
theorem cw_L_bestTrades : Cond.codeWith yL_bestTrades cL_bestTrades 4 (some .int) [(0, 9, 12, 13)] ∈ wsA := inA (tb4 (k := 118) (by rfl)) (by decide +kernel)
set_option maxRecDepth 100000 in
set_option maxHeartbeats 4000000 in
theorem m_L_bestTrades {l : Launch} {G : GM} (hl : l.stackTraces = false) (hG : GG G) (p1 : Int32) {r : Int32 ⊕ String} {M M1 M2 : Mem} {c9 : Int32} (h : f_X6_bestTrades p1 M = some (r, M1)) (hw : wO [exA] r M1 c9 M2) : Met l yL_bestTrades (.codeWith yL_bestTrades cL_bestTrades 4 (some .int) [(0, 9, 12, 13)] :: wsA) rmW (PcG G [.ref (gA G 0), .int p1, .ref (gA G 23)] M) (QcR G (some (.int c9)) M2) 1 6 (A0 G) := by
  refine met_W (by decide) hl hG (Nat.le_of_ble_eq_true rfl) (fun p e s m args below meth c F ht => ?_)
  refine w_aload_n F 2 dL_bestTrades_0 rfl rfl ?_
  refine w_iconst F dL_bestTrades_1 (v := 0) (by decide) ?_
  refine w_aload_n F 0 dL_bestTrades_2 rfl rfl ?_
  refine w_iload_n F 1 dL_bestTrades_3 rfl rfl ?_
  rcases hw with ⟨v, rfl, rfl, rfl⟩ | ⟨j, E, hj, rfl, rfl, rfl⟩
  · refine w_cV (v := some (.int v)) (As := [.int p1]) (rest := [.int 0, .ref (gA G 23)]) F (c_X6_bestTrades F.st F.gg p1 M _ h) dL_bestTrades_4 ml_L_92 yv_X6_bestTrades (rfl : kd 0 = 0) (by decide) rfl rfl ⟨by decide, by decide⟩ ⟨by decide, by decide⟩ rfl (Nat.le_of_ble_eq_true rfl) ?_
    refine w_i2l F dL_bestTrades_7 ?_
    refine w_last F dL_bestTrades_8 (rfl : kd 23 = 12) (by decide) ?_
    refine w_goto (tgt := 15) F dL_bestTrades_9 (by decide) ?_
    refine w_iconst F dL_bestTrades_15 (v := nI 0) (by decide) ?_
    exact w_wide (u2 := 1) (w2 := 6) (by decide) (by decide) (w_iret F dL_bestTrades_16 rfl)
  · rcases j with _ | j
    · cases hj
      refine w_cVx (pre := []) (x := ⟨0, 9, 12, 13⟩) (suf := []) (tgt := 12) (As := [.int p1]) (rest := [.int 0, .ref (gA G 23)]) F (c_X6_bestTrades F.st F.gg p1 M _ h) dL_bestTrades_4 ml_L_92 yv_X6_bestTrades (rfl : kd 0 = 0) (by decide) rfl rfl ⟨by decide, by decide⟩ ⟨by decide, by decide⟩ rfl (Nat.le_of_ble_eq_true rfl) (by rw [ht]; rfl) (fun z hz => by cases hz) (by decide) (by decide) cl_L_13 cs_exA rfl (fun q => ?_)
      refine w_astore_n (ls' := [(3, .ref q), (0, .ref (gA G 0)), (1, .int p1), (2, .ref (gA G 23))]) F dL_bestTrades_12 rfl (by decide) rfl ?_
      refine w_iconst F dL_bestTrades_13 (v := nI (0 + 1)) (by decide) ?_
      exact w_iret F dL_bestTrades_14 rfl
    · cases hj
theorem cw_L_ring : Cond.codeWith yL_ring cL_ring 4 (some .int) [(0, 9, 12, 13)] ∈ wsA := inA (tb4 (k := 129) (by rfl)) (by decide +kernel)
set_option maxRecDepth 100000 in
set_option maxHeartbeats 4000000 in
theorem m_L_ring {l : Launch} {G : GM} (hl : l.stackTraces = false) (hG : GG G) (p1 : Int32) {r : Int32 ⊕ String} {M M1 M2 : Mem} {c9 : Int32} (h : f_X6_ring p1 M = some (r, M1)) (hw : wO [exA] r M1 c9 M2) : Met l yL_ring (.codeWith yL_ring cL_ring 4 (some .int) [(0, 9, 12, 13)] :: wsA) rmW (PcG G [.ref (gA G 0), .int p1, .ref (gA G 23)] M) (QcR G (some (.int c9)) M2) 1 6 (A0 G) := by
  refine met_W (by decide) hl hG (Nat.le_of_ble_eq_true rfl) (fun p e s m args below meth c F ht => ?_)
  refine w_aload_n F 2 dL_ring_0 rfl rfl ?_
  refine w_iconst F dL_ring_1 (v := 0) (by decide) ?_
  refine w_aload_n F 0 dL_ring_2 rfl rfl ?_
  refine w_iload_n F 1 dL_ring_3 rfl rfl ?_
  rcases hw with ⟨v, rfl, rfl, rfl⟩ | ⟨j, E, hj, rfl, rfl, rfl⟩
  · refine w_cV (v := some (.int v)) (As := [.int p1]) (rest := [.int 0, .ref (gA G 23)]) F (c_X6_ring F.st F.gg p1 M _ h) dL_ring_4 ml_L_95 yv_X6_ring (rfl : kd 0 = 0) (by decide) rfl rfl ⟨by decide, by decide⟩ ⟨by decide, by decide⟩ rfl (Nat.le_of_ble_eq_true rfl) ?_
    refine w_i2l F dL_ring_7 ?_
    refine w_last F dL_ring_8 (rfl : kd 23 = 12) (by decide) ?_
    refine w_goto (tgt := 15) F dL_ring_9 (by decide) ?_
    refine w_iconst F dL_ring_15 (v := nI 0) (by decide) ?_
    exact w_wide (u2 := 1) (w2 := 6) (by decide) (by decide) (w_iret F dL_ring_16 rfl)
  · rcases j with _ | j
    · cases hj
      refine w_cVx (pre := []) (x := ⟨0, 9, 12, 13⟩) (suf := []) (tgt := 12) (As := [.int p1]) (rest := [.int 0, .ref (gA G 23)]) F (c_X6_ring F.st F.gg p1 M _ h) dL_ring_4 ml_L_95 yv_X6_ring (rfl : kd 0 = 0) (by decide) rfl rfl ⟨by decide, by decide⟩ ⟨by decide, by decide⟩ rfl (Nat.le_of_ble_eq_true rfl) (by rw [ht]; rfl) (fun z hz => by cases hz) (by decide) (by decide) cl_L_13 cs_exA rfl (fun q => ?_)
      refine w_astore_n (ls' := [(3, .ref q), (0, .ref (gA G 0)), (1, .int p1), (2, .ref (gA G 23))]) F dL_ring_12 rfl (by decide) rfl ?_
      refine w_iconst F dL_ring_13 (v := nI (0 + 1)) (by decide) ?_
      exact w_iret F dL_ring_14 rfl
    · cases hj
