/-! ===== the law's body ===== -/
set_option maxRecDepth 100000 in
set_option maxHeartbeats 4000000 in
theorem v_407 {G : GM} {p : Program} {l : Launch} {e : Env} {s : State} {m : MethodId} {args : Array Value} {below : List Frame} {meth : Method} {c : Code} {ret : Option FieldType} {Q : State → Prop} {b L : Nat} {xs : Nat → Int32} {M : Mem} {F9 : Nat → Int32} {k n : Nat} {Sv : Nat → Nat → Int32} {B : Nat → Int32} {u w N : Nat} {P z y5 : Int32} (F : Fy G p l s m args meth c cL_law RL 10 ret) (S : Sx G b L xs s) (hL : L ≤ 260) (HE : ∀ (u w : Nat) (ls : List (Nat × Value)) (M : Mem), u ≤ 600104 → w ≤ 7301314 → Rw G p l e room_1 s m args below meth c 10 u w Q 492 ls [] M) (hX : JX M F9 n Sv 0 B) (hS : SI F9 k) (hk1 : 1 ≤ k) (hk5 : k ≤ 5) (hu : u + 10 ≤ 600104) (hw : w + 60 ≤ 7301314) : Rw G p l e room_1 s m args below meth c 10 u w Q 407 [(5, .int y5), (4, .int P), (3, .int (nI N)), (2, .int z), (1, .ref (gA G 0)), (0, .ref b)] [] M := by
  have hk := hS.1
  have a1 : f_L_addTown (nI 201) M = some (-901, M) := by
    unfold f_L_addTown
    rw [y_addA (nI 201) (by decide)]
    rfl
  have a2 : f_L_addTown (-1) M = some (-901, M) := by
    unfold f_L_addTown
    rw [y_addA (-1) (by decide)]
    rfl
  obtain ⟨M1, e1, x1⟩ := y_learnA hX hS (show 0 < k by omega)
  have a3 : f_L_learn (nI 0) M = some (-901, M1) := by
    unfold f_L_learn
    rw [e1]
    rfl
  have a4 : f_L_learn (nI 6) M1 = some (-903, M1) := by
    unfold f_L_learn
    rw [y_learnI x1 hS (by
      cases q : inb (nI 6) k with
      | false => rfl
      | true =>
        obtain ⟨j, hj, ej⟩ := inb_ex (show k < 2 ^ 31 by omega) q
        have := (nI_eq (by omega) (by omega)).mp ej
        omega)]
    rfl
  have a5 : f_L_set (nI 3) (nI 0) M1 = some (-903, M1) := by
    unfold f_L_set
    rw [y_set0]
    rfl
  have a6 : f_L_file (nI 0) (nI 12) M1 = some (-903, M1) := by
    unfold f_L_file
    rw [y_file0 x1 hS (show 0 < k by omega)]
    rfl
  have a7 : f_L_turn (nI 0) (nI 24) M1 = some (-901, M1) := by
    unfold f_L_turn
    rw [y_turn0 x1 hS (show 0 < k by omega) (by decide)]
    rfl
  refine w_aload_n F 4 dL_law_407 rfl rfl ?_
  refine w_sipush F dL_law_408 (v := nI 201) (by decide) ?_
  refine w_cSW (v := (-901 : Int32)) (n := 2) (As := [.ref (gA G 0), .int (nI 201)]) (rest := []) F (m_L_addTown F.st F.gg ((nI 201)) a1) dL_law_411 ml_L_125 sc_L_addTown ini_L cw_L_addTown ⟨by decide, by decide, by decide +kernel⟩ rfl ⟨rfl, rfl⟩ ⟨by decide, by decide⟩ ⟨(by omega : u + 1 ≤ 600104), (by omega : w + 6 ≤ 7301314)⟩ rfl (Nat.le_of_ble_eq_true rfl) ?_
  refine w_sipush F dL_law_414 (v := (-901 : Int32)) (by decide) ?_
  refine w_icmp_neF (tgt := 496) F dL_law_417 (by decide) (rfl) ?_
  refine w_aload_n F 4 dL_law_420 rfl rfl ?_
  refine w_iconst F dL_law_421 (v := (-1 : Int32)) (by decide) ?_
  refine w_cSW (v := (-901 : Int32)) (n := 2) (As := [.ref (gA G 0), .int (-1 : Int32)]) (rest := []) F (m_L_addTown F.st F.gg ((-1 : Int32)) a2) dL_law_422 ml_L_125 sc_L_addTown ini_L cw_L_addTown ⟨by decide, by decide, by decide +kernel⟩ rfl ⟨rfl, rfl⟩ ⟨by decide, by decide⟩ ⟨(by omega : u + 1 + 1 ≤ 600104), (by omega : w + 6 + 6 ≤ 7301314)⟩ rfl (Nat.le_of_ble_eq_true rfl) ?_
  refine w_sipush F dL_law_425 (v := (-901 : Int32)) (by decide) ?_
  refine w_icmp_neF (tgt := 496) F dL_law_428 (by decide) (rfl) ?_
  refine w_aload_n F 4 dL_law_431 rfl rfl ?_
  refine w_iconst F dL_law_432 (v := nI 0) (by decide) ?_
  refine w_cSW (v := (-901 : Int32)) (n := 2) (As := [.ref (gA G 0), .int (nI 0)]) (rest := []) F (m_L_learn F.st F.gg ((nI 0)) a3) dL_law_433 ml_L_131 sc_L_learn ini_L cw_L_learn ⟨by decide, by decide, by decide +kernel⟩ rfl ⟨rfl, rfl⟩ ⟨by decide, by decide⟩ ⟨(by omega : u + 1 + 1 + 1 ≤ 600104), (by omega : w + 6 + 6 + 6 ≤ 7301314)⟩ rfl (Nat.le_of_ble_eq_true rfl) ?_
  refine w_sipush F dL_law_436 (v := (-901 : Int32)) (by decide) ?_
  refine w_icmp_neF (tgt := 496) F dL_law_439 (by decide) (rfl) ?_
  refine w_aload_n F 4 dL_law_442 rfl rfl ?_
  refine w_bipush F dL_law_443 (v := nI 6) (by decide) ?_
  refine w_cSW (v := (-903 : Int32)) (n := 2) (As := [.ref (gA G 0), .int (nI 6)]) (rest := []) F (m_L_learn F.st F.gg ((nI 6)) a4) dL_law_445 ml_L_131 sc_L_learn ini_L cw_L_learn ⟨by decide, by decide, by decide +kernel⟩ rfl ⟨rfl, rfl⟩ ⟨by decide, by decide⟩ ⟨(by omega : u + 1 + 1 + 1 + 1 ≤ 600104), (by omega : w + 6 + 6 + 6 + 6 ≤ 7301314)⟩ rfl (Nat.le_of_ble_eq_true rfl) ?_
  refine w_sipush F dL_law_448 (v := (-903 : Int32)) (by decide) ?_
  refine w_icmp_neF (tgt := 496) F dL_law_451 (by decide) (rfl) ?_
  refine w_aload_n F 4 dL_law_454 rfl rfl ?_
  refine w_iconst F dL_law_455 (v := nI 3) (by decide) ?_
  refine w_iconst F dL_law_456 (v := nI 0) (by decide) ?_
  refine w_cSW (v := (-903 : Int32)) (n := 3) (As := [.ref (gA G 0), .int (nI 3), .int (nI 0)]) (rest := []) F (m_L_set F.st F.gg ((nI 3)) ((nI 0)) a5) dL_law_457 ml_L_83 sc_L_set ini_L cw_L_set ⟨by decide, by decide, by decide +kernel⟩ rfl ⟨rfl, rfl⟩ ⟨by decide, by decide⟩ ⟨(by omega : u + 1 + 1 + 1 + 1 + 1 ≤ 600104), (by omega : w + 6 + 6 + 6 + 6 + 6 ≤ 7301314)⟩ rfl (Nat.le_of_ble_eq_true rfl) ?_
  refine w_sipush F dL_law_460 (v := (-903 : Int32)) (by decide) ?_
  refine w_icmp_neF (tgt := 496) F dL_law_463 (by decide) (rfl) ?_
  refine w_aload_n F 4 dL_law_466 rfl rfl ?_
  refine w_iconst F dL_law_467 (v := nI 0) (by decide) ?_
  refine w_bipush F dL_law_468 (v := nI 12) (by decide) ?_
  refine w_cSW (v := (-903 : Int32)) (n := 3) (As := [.ref (gA G 0), .int (nI 0), .int (nI 12)]) (rest := []) F (m_L_file F.st F.gg ((nI 0)) ((nI 12)) a6) dL_law_470 ml_L_77 sc_L_file ini_L cw_L_file ⟨by decide, by decide, by decide +kernel⟩ rfl ⟨rfl, rfl⟩ ⟨by decide, by decide⟩ ⟨(by omega : u + 1 + 1 + 1 + 1 + 1 + 1 ≤ 600104), (by omega : w + 6 + 6 + 6 + 6 + 6 + 6 ≤ 7301314)⟩ rfl (Nat.le_of_ble_eq_true rfl) ?_
  refine w_sipush F dL_law_473 (v := (-903 : Int32)) (by decide) ?_
  refine w_icmp_neF (tgt := 496) F dL_law_476 (by decide) (rfl) ?_
  refine w_aload_n F 4 dL_law_479 rfl rfl ?_
  refine w_iconst F dL_law_480 (v := nI 0) (by decide) ?_
  refine w_bipush F dL_law_481 (v := nI 24) (by decide) ?_
  refine w_cSW (v := (-901 : Int32)) (n := 3) (As := [.ref (gA G 0), .int (nI 0), .int (nI 24)]) (rest := []) F (m_L_turn F.st F.gg ((nI 0)) ((nI 24)) a7) dL_law_483 ml_L_72 sc_L_turn ini_L cw_L_turn ⟨by decide, by decide, by decide +kernel⟩ rfl ⟨rfl, rfl⟩ ⟨by decide, by decide⟩ ⟨(by omega : u + 1 + 1 + 1 + 1 + 1 + 1 + 1 ≤ 600104), (by omega : w + 6 + 6 + 6 + 6 + 6 + 6 + 6 ≤ 7301314)⟩ rfl (Nat.le_of_ble_eq_true rfl) ?_
  refine w_sipush F dL_law_486 (v := (-901 : Int32)) (by decide) ?_
  refine w_icmp_neF (tgt := 496) F dL_law_489 (by decide) (rfl) ?_
  exact HE _ _ _ _ (by omega) (by omega)
set_option maxRecDepth 100000 in
set_option maxHeartbeats 4000000 in
theorem v_356 {G : GM} {p : Program} {l : Launch} {e : Env} {s : State} {m : MethodId} {args : Array Value} {below : List Frame} {meth : Method} {c : Code} {ret : Option FieldType} {Q : State → Prop} {b L : Nat} {xs : Nat → Int32} {M : Mem} {F9 : Nat → Int32} {m9 n : Nat} {Sv : Nat → Nat → Int32} {B : Nat → Int32} {u w N : Nat} {P z : Int32} (F : Fy G p l s m args meth c cL_law RL 10 ret) (S : Sx G b L xs s) (hL : L ≤ 260) (HE : ∀ (u w : Nat) (ls : List (Nat × Value)) (M : Mem), u ≤ 600104 → w ≤ 7301314 → Rw G p l e room_1 s m args below meth c 10 u w Q 492 ls [] M) (hX : JX M F9 n Sv 0 B) (hI : Iv F9 N m9) (hk1 : 1 ≤ N) (hk5 : N ≤ 4) (hu : u + 20 ≤ 600104) (hw : w + 120 ≤ 7301314) : Rw G p l e room_1 s m args below meth c 10 u w Q 356 [(5, .int (nI 24)), (4, .int P), (3, .int (nI N)), (2, .int z), (1, .ref (gA G 0)), (0, .ref b)] [] M := by
  have hk := hI.1.1
  by_cases q : nI 200 ≤ F9 422
  · obtain ⟨M1, e1, x1, s1⟩ := y_add1 hX hI.1 (show 200 ≤ 200 by omega) (by omega) q
    have a1 : f_L_addTown (nI 200) M = some (nI N, M1) := by
      unfold f_L_addTown
      rw [e1]
      rfl
    refine w_aload_n F 4 dL_law_356 rfl rfl ?_
    refine w_sipush F dL_law_357 (v := nI 200) (by decide) ?_
    refine w_cSW (v := nI N) (n := 2) (As := [.ref (gA G 0), .int (nI 200)]) (rest := []) F (m_L_addTown F.st F.gg ((nI 200)) a1) dL_law_360 ml_L_125 sc_L_addTown ini_L cw_L_addTown ⟨by decide, by decide, by decide +kernel⟩ rfl ⟨rfl, rfl⟩ ⟨by decide, by decide⟩ ⟨(by omega : u + 1 ≤ 600104), (by omega : w + 6 ≤ 7301314)⟩ rfl (Nat.le_of_ble_eq_true rfl) ?_
    refine w_istore (ls' := [(5, .int (nI N)), (4, .int P), (3, .int (nI N)), (2, .int z), (1, .ref (gA G 0)), (0, .ref b)]) F dL_law_363 (by decide) rfl ?_
    refine w_iload_n F 2 dL_law_365 rfl rfl ?_
    refine w_bipush F dL_law_366 (v := nI 6) (by decide) ?_
    refine w_icmp_geF (tgt := 399) F dL_law_368 (by decide) (show ¬ nI 6 ≤ nI N by rw [nI_leI (by omega) (by omega)]; omega) ?_
    refine w_iload F 0 dL_law_371 rfl ?_
    refine w_iload_n F 2 dL_law_373 rfl rfl ?_
    refine w_icmp_eqT (tgt := 407) F dL_law_374 (by decide) (rfl) ?_
    exact v_407 F S hL HE x1 s1 (by omega) (by omega) (by omega) (by omega)
  · have e1 := y_add0 hX hI.1 (show 200 ≤ 200 by omega) (fun h => q h.2)
    have a1 : f_L_addTown (nI 200) M = some (-902, M) := by
      unfold f_L_addTown
      rw [e1]
      rfl
    refine w_aload_n F 4 dL_law_356 rfl rfl ?_
    refine w_sipush F dL_law_357 (v := nI 200) (by decide) ?_
    refine w_cSW (v := (-902 : Int32)) (n := 2) (As := [.ref (gA G 0), .int (nI 200)]) (rest := []) F (m_L_addTown F.st F.gg ((nI 200)) a1) dL_law_360 ml_L_125 sc_L_addTown ini_L cw_L_addTown ⟨by decide, by decide, by decide +kernel⟩ rfl ⟨rfl, rfl⟩ ⟨by decide, by decide⟩ ⟨(by omega : u + 1 ≤ 600104), (by omega : w + 6 ≤ 7301314)⟩ rfl (Nat.le_of_ble_eq_true rfl) ?_
    refine w_istore (ls' := [(5, .int ((-902 : Int32))), (4, .int P), (3, .int (nI N)), (2, .int z), (1, .ref (gA G 0)), (0, .ref b)]) F dL_law_363 (by decide) rfl ?_
    refine w_iload_n F 2 dL_law_365 rfl rfl ?_
    refine w_bipush F dL_law_366 (v := nI 6) (by decide) ?_
    refine w_icmp_geF (tgt := 399) F dL_law_368 (by decide) (show ¬ nI 6 ≤ nI N by rw [nI_leI (by omega) (by omega)]; omega) ?_
    refine w_iload F 0 dL_law_371 rfl ?_
    refine w_iload_n F 2 dL_law_373 rfl rfl ?_
    refine w_icmp_eqF (tgt := 407) F dL_law_374 (by decide) (fun h => absurd (h ▸ (show ((-902 : Int32)) < 0 by decide) : nI N < 0) (nI_pos (by omega))) ?_
    refine w_aload_n F 4 dL_law_377 rfl rfl ?_
    refine w_iconst F dL_law_378 (v := nI 2) (by decide) ?_
    refine w_cV (v := some (.int (F9 422))) (As := [.int (nI 2)]) (rest := []) F (c_X6_setting F.st F.gg ((nI 2)) M _ (q_set2 hX)) dL_law_379 ml_L_151 yv_X6_setting (rfl : kd 0 = 0) (by decide) rfl rfl ⟨by decide, by decide⟩ ⟨(by omega : u + 1 ≤ 600104), (by omega : w + 6 ≤ 7301314)⟩ rfl (Nat.le_of_ble_eq_true rfl) ?_
    refine w_sipush F dL_law_382 (v := nI 200) (by decide) ?_
    refine w_icmp_geF (tgt := 496) F dL_law_385 (by decide) (q) ?_
    refine w_iload F 0 dL_law_388 rfl ?_
    refine w_sipush F dL_law_390 (v := (-902 : Int32)) (by decide) ?_
    refine w_icmp_neF (tgt := 496) F dL_law_393 (by decide) (rfl) ?_
    refine w_goto (tgt := 407) F dL_law_396 (by decide) ?_
    exact v_407 F S hL HE hX hI.1 (by omega) (by omega) (by omega) (by omega)
set_option maxRecDepth 100000 in
set_option maxHeartbeats 4000000 in
theorem v_271 {G : GM} {p : Program} {l : Launch} {e : Env} {s : State} {m : MethodId} {args : Array Value} {below : List Frame} {meth : Method} {c : Code} {ret : Option FieldType} {Q : State → Prop} {b L : Nat} {xs : Nat → Int32} {M : Mem} {F9 : Nat → Int32} {m9 n : Nat} {Sv : Nat → Nat → Int32} {B : Nat → Int32} {u w t N : Nat} {P z y : Int32} (F : Fy G p l s m args meth c cL_law RL 10 ret) (S : Sx G b L xs s) (hL : L ≤ 260) (hX : JX M F9 n Sv 0 B) (hI : Iv F9 N m9) (hm : m9 ≤ 90) (hP : totF F9 N = P) (hk1 : 1 ≤ N) (hk5 : N ≤ 4) (hu : u ≤ 600104) (hw : w ≤ 7301314) (K : ∀ (M1 : Mem) (n1 : Nat) (Sv1 : Nat → Nat → Int32), JX M1 F9 n1 Sv1 0 B → Rw G p l e room_1 s m args below meth c 10 u w Q 175 [(5, .int (nI (t + 1))), (4, .int P), (3, .int (nI N)), (2, .int z), (1, .ref (gA G 0)), (0, .ref b)] [] M1) : Rw G p l e room_1 s m args below meth c 10 u w Q 271 [(6, .int y), (5, .int (nI t)), (4, .int P), (3, .int (nI N)), (2, .int z), (1, .ref (gA G 0)), (0, .ref b)] [] M := by
  have hk := hI.1.1
  refine w_aload_n F 5 dL_law_271 rfl rfl ?_
  refine w_iconst F dL_law_272 (v := nI 1) (by decide) ?_
  refine w_cV (v := some (.int (totF F9 N))) (As := [.int (nI 1)]) (rest := []) F (c_X6_count F.st F.gg ((nI 1)) M _ (q_c1 hX hI.1)) dL_law_273 ml_L_53 yv_X6_count (rfl : kd 0 = 0) (by decide) rfl rfl ⟨by decide, by decide⟩ ⟨(by omega : u ≤ 600104), (by omega : w ≤ 7301314)⟩ rfl (Nat.le_of_ble_eq_true rfl) ?_
  refine w_iload F 2 dL_law_276 rfl ?_
  refine w_icmp_neF (tgt := 348) F dL_law_278 (by decide) (hP) ?_
  refine w_iload F 1 dL_law_281 rfl ?_
  refine w_bipush F dL_law_283 (v := nI 6) (by decide) ?_
  refine w_irem F dL_law_285 (by decide) ?_
  refine w_iconst F dL_law_286 (v := nI 5) (by decide) ?_
  by_cases q : nI t - nI t / nI 6 * nI 6 = nI 5
  · refine w_icmp_neF (tgt := 350) F dL_law_287 (by decide) (q) ?_
    obtain ⟨M1, p1, x1⟩ := l_sound hX hI
    refine w_aload_n F 5 dL_law_290 rfl rfl ?_
    refine w_cS (v := some (.int (nI 1))) (As := [.ref (gA G 0)]) (rest := []) F (c_L_isSound F.st F.gg  M _ p1) dL_law_291 ml_L_136 ys_L_isSound rfl ⟨by decide, by decide⟩ ⟨(by omega : u ≤ 600104), (by omega : w ≤ 7301314)⟩ rfl (Nat.le_of_ble_eq_true rfl) ?_
    refine w_if_eqF (tgt := 348) F dL_law_294 (by decide) (show ¬ nI 1 = 0 by decide) ?_
    obtain ⟨j2, hj2, ej2⟩ := low_ex (y >>> (nI 3 &&& 31)) (show 0 < N by omega) (show N < 2 ^ 31 by omega)
    obtain ⟨M2, n2, Sv2, p2, x2, hn2⟩ := l_played x1 hI hm hj2
    refine w_aload_n F 5 dL_law_297 rfl rfl ?_
    refine w_iload F 0 dL_law_298 rfl ?_
    refine w_iconst F dL_law_300 (v := nI 3) (by decide) ?_
    refine w_ishr F dL_law_301 ?_
    refine w_iload_n F 3 dL_law_302 rfl rfl ?_
    refine w_cS (v := some (.int (nI j2))) (As := [.int (y >>> ((nI 3) &&& 31)), .int (nI N)]) (rest := [.ref (gA G 0)]) F (c_L_low F.st F.gg ((y >>> ((nI 3) &&& 31))) ((nI N)) M1 _ (ej2 M1)) dL_law_303 ml_L_56 ys_L_low rfl ⟨by decide, by decide⟩ ⟨(by omega : u ≤ 600104), (by omega : w ≤ 7301314)⟩ rfl (Nat.le_of_ble_eq_true rfl) ?_
    refine w_cS (v := some (.int (nI 1))) (As := [.ref (gA G 0), .int (nI j2)]) (rest := []) F (c_L_isPlayed F.st F.gg ((nI j2)) M1 _ p2) dL_law_306 ml_L_140 ys_L_isPlayed rfl ⟨by decide, by decide⟩ ⟨(by omega : u ≤ 600104), (by omega : w ≤ 7301314)⟩ rfl (Nat.le_of_ble_eq_true rfl) ?_
    refine w_if_eqF (tgt := 348) F dL_law_309 (by decide) (show ¬ nI 1 = 0 by decide) ?_
    obtain ⟨j3, hj3, ej3⟩ := low_ex (y >>> (nI 5 &&& 31)) (show 0 < N by omega) (show N < 2 ^ 31 by omega)
    obtain ⟨M3, Sv3, p3, x3⟩ := l_settled x2 hI hm hn2 hj3
    refine w_aload_n F 5 dL_law_312 rfl rfl ?_
    refine w_iload F 0 dL_law_313 rfl ?_
    refine w_iconst F dL_law_315 (v := nI 5) (by decide) ?_
    refine w_ishr F dL_law_316 ?_
    refine w_iload_n F 3 dL_law_317 rfl rfl ?_
    refine w_cS (v := some (.int (nI j3))) (As := [.int (y >>> ((nI 5) &&& 31)), .int (nI N)]) (rest := [.ref (gA G 0)]) F (c_L_low F.st F.gg ((y >>> ((nI 5) &&& 31))) ((nI N)) M2 _ (ej3 M2)) dL_law_318 ml_L_56 ys_L_low rfl ⟨by decide, by decide⟩ ⟨(by omega : u ≤ 600104), (by omega : w ≤ 7301314)⟩ rfl (Nat.le_of_ble_eq_true rfl) ?_
    refine w_cS (v := some (.int (nI 1))) (As := [.ref (gA G 0), .int (nI j3)]) (rest := []) F (c_L_isSettled F.st F.gg ((nI j3)) M2 _ p3) dL_law_321 ml_L_144 ys_L_isSettled rfl ⟨by decide, by decide⟩ ⟨(by omega : u ≤ 600104), (by omega : w ≤ 7301314)⟩ rfl (Nat.le_of_ble_eq_true rfl) ?_
    refine w_if_eqF (tgt := 348) F dL_law_324 (by decide) (show ¬ nI 1 = 0 by decide) ?_
    obtain ⟨j4, hj4, ej4⟩ := low_ex (y >>> (nI 9 &&& 31)) (show 0 < N by omega) (show N < 2 ^ 31 by omega)
    obtain ⟨M4, Sv4, p4, x4⟩ := l_best x3 hI hn2 (Nat.zero_le 60) hj4 (y >>> (nI 11 &&& 31))
    refine w_aload_n F 5 dL_law_327 rfl rfl ?_
    refine w_iload F 0 dL_law_328 rfl ?_
    refine w_bipush F dL_law_330 (v := nI 9) (by decide) ?_
    refine w_ishr F dL_law_332 ?_
    refine w_iload_n F 3 dL_law_333 rfl rfl ?_
    refine w_cS (v := some (.int (nI j4))) (As := [.int (y >>> ((nI 9) &&& 31)), .int (nI N)]) (rest := [.ref (gA G 0)]) F (c_L_low F.st F.gg ((y >>> ((nI 9) &&& 31))) ((nI N)) M3 _ (ej4 M3)) dL_law_334 ml_L_56 ys_L_low rfl ⟨by decide, by decide⟩ ⟨(by omega : u ≤ 600104), (by omega : w ≤ 7301314)⟩ rfl (Nat.le_of_ble_eq_true rfl) ?_
    refine w_iload F 0 dL_law_337 rfl ?_
    refine w_bipush F dL_law_339 (v := nI 11) (by decide) ?_
    refine w_ishr F dL_law_341 ?_
    refine w_cS (v := some (.int (nI 1))) (As := [.ref (gA G 0), .int (nI j4), .int (y >>> ((nI 11) &&& 31))]) (rest := []) F (c_L_isBest F.st F.gg ((nI j4)) ((y >>> ((nI 11) &&& 31))) M3 _ p4) dL_law_342 ml_L_147 ys_L_isBest rfl ⟨by decide, by decide⟩ ⟨(by omega : u ≤ 600104), (by omega : w ≤ 7301314)⟩ rfl (Nat.le_of_ble_eq_true rfl) ?_
    refine w_if_neT (tgt := 350) F dL_law_345 (by decide) (show ¬ nI 1 = 0 by decide) ?_
    refine w_iinc (v := nI (t + 1)) (k := 1) (ls' := [(5, .int (nI (t + 1))), (6, .int y), (4, .int P), (3, .int (nI N)), (2, .int z), (1, .ref (gA G 0)), (0, .ref b)]) F dL_law_350 rfl (by rw [show Int32.ofInt 1 = nI 1 from rfl, nI_add]) (by decide) rfl ?_
    refine w_goto (tgt := 175) F dL_law_353 (by decide) ?_
    refine w_sub [0, 2, 3, 4, 5, 6] rfl ?_
    exact K M4 n2 Sv4 x4
  · refine w_icmp_neT (tgt := 350) F dL_law_287 (by decide) (q) ?_
    refine w_iinc (v := nI (t + 1)) (k := 1) (ls' := [(5, .int (nI (t + 1))), (6, .int y), (4, .int P), (3, .int (nI N)), (2, .int z), (1, .ref (gA G 0)), (0, .ref b)]) F dL_law_350 rfl (by rw [show Int32.ofInt 1 = nI 1 from rfl, nI_add]) (by decide) rfl ?_
    refine w_goto (tgt := 175) F dL_law_353 (by decide) ?_
    refine w_sub [0, 2, 3, 4, 5, 6] rfl ?_
    exact K M n Sv hX
set_option maxRecDepth 100000 in
set_option maxHeartbeats 4000000 in
theorem v_175 {G : GM} {p : Program} {l : Launch} {e : Env} {s : State} {m : MethodId} {args : Array Value} {below : List Frame} {meth : Method} {c : Code} {ret : Option FieldType} {Q : State → Prop} {b L : Nat} {xs : Nat → Int32} {M : Mem} {F9 : Nat → Int32} {m9 n : Nat} {Sv : Nat → Nat → Int32} {B : Nat → Int32} {u w t N : Nat} {P z : Int32} (F : Fy G p l s m args meth c cL_law RL 10 ret) (S : Sx G b L xs s) (hL : L ≤ 260) (hX : JX M F9 n Sv 0 B) (hI : Iv F9 N m9) (hm : m9 ≤ 80) (ht : t < 24) (hP : totF F9 N = P) (hk1 : 1 ≤ N) (hk5 : N ≤ 4) (hu : u + 10 ≤ 600104) (hw : w + 60 ≤ 7301314) (K : ∀ (M1 : Mem) (F1 : Nat → Int32) (n1 : Nat) (Sv1 : Nat → Nat → Int32), JX M1 F1 n1 Sv1 0 B → Iv F1 N (m9 + 1) → totF F1 N = P → Rw G p l e room_1 s m args below meth c 10 (u + 1) (w + 6) Q 175 [(5, .int (nI (t + 1))), (4, .int P), (3, .int (nI N)), (2, .int z), (1, .ref (gA G 0)), (0, .ref b)] [] M1) : Rw G p l e room_1 s m args below meth c 10 u w Q 175 [(5, .int (nI t)), (4, .int P), (3, .int (nI N)), (2, .int z), (1, .ref (gA G 0)), (0, .ref b)] [] M := by
  have hk := hI.1.1
  refine w_iload F 0 dL_law_175 rfl ?_
  refine w_bipush F dL_law_177 (v := nI 24) (by decide) ?_
  refine w_icmp_geF (tgt := 356) F dL_law_179 (by decide) (show ¬ nI 24 ≤ nI t by rw [nI_leI (by omega) (by omega)]; omega) ?_
  refine w_aload_n F 5 dL_law_182 rfl rfl ?_
  refine w_iconst F dL_law_183 (v := nI 1) (by decide) ?_
  refine w_iload F 0 dL_law_184 rfl ?_
  refine w_iadd F dL_law_186 ?_
  rw [nI_add 1 t]
  refine w_cK (rest := []) (j := 1 + t) F S hL (by omega) dL_law_187 ml_L_121 ⟨by decide, by decide⟩ ⟨(by omega : u ≤ 600104), (by omega : w ≤ 7301314)⟩ (Nat.le_of_ble_eq_true rfl) ?_
  generalize cellV L xs (1 + t) = y
  obtain ⟨M1, e1, x1⟩ := q_dig hX hI.1 (Nat.zero_le 60)
  refine w_istore (ls' := [(6, .int y), (5, .int (nI t)), (4, .int P), (3, .int (nI N)), (2, .int z), (1, .ref (gA G 0)), (0, .ref b)]) F dL_law_190 (by decide) rfl ?_
  refine w_aload_n F 5 dL_law_192 rfl rfl ?_
  refine w_cV (v := some (.long (dgH F9 N n 0 B))) (As := []) (rest := []) F (c_X6_digest F.st F.gg  M _ e1) dL_law_193 ml_L_113 yv_X6_digest (rfl : kd 0 = 0) (by decide) rfl rfl ⟨by decide, by decide⟩ ⟨(by omega : u ≤ 600104), (by omega : w ≤ 7301314)⟩ rfl (Nat.le_of_ble_eq_true rfl) ?_
  obtain ⟨got, M2, e2, hG⟩ := act_ok x1 hI (by omega) hk1 y
  refine w_lstore (ls' := [(7, .long (dgH F9 N n 0 B)), (6, .int y), (5, .int (nI t)), (4, .int P), (3, .int (nI N)), (2, .int z), (1, .ref (gA G 0)), (0, .ref b)]) F dL_law_196 (by decide) rfl ?_
  refine w_aload_n F 6 dL_law_198 rfl rfl ?_
  refine w_iload F 1 dL_law_199 rfl ?_
  refine w_cA (v := got) (n := 2) (As := [.ref (gA G 0), .int y]) (rest := []) F (m_L_acts F.st F.gg y e2) dL_law_201 ml_L_133 ys_L_acts rfl ⟨rfl, rfl⟩ ⟨by decide, by decide⟩ ⟨(by omega : u + 1 ≤ 600104), (by omega : w + 6 ≤ 7301314)⟩ rfl (Nat.le_of_ble_eq_true rfl) ?_
  refine w_istore (ls' := [(9, .int got), (7, .long (dgH F9 N n 0 B)), (6, .int y), (5, .int (nI t)), (4, .int P), (3, .int (nI N)), (2, .int z), (1, .ref (gA G 0)), (0, .ref b)]) F dL_law_204 (by decide) rfl ?_
  refine w_iload F 0 dL_law_206 rfl ?_
  refine w_sipush F dL_law_208 (v := (-900 : Int32)) (by decide) ?_
  rcases hG with ⟨hg, x2⟩ | ⟨hg, F2, x2, i2, t2⟩
  · refine w_icmp_geF (tgt := 226) F dL_law_211 (by decide) (hg) ?_
    obtain ⟨M3, e3, x3⟩ := q_dig x2 hI.1 (Nat.zero_le 60)
    refine w_aload_n F 7 dL_law_214 rfl rfl ?_
    refine w_cV (v := some (.long (dgH F9 N n 0 B))) (As := []) (rest := []) F (c_X6_digest F.st F.gg  M2 _ e3) dL_law_215 ml_L_113 yv_X6_digest (rfl : kd 0 = 0) (by decide) rfl rfl ⟨by decide, by decide⟩ ⟨(by omega : u + 1 ≤ 600104), (by omega : w + 6 ≤ 7301314)⟩ rfl (Nat.le_of_ble_eq_true rfl) ?_
    refine w_lload F 1 dL_law_218 rfl ?_
    refine w_lcmp F dL_law_220 ?_
    refine w_if_eqT (tgt := 226) F dL_law_221 (by decide) (lcmp0 rfl) ?_
    refine w_iload F 0 dL_law_226 rfl ?_
    refine w_sipush F dL_law_228 (v := (-900 : Int32)) (by decide) ?_
    refine w_icmp_ltT (tgt := 271) F dL_law_231 (by decide) (Int32.not_le.mp hg) ?_
    refine w_sub [2, 3, 4, 5, 6, 7, 8] rfl ?_
    exact v_271 F S hL x3 (hI.le (Nat.le_succ m9)) (by omega) hP hk1 hk5 (by omega) (by omega) (fun M4 n4 Sv4 x4 => K M4 F9 n4 Sv4 x4 (hI.le (Nat.le_succ m9)) hP)
  · refine w_icmp_geT (tgt := 226) F dL_law_211 (by decide) (hg) ?_
    refine w_iload F 0 dL_law_226 rfl ?_
    refine w_sipush F dL_law_228 (v := (-900 : Int32)) (by decide) ?_
    refine w_icmp_ltF (tgt := 271) F dL_law_231 (by decide) (Int32.not_lt.mpr hg) ?_
    refine w_iload F 2 dL_law_234 rfl ?_
    refine w_bipush F dL_law_236 (v := nI 27) (by decide) ?_
    refine w_ishr F dL_law_238 ?_
    refine w_iconst F dL_law_239 (v := nI 3) (by decide) ?_
    refine w_iand F dL_law_240 ?_
    by_cases q : ((y >>> ((nI 27) &&& 31)) &&& (nI 3)) = 0
    · refine w_if_neF (tgt := 271) F dL_law_241 (by decide) (q) ?_
      obtain ⟨M3, e3, x3⟩ := y_undoP (hX.n6) x2
      refine w_aload_n F 7 dL_law_244 rfl rfl ?_
      refine w_cV (v := some (.int (nI (nx n - 1)))) (As := []) (rest := []) F (c_X6_undo F.st F.gg  M2 _ e3) dL_law_245 ml_L_107 yv_X6_undo (rfl : kd 0 = 0) (by decide) rfl rfl ⟨by decide, by decide⟩ ⟨(by omega : u + 1 ≤ 600104), (by omega : w + 6 ≤ 7301314)⟩ rfl (Nat.le_of_ble_eq_true rfl) ?_
      refine w_pop F dL_law_248 rfl ?_
      refine w_aload_n F 7 dL_law_249 rfl rfl ?_
      refine w_bipush F dL_law_250 (v := nI 10) (by decide) ?_
      refine w_cV (v := some (.int (nI (nx n - 1)))) (As := [.int (nI 10)]) (rest := []) F (c_X6_count F.st F.gg ((nI 10)) M3 _ (q_c10 x3 hI.1)) dL_law_252 ml_L_53 yv_X6_count (rfl : kd 0 = 0) (by decide) rfl rfl ⟨by decide, by decide⟩ ⟨(by omega : u + 1 ≤ 600104), (by omega : w + 6 ≤ 7301314)⟩ rfl (Nat.le_of_ble_eq_true rfl) ?_
      refine w_iconst F dL_law_255 (v := nI 5) (by decide) ?_
      refine w_icmp_gtF (tgt := 269) F dL_law_256 (by decide) (show ¬ nI 5 < nI (nx n - 1) by have := nx_b hX.n6; rw [nI_ltI (by omega) (by omega)]; omega) ?_
      refine w_aload_n F 7 dL_law_259 rfl rfl ?_
      refine w_iconst F dL_law_260 (v := nI 1) (by decide) ?_
      refine w_cV (v := some (.int (totF F9 N))) (As := [.int (nI 1)]) (rest := []) F (c_X6_count F.st F.gg ((nI 1)) M3 _ (q_c1 x3 hI.1)) dL_law_261 ml_L_53 yv_X6_count (rfl : kd 0 = 0) (by decide) rfl rfl ⟨by decide, by decide⟩ ⟨(by omega : u + 1 ≤ 600104), (by omega : w + 6 ≤ 7301314)⟩ rfl (Nat.le_of_ble_eq_true rfl) ?_
      refine w_iload F 4 dL_law_264 rfl ?_
      refine w_icmp_eqT (tgt := 271) F dL_law_266 (by decide) (hP) ?_
      refine w_sub [2, 3, 4, 5, 6, 7, 8] rfl ?_
      exact v_271 F S hL x3 (hI.le (Nat.le_succ m9)) (by omega) hP hk1 hk5 (by omega) (by omega) (fun M4 n4 Sv4 x4 => K M4 F9 n4 Sv4 x4 (hI.le (Nat.le_succ m9)) hP)
    · refine w_if_neT (tgt := 271) F dL_law_241 (by decide) (q) ?_
      refine w_sub [2, 3, 4, 5, 6, 7, 8] rfl ?_
      exact v_271 F S hL x2 i2 (by omega) (t2.trans hP) hk1 hk5 (by omega) (by omega) (fun M4 n4 Sv4 x4 => K M4 F2 n4 Sv4 x4 i2 (t2.trans hP))
set_option maxRecDepth 100000 in
set_option maxHeartbeats 4000000 in
theorem v_loop {G : GM} {p : Program} {l : Launch} {e : Env} {s : State} {m : MethodId} {args : Array Value} {below : List Frame} {meth : Method} {c : Code} {ret : Option FieldType} {Q : State → Prop} {b L : Nat} {xs : Nat → Int32} {B : Nat → Int32} {N : Nat} {P z : Int32} (F : Fy G p l s m args meth c cL_law RL 10 ret) (S : Sx G b L xs s) (hL : L ≤ 260) (HE : ∀ (u w : Nat) (ls : List (Nat × Value)) (M : Mem), u ≤ 600104 → w ≤ 7301314 → Rw G p l e room_1 s m args below meth c 10 u w Q 492 ls [] M) (hk1 : 1 ≤ N) (hk5 : N ≤ 4) : ∀ (c9 t u w m9 n : Nat) (M : Mem) (F9 : Nat → Int32) (Sv : Nat → Nat → Int32), t + c9 = 24 → m9 ≤ t + 10 → u + c9 + 40 ≤ 600104 → w + 6 * c9 + 240 ≤ 7301314 → JX M F9 n Sv 0 B → Iv F9 N m9 → totF F9 N = P → Rw G p l e room_1 s m args below meth c 10 u w Q 175 [(5, .int (nI t)), (4, .int P), (3, .int (nI N)), (2, .int z), (1, .ref (gA G 0)), (0, .ref b)] [] M := by
  intro c9
  induction c9 with
  | zero =>
    intro t u w m9 n M F9 Sv h1 h2 h3 h4 hX hI hP
    refine w_iload F 0 dL_law_175 rfl ?_
    refine w_bipush F dL_law_177 (v := nI 24) (by decide) ?_
    refine w_icmp_geT (tgt := 356) F dL_law_179 (by decide) (show nI 24 ≤ nI t by rw [show t = 24 by omega]; exact Int32.le_refl _) ?_
    rw [show t = 24 by omega]
    exact v_356 F S hL HE hX hI hk1 hk5 (by omega) (by omega)
  | succ c9 ih =>
    intro t u w m9 n M F9 Sv h1 h2 h3 h4 hX hI hP
    exact v_175 F S hL hX hI (by omega) (by omega) hP hk1 hk5 (by omega) (by omega) (fun M1 F1 n1 Sv1 x1 i1 t1 => ih (t + 1) (u + 1) (w + 6) (m9 + 1) n1 M1 F1 Sv1 (by omega) (by omega) (by omega) (by omega) x1 i1 t1)
set_option maxRecDepth 100000 in
set_option maxHeartbeats 4000000 in
theorem v_78 {G : GM} {p : Program} {l : Launch} {e : Env} {s : State} {m : MethodId} {args : Array Value} {below : List Frame} {meth : Method} {c : Code} {ret : Option FieldType} {Q : State → Prop} {b L : Nat} {xs : Nat → Int32} {M : Mem} {F9 : Nat → Int32} {n : Nat} {Sv : Nat → Nat → Int32} {B : Nat → Int32} {u w N : Nat} {P z : Int32} (F : Fy G p l s m args meth c cL_law RL 10 ret) (S : Sx G b L xs s) (hL : L ≤ 260) (HE : ∀ (u w : Nat) (ls : List (Nat × Value)) (M : Mem), u ≤ 600104 → w ≤ 7301314 → Rw G p l e room_1 s m args below meth c 10 u w Q 492 ls [] M) (hX : JX M F9 n Sv 0 B) (hI : Iv F9 N 0) (hP : totF F9 N = P) (hk1 : 1 ≤ N) (hk5 : N ≤ 4) (hu : u + 80 ≤ 600104) (hw : w + 480 ≤ 7301314) : Rw G p l e room_1 s m args below meth c 10 u w Q 78 [(5, .int (nI N)), (4, .int P), (3, .int (nI N)), (2, .int z), (1, .ref (gA G 0)), (0, .ref b)] [] M := by
  have hk := hI.1.1
  obtain ⟨j0, hj0, ej0⟩ := low_ex (z >>> (nI 5 &&& 31)) (show 0 < 3 by omega) (show 3 < 2 ^ 31 by omega)
  obtain ⟨j1, hj1, ej1⟩ := low_ex (z >>> (nI 9 &&& 31)) (show 0 < 2 by omega) (show 2 < 2 ^ 31 by omega)
  obtain ⟨j2, hj2, ej2⟩ := low_ex (z >>> (nI 11 &&& 31)) (show 0 < N by omega) (show N < 2 ^ 31 by omega)
  obtain ⟨j3, hj3, ej3⟩ := low_ex (z >>> (nI 14 &&& 31)) (show 0 < 6 by omega) (show 6 < 2 ^ 31 by omega)
  obtain ⟨M1, e1, x1⟩ := y_app (c := 97 + j0) hX (by omega) (by omega) (by omega)
  obtain ⟨M2, e2, x2⟩ := y_app (c := 45) x1 (by omega) (by omega) (by omega)
  obtain ⟨M3, e3, x3⟩ := y_app (c := 40) x2 (by omega) (by omega) (by omega)
  obtain ⟨M4, e4, x4⟩ := y_app (c := 97 + j1) x3 (by omega) (by omega) (by omega)
  obtain ⟨M5, e5, x5⟩ := y_app (c := 99) x4 (by omega) (by omega) (by omega)
  obtain ⟨M6, e6, x6⟩ := y_app (c := 41) x5 (by omega) (by omega) (by omega)
  have er := rn_text (B := va_up (va_up (va_up (va_up (va_up (va_up B 0 (nI (97 + j0))) (0 + 1) (nI 45)) (0 + 1 + 1) (nI 40)) (0 + 1 + 1 + 1) (nI (97 + j1))) (0 + 1 + 1 + 1 + 1) (nI 99)) (0 + 1 + 1 + 1 + 1 + 1) (nI 41)) hj0 hj1 rfl rfl rfl rfl rfl rfl
  obtain ⟨M7, e7, x7, s7⟩ := y_learn1 (σ := lwT j0 j1) x6 hI.1 (by omega) hj2 (by rw [er]) ⟨rfl, by show 0 < 3; omega⟩
  rw [lw_pins hj0 hj1] at e7
  have a7 : f_L_learn (nI j2) M6 = some (nI 3, M7) := by
    unfold f_L_learn
    rw [e7]
    rfl
  obtain ⟨i7, t7⟩ := learn_I hI hj2 s7
  obtain ⟨v8, M8, F8, n8, Sv8, e8, x8, i8, t8⟩ := l_set1 (x := 1 + j3) x7 i7 (by omega) (by omega)
  refine w_aload_n F 4 dL_law_78 rfl rfl ?_
  refine w_bipush F dL_law_79 (v := nI 97) (by decide) ?_
  refine w_iload_n F 3 dL_law_81 rfl rfl ?_
  refine w_iconst F dL_law_82 (v := nI 5) (by decide) ?_
  refine w_ishr F dL_law_83 ?_
  refine w_iconst F dL_law_84 (v := nI 3) (by decide) ?_
  refine w_cS (v := some (.int (nI j0))) (As := [.int (z >>> ((nI 5) &&& 31)), .int (nI 3)]) (rest := [.int (nI 97), .ref (gA G 0)]) F (c_L_low F.st F.gg ((z >>> ((nI 5) &&& 31))) ((nI 3)) M _ (ej0 M)) dL_law_85 ml_L_56 ys_L_low rfl ⟨by decide, by decide⟩ ⟨(by omega : u ≤ 600104), (by omega : w ≤ 7301314)⟩ rfl (Nat.le_of_ble_eq_true rfl) ?_
  refine w_iadd F dL_law_88 ?_
  rw [nI_add 97 j0]
  refine w_cV (v := some (.int (nI (0 + 1)))) (As := [.int (nI (97 + j0))]) (rest := []) F (c_X6_append F.st F.gg ((nI (97 + j0))) M _ e1) dL_law_89 ml_L_128 yv_X6_append (rfl : kd 0 = 0) (by decide) rfl rfl ⟨by decide, by decide⟩ ⟨(by omega : u ≤ 600104), (by omega : w ≤ 7301314)⟩ rfl (Nat.le_of_ble_eq_true rfl) ?_
  refine w_pop F dL_law_92 rfl ?_
  refine w_aload_n F 4 dL_law_93 rfl rfl ?_
  refine w_bipush F dL_law_94 (v := nI 45) (by decide) ?_
  refine w_cV (v := some (.int (nI (0 + 1 + 1)))) (As := [.int (nI 45)]) (rest := []) F (c_X6_append F.st F.gg ((nI 45)) M1 _ e2) dL_law_96 ml_L_128 yv_X6_append (rfl : kd 0 = 0) (by decide) rfl rfl ⟨by decide, by decide⟩ ⟨(by omega : u ≤ 600104), (by omega : w ≤ 7301314)⟩ rfl (Nat.le_of_ble_eq_true rfl) ?_
  refine w_pop F dL_law_99 rfl ?_
  refine w_aload_n F 4 dL_law_100 rfl rfl ?_
  refine w_bipush F dL_law_101 (v := nI 40) (by decide) ?_
  refine w_cV (v := some (.int (nI (0 + 1 + 1 + 1)))) (As := [.int (nI 40)]) (rest := []) F (c_X6_append F.st F.gg ((nI 40)) M2 _ e3) dL_law_103 ml_L_128 yv_X6_append (rfl : kd 0 = 0) (by decide) rfl rfl ⟨by decide, by decide⟩ ⟨(by omega : u ≤ 600104), (by omega : w ≤ 7301314)⟩ rfl (Nat.le_of_ble_eq_true rfl) ?_
  refine w_pop F dL_law_106 rfl ?_
  refine w_aload_n F 4 dL_law_107 rfl rfl ?_
  refine w_bipush F dL_law_108 (v := nI 97) (by decide) ?_
  refine w_iload_n F 3 dL_law_110 rfl rfl ?_
  refine w_bipush F dL_law_111 (v := nI 9) (by decide) ?_
  refine w_ishr F dL_law_113 ?_
  refine w_iconst F dL_law_114 (v := nI 2) (by decide) ?_
  refine w_cS (v := some (.int (nI j1))) (As := [.int (z >>> ((nI 9) &&& 31)), .int (nI 2)]) (rest := [.int (nI 97), .ref (gA G 0)]) F (c_L_low F.st F.gg ((z >>> ((nI 9) &&& 31))) ((nI 2)) M3 _ (ej1 M3)) dL_law_115 ml_L_56 ys_L_low rfl ⟨by decide, by decide⟩ ⟨(by omega : u ≤ 600104), (by omega : w ≤ 7301314)⟩ rfl (Nat.le_of_ble_eq_true rfl) ?_
  refine w_iadd F dL_law_118 ?_
  rw [nI_add 97 j1]
  refine w_cV (v := some (.int (nI (0 + 1 + 1 + 1 + 1)))) (As := [.int (nI (97 + j1))]) (rest := []) F (c_X6_append F.st F.gg ((nI (97 + j1))) M3 _ e4) dL_law_119 ml_L_128 yv_X6_append (rfl : kd 0 = 0) (by decide) rfl rfl ⟨by decide, by decide⟩ ⟨(by omega : u ≤ 600104), (by omega : w ≤ 7301314)⟩ rfl (Nat.le_of_ble_eq_true rfl) ?_
  refine w_pop F dL_law_122 rfl ?_
  refine w_aload_n F 4 dL_law_123 rfl rfl ?_
  refine w_bipush F dL_law_124 (v := nI 99) (by decide) ?_
  refine w_cV (v := some (.int (nI (0 + 1 + 1 + 1 + 1 + 1)))) (As := [.int (nI 99)]) (rest := []) F (c_X6_append F.st F.gg ((nI 99)) M4 _ e5) dL_law_126 ml_L_128 yv_X6_append (rfl : kd 0 = 0) (by decide) rfl rfl ⟨by decide, by decide⟩ ⟨(by omega : u ≤ 600104), (by omega : w ≤ 7301314)⟩ rfl (Nat.le_of_ble_eq_true rfl) ?_
  refine w_pop F dL_law_129 rfl ?_
  refine w_aload_n F 4 dL_law_130 rfl rfl ?_
  refine w_bipush F dL_law_131 (v := nI 41) (by decide) ?_
  refine w_cV (v := some (.int (nI (0 + 1 + 1 + 1 + 1 + 1 + 1)))) (As := [.int (nI 41)]) (rest := []) F (c_X6_append F.st F.gg ((nI 41)) M5 _ e6) dL_law_133 ml_L_128 yv_X6_append (rfl : kd 0 = 0) (by decide) rfl rfl ⟨by decide, by decide⟩ ⟨(by omega : u ≤ 600104), (by omega : w ≤ 7301314)⟩ rfl (Nat.le_of_ble_eq_true rfl) ?_
  refine w_pop F dL_law_136 rfl ?_
  refine w_aload_n F 4 dL_law_137 rfl rfl ?_
  refine w_iload_n F 3 dL_law_138 rfl rfl ?_
  refine w_bipush F dL_law_139 (v := nI 11) (by decide) ?_
  refine w_ishr F dL_law_141 ?_
  refine w_iload_n F 2 dL_law_142 rfl rfl ?_
  refine w_cS (v := some (.int (nI j2))) (As := [.int (z >>> ((nI 11) &&& 31)), .int (nI N)]) (rest := [.ref (gA G 0)]) F (c_L_low F.st F.gg ((z >>> ((nI 11) &&& 31))) ((nI N)) M6 _ (ej2 M6)) dL_law_143 ml_L_56 ys_L_low rfl ⟨by decide, by decide⟩ ⟨(by omega : u ≤ 600104), (by omega : w ≤ 7301314)⟩ rfl (Nat.le_of_ble_eq_true rfl) ?_
  refine w_cSW (v := nI 3) (n := 2) (As := [.ref (gA G 0), .int (nI j2)]) (rest := []) F (m_L_learn F.st F.gg ((nI j2)) a7) dL_law_146 ml_L_131 sc_L_learn ini_L cw_L_learn ⟨by decide, by decide, by decide +kernel⟩ rfl ⟨rfl, rfl⟩ ⟨by decide, by decide⟩ ⟨(by omega : u + 1 ≤ 600104), (by omega : w + 6 ≤ 7301314)⟩ rfl (Nat.le_of_ble_eq_true rfl) ?_
  refine w_iconst F dL_law_149 (v := nI 3) (by decide) ?_
  refine w_icmp_eqT (tgt := 155) F dL_law_150 (by decide) (rfl) ?_
  refine w_aload_n F 4 dL_law_155 rfl rfl ?_
  refine w_iconst F dL_law_156 (v := nI 1) (by decide) ?_
  refine w_iconst F dL_law_157 (v := nI 1) (by decide) ?_
  refine w_iload_n F 3 dL_law_158 rfl rfl ?_
  refine w_bipush F dL_law_159 (v := nI 14) (by decide) ?_
  refine w_ishr F dL_law_161 ?_
  refine w_bipush F dL_law_162 (v := nI 6) (by decide) ?_
  refine w_cS (v := some (.int (nI j3))) (As := [.int (z >>> ((nI 14) &&& 31)), .int (nI 6)]) (rest := [.int (nI 1), .int (nI 1), .ref (gA G 0)]) F (c_L_low F.st F.gg ((z >>> ((nI 14) &&& 31))) ((nI 6)) M7 _ (ej3 M7)) dL_law_164 ml_L_56 ys_L_low rfl ⟨by decide, by decide⟩ ⟨(by omega : u + 1 ≤ 600104), (by omega : w + 6 ≤ 7301314)⟩ rfl (Nat.le_of_ble_eq_true rfl) ?_
  refine w_iadd F dL_law_167 ?_
  rw [nI_add 1 j3]
  refine w_cV (v := some (.int v8)) (As := [.int (nI 1), .int (nI (1 + j3))]) (rest := []) F (c_X6_set F.st F.gg ((nI 1)) ((nI (1 + j3))) M7 _ e8) dL_law_168 ml_L_47 yv_X6_set (rfl : kd 0 = 0) (by decide) rfl rfl ⟨by decide, by decide⟩ ⟨(by omega : u + 1 ≤ 600104), (by omega : w + 6 ≤ 7301314)⟩ rfl (Nat.le_of_ble_eq_true rfl) ?_
  refine w_pop F dL_law_171 rfl ?_
  refine w_iconst F dL_law_172 (v := nI 0) (by decide) ?_
  refine w_istore (ls' := [(5, .int (nI 0)), (4, .int P), (3, .int (nI N)), (2, .int z), (1, .ref (gA G 0)), (0, .ref b)]) F dL_law_173 (by decide) rfl ?_
  exact v_loop F S hL HE hk1 hk5 24 0 _ _ 1 n8 M8 F8 Sv8 rfl (by omega) (by omega) (by omega) x8 i8 ((t8.trans t7).trans hP)
set_option maxRecDepth 100000 in
set_option maxHeartbeats 4000000 in
theorem v_28 {G : GM} {p : Program} {l : Launch} {e : Env} {s : State} {m : MethodId} {args : Array Value} {below : List Frame} {meth : Method} {c : Code} {ret : Option FieldType} {Q : State → Prop} {b L : Nat} {xs : Nat → Int32} {B : Nat → Int32} {N : Nat} {z : Int32} (F : Fy G p l s m args meth c cL_law RL 10 ret) (S : Sx G b L xs s) (hL : L ≤ 260) (HE : ∀ (u w : Nat) (ls : List (Nat × Value)) (M : Mem), u ≤ 600104 → w ≤ 7301314 → Rw G p l e room_1 s m args below meth c 10 u w Q 492 ls [] M) (hk1 : 1 ≤ N) (hk5 : N ≤ 4) : ∀ (c9 t u w n : Nat) (M : Mem) (F9 : Nat → Int32) (Sv : Nat → Nat → Int32) (P : Int32), t + c9 = N → u + c9 + 90 ≤ 600104 → w + 6 * c9 + 540 ≤ 7301314 → JX M F9 n Sv 0 B → Iv F9 t 0 → Zf F9 → F9 422 = nI 200 → totF F9 t = P → Rw G p l e room_1 s m args below meth c 10 u w Q 28 [(5, .int (nI t)), (4, .int P), (3, .int (nI N)), (2, .int z), (1, .ref (gA G 0)), (0, .ref b)] [] M := by
  intro c9
  induction c9 with
  | zero =>
    intro t u w n M F9 Sv P h1 h3 h4 hX hI hZ h2 hP
    refine w_iload F 0 dL_law_28 rfl ?_
    refine w_iload_n F 2 dL_law_30 rfl rfl ?_
    refine w_icmp_geT (tgt := 78) F dL_law_31 (by decide) (show nI N ≤ nI t by rw [show t = N by omega]; exact Int32.le_refl _) ?_
    obtain rfl : t = N := by omega
    exact v_78 F S hL HE hX hI hP hk1 hk5 (by omega) (by omega)
  | succ c9 ih =>
    intro t u w n M F9 Sv P h1 h3 h4 hX hI hZ h2 hP
    refine w_iload F 0 dL_law_28 rfl ?_
    refine w_iload_n F 2 dL_law_30 rfl rfl ?_
    refine w_icmp_geF (tgt := 78) F dL_law_31 (by decide) (show ¬ nI N ≤ nI t by rw [nI_leI (by omega) (by omega)]; omega) ?_
    refine w_bipush F dL_law_34 (v := nI 10) (by decide) ?_
    refine w_iload_n F 3 dL_law_36 rfl rfl ?_
    refine w_iconst F dL_law_37 (v := nI 3) (by decide) ?_
    refine w_iconst F dL_law_38 (v := nI 4) (by decide) ?_
    refine w_iload F 0 dL_law_39 rfl ?_
    refine w_imul F dL_law_41 ?_
    refine w_iadd F dL_law_42 ?_
    refine w_ishr F dL_law_43 ?_
    refine w_bipush F dL_law_44 (v := nI 60) (by decide) ?_
    obtain ⟨j, hj, ej⟩ := low_ex ((z >>> (((nI 3) + ((nI 4) * (nI t))) &&& 31))) (show 0 < 60 by omega) (show 60 < 2 ^ 31 by omega)
    obtain ⟨M1, F1, n1, Sv1, e1, x1, i1, z1, s1, t1⟩ := l_add (a := 10 + j) hX hI hZ (by omega) h2 (by omega)
    refine w_cS (v := some (.int (nI j))) (As := [.int (z >>> (((nI 3) + ((nI 4) * (nI t))) &&& 31)), .int (nI 60)]) (rest := [.int (nI 10)]) F (c_L_low F.st F.gg ((z >>> (((nI 3) + ((nI 4) * (nI t))) &&& 31))) ((nI 60)) M _ (ej M)) dL_law_46 ml_L_56 ys_L_low rfl ⟨by decide, by decide⟩ ⟨(by omega : u ≤ 600104), (by omega : w ≤ 7301314)⟩ rfl (Nat.le_of_ble_eq_true rfl) ?_
    refine w_iadd F dL_law_49 ?_
    rw [nI_add 10 j]
    refine w_istore (ls' := [(6, .int (nI (10 + j))), (5, .int (nI t)), (4, .int P), (3, .int (nI N)), (2, .int z), (1, .ref (gA G 0)), (0, .ref b)]) F dL_law_50 (by decide) rfl ?_
    refine w_iload F 2 dL_law_52 rfl ?_
    refine w_iload F 0 dL_law_54 rfl ?_
    refine w_iadd F dL_law_56 ?_
    refine w_istore (ls' := [(4, .int (P + (nI (10 + j)))), (6, .int (nI (10 + j))), (5, .int (nI t)), (3, .int (nI N)), (2, .int z), (1, .ref (gA G 0)), (0, .ref b)]) F dL_law_57 (by decide) rfl ?_
    refine w_aload_n F 5 dL_law_59 rfl rfl ?_
    refine w_iload F 1 dL_law_60 rfl ?_
    refine w_cSW (v := nI t) (n := 2) (As := [.ref (gA G 0), .int (nI (10 + j))]) (rest := []) F (m_L_addTown F.st F.gg ((nI (10 + j))) e1) dL_law_62 ml_L_125 sc_L_addTown ini_L cw_L_addTown ⟨by decide, by decide, by decide +kernel⟩ rfl ⟨rfl, rfl⟩ ⟨by decide, by decide⟩ ⟨(by omega : u + 1 ≤ 600104), (by omega : w + 6 ≤ 7301314)⟩ rfl (Nat.le_of_ble_eq_true rfl) ?_
    refine w_iload F 2 dL_law_65 rfl ?_
    refine w_icmp_eqT (tgt := 72) F dL_law_67 (by decide) (rfl) ?_
    refine w_iinc (v := nI (t + 1)) (k := 2) (ls' := [(5, .int (nI (t + 1))), (4, .int (P + (nI (10 + j)))), (6, .int (nI (10 + j))), (3, .int (nI N)), (2, .int z), (1, .ref (gA G 0)), (0, .ref b)]) F dL_law_72 rfl (by rw [show Int32.ofInt 1 = nI 1 from rfl, nI_add]) (by decide) rfl ?_
    refine w_goto (tgt := 28) F dL_law_75 (by decide) ?_
    refine w_sub [0, 1, 3, 4, 5, 6] rfl ?_
    exact ih (t + 1) (u + 1) (w + 6) n1 M1 F1 Sv1 (P + nI (10 + j)) (by omega) (by omega) (by omega) x1 i1 z1 s1 (by rw [t1, hP])
set_option maxRecDepth 100000 in
set_option maxHeartbeats 4000000 in
theorem v_8 {G : GM} {p : Program} {l : Launch} {e : Env} {s : State} {m : MethodId} {args : Array Value} {below : List Frame} {meth : Method} {c : Code} {ret : Option FieldType} {Q : State → Prop} {b L : Nat} {xs : Nat → Int32} {M : Mem} {F9 : Nat → Int32} {n : Nat} {Sv : Nat → Nat → Int32} {B : Nat → Int32} {u w : Nat} (F : Fy G p l s m args meth c cL_law RL 10 ret) (S : Sx G b L xs s) (hL : L ≤ 260) (HE : ∀ (u w : Nat) (ls : List (Nat × Value)) (M : Mem), u ≤ 600104 → w ≤ 7301314 → Rw G p l e room_1 s m args below meth c 10 u w Q 492 ls [] M) (hX : JX M F9 n Sv 0 B) (hI : Iv F9 0 0) (hZ : Zf F9) (h2 : F9 422 = nI 200) (hu : u + 100 ≤ 600104) (hw : w + 600 ≤ 7301314) : Rw G p l e room_1 s m args below meth c 10 u w Q 8 [(1, .ref (gA G 0)), (0, .ref b)] [] M := by
  refine w_aload_n F 1 dL_law_8 rfl rfl ?_
  refine w_iconst F dL_law_9 (v := nI 0) (by decide) ?_
  refine w_cK (rest := []) (j := 0) F S hL (by omega) dL_law_10 ml_L_121 ⟨by decide, by decide⟩ ⟨(by omega : u ≤ 600104), (by omega : w ≤ 7301314)⟩ (Nat.le_of_ble_eq_true rfl) ?_
  generalize cellV L xs 0 = z
  obtain ⟨j, hj, ej⟩ := low_ex z (show 0 < 4 by omega) (show 4 < 2 ^ 31 by omega)
  refine w_istore_n (ls' := [(2, .int z), (1, .ref (gA G 0)), (0, .ref b)]) F dL_law_13 rfl (by decide) rfl ?_
  refine w_iconst F dL_law_14 (v := nI 1) (by decide) ?_
  refine w_iload_n F 0 dL_law_15 rfl rfl ?_
  refine w_iconst F dL_law_16 (v := nI 4) (by decide) ?_
  refine w_cS (v := some (.int (nI j))) (As := [.int z, .int (nI 4)]) (rest := [.int (nI 1)]) F (c_L_low F.st F.gg z ((nI 4)) M _ (ej M)) dL_law_17 ml_L_56 ys_L_low rfl ⟨by decide, by decide⟩ ⟨(by omega : u ≤ 600104), (by omega : w ≤ 7301314)⟩ rfl (Nat.le_of_ble_eq_true rfl) ?_
  refine w_iadd F dL_law_20 ?_
  rw [nI_add 1 j]
  refine w_istore_n (ls' := [(3, .int (nI (1 + j))), (2, .int z), (1, .ref (gA G 0)), (0, .ref b)]) F dL_law_21 rfl (by decide) rfl ?_
  refine w_iconst F dL_law_22 (v := nI 0) (by decide) ?_
  refine w_istore (ls' := [(4, .int (nI 0)), (3, .int (nI (1 + j))), (2, .int z), (1, .ref (gA G 0)), (0, .ref b)]) F dL_law_23 (by decide) rfl ?_
  refine w_iconst F dL_law_25 (v := nI 0) (by decide) ?_
  refine w_istore (ls' := [(5, .int (nI 0)), (4, .int (nI 0)), (3, .int (nI (1 + j))), (2, .int z), (1, .ref (gA G 0)), (0, .ref b)]) F dL_law_26 (by decide) rfl ?_
  refine w_sub [0, 1, 2, 3, 4, 5] rfl ?_
  exact v_28 F S hL HE (by omega) (by omega) (1 + j) 0 _ _ n M F9 Sv (nI 0) (by omega) (by omega) (by omega) hX hI hZ h2 rfl
