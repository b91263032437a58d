/-! ===== the law's step ===== -/
set_option maxRecDepth 100000 in
set_option maxHeartbeats 4000000 in
theorem q_step {G : GM} {p : Program} {l : Launch} {e : Env} {s : State} {m : MethodId} {args : Array Value} {below : List Frame} {meth : Method} {c : Code} {ret : Option FieldType} {u9 w9 : Nat} {Q : State → Prop} {b L : Nat} {xs : Nat → Int32} {i : Int32} {M : Mem} (F : Fy G p l s m args meth c cL_law RL 9 ret) (S : Sx G b L xs s) (hin : ∀ j : Nat, j < 5 → vp_in (i + nI j) L) (hJ : Jt M) (hu : u9 + 1 ≤ 601024 ∧ w9 + 6 ≤ 7293034) (K : ∀ M', Jt M' → Rw G p l e room_1 s m args below meth c 9 (u9 + 1) (w9 + 6) Q 1978 [(4, .int i), (0, .ref b), (1, .ref (gA G 0)), (2, .ref (gA G 24)), (3, .ref (gA G 23))] [] M') : Rw G p l e room_1 s m args below meth c 9 u9 w9 Q 32 [(4, .int i), (0, .ref b), (1, .ref (gA G 0)), (2, .ref (gA G 24)), (3, .ref (gA G 23))] [] M := by
  refine w_aload_n F 1 dL_law_32 rfl rfl ?_
  refine w_iload F 0 dL_law_33 rfl ?_
  refine w_sld F S (by have h0 := hin 0 (by decide); rwa [show i + nI 0 = i from by rw [show nI 0 = 0 from rfl, Int32.add_zero]] at h0) dL_law_35 ?_
  refine w_bipush F dL_law_36 (v := 31) (by decide) ?_
  refine w_iand F dL_law_38 ?_
  generalize xs i.toNatClampNeg &&& 31 = x
  by_cases n0 : x = 0
  · exact w_tabIn (tgt := 176) F dL_law_39 n0 (by decide) (by decide) rfl (by decide) (q_L_0 F S hin hJ hu K)
  by_cases n1 : x = 1
  · exact w_tabIn (tgt := 232) F dL_law_39 n1 (by decide) (by decide) rfl (by decide) (q_L_1 F S hin hJ hu K)
  by_cases n2 : x = 2
  · exact w_tabIn (tgt := 300) F dL_law_39 n2 (by decide) (by decide) rfl (by decide) (q_L_2 F S hin hJ hu K)
  by_cases n3 : x = 3
  · exact w_tabIn (tgt := 380) F dL_law_39 n3 (by decide) (by decide) rfl (by decide) (q_L_3 F S hin hJ hu K)
  by_cases n4 : x = 4
  · exact w_tabIn (tgt := 460) F dL_law_39 n4 (by decide) (by decide) rfl (by decide) (q_L_4 F S hin hJ hu K)
  by_cases n5 : x = 5
  · exact w_tabIn (tgt := 552) F dL_law_39 n5 (by decide) (by decide) rfl (by decide) (q_L_5 F S hin hJ hu K)
  by_cases n6 : x = 6
  · exact w_tabIn (tgt := 620) F dL_law_39 n6 (by decide) (by decide) rfl (by decide) (q_L_6 F S hin hJ hu K)
  by_cases n7 : x = 7
  · exact w_tabIn (tgt := 688) F dL_law_39 n7 (by decide) (by decide) rfl (by decide) (q_L_7 F S hin hJ hu K)
  by_cases n8 : x = 8
  · exact w_tabIn (tgt := 756) F dL_law_39 n8 (by decide) (by decide) rfl (by decide) (q_L_8 F S hin hJ hu K)
  by_cases n9 : x = 9
  · exact w_tabIn (tgt := 812) F dL_law_39 n9 (by decide) (by decide) rfl (by decide) (q_L_9 F S hin hJ hu K)
  by_cases n10 : x = 10
  · exact w_tabIn (tgt := 892) F dL_law_39 n10 (by decide) (by decide) rfl (by decide) (q_L_10 F S hin hJ hu K)
  by_cases n11 : x = 11
  · exact w_tabIn (tgt := 972) F dL_law_39 n11 (by decide) (by decide) rfl (by decide) (q_L_11 F S hin hJ hu K)
  by_cases n12 : x = 12
  · exact w_tabIn (tgt := 985) F dL_law_39 n12 (by decide) (by decide) rfl (by decide) (q_L_12 F S hin hJ hu K)
  by_cases n13 : x = 13
  · exact w_tabIn (tgt := 1041) F dL_law_39 n13 (by decide) (by decide) rfl (by decide) (q_L_13 F S hin hJ hu K)
  by_cases n14 : x = 14
  · exact w_tabIn (tgt := 1054) F dL_law_39 n14 (by decide) (by decide) rfl (by decide) (q_L_14 F S hin hJ hu K)
  by_cases n15 : x = 15
  · exact w_tabIn (tgt := 1067) F dL_law_39 n15 (by decide) (by decide) rfl (by decide) (q_L_15 F S hin hJ hu K)
  by_cases n16 : x = 16
  · exact w_tabIn (tgt := 1123) F dL_law_39 n16 (by decide) (by decide) rfl (by decide) (q_L_16 F S hin hJ hu K)
  by_cases n17 : x = 17
  · exact w_tabIn (tgt := 1167) F dL_law_39 n17 (by decide) (by decide) rfl (by decide) (q_L_17 F S hin hJ hu K)
  by_cases n18 : x = 18
  · exact w_tabIn (tgt := 1235) F dL_law_39 n18 (by decide) (by decide) rfl (by decide) (q_L_18 F S hin hJ hu K)
  by_cases n19 : x = 19
  · exact w_tabIn (tgt := 1315) F dL_law_39 n19 (by decide) (by decide) rfl (by decide) (q_L_19 F S hin hJ hu K)
  by_cases n20 : x = 20
  · exact w_tabIn (tgt := 1383) F dL_law_39 n20 (by decide) (by decide) rfl (by decide) (q_L_20 F S hin hJ hu K)
  by_cases n21 : x = 21
  · exact w_tabIn (tgt := 1451) F dL_law_39 n21 (by decide) (by decide) rfl (by decide) (q_L_21 F S hin hJ hu K)
  by_cases n22 : x = 22
  · exact w_tabIn (tgt := 1507) F dL_law_39 n22 (by decide) (by decide) rfl (by decide) (q_L_22 F S hin hJ hu K)
  by_cases n23 : x = 23
  · exact w_tabIn (tgt := 1563) F dL_law_39 n23 (by decide) (by decide) rfl (by decide) (q_L_23 F S hin hJ hu K)
  by_cases n24 : x = 24
  · exact w_tabIn (tgt := 1631) F dL_law_39 n24 (by decide) (by decide) rfl (by decide) (q_L_24 F S hin hJ hu K)
  by_cases n25 : x = 25
  · exact w_tabIn (tgt := 1687) F dL_law_39 n25 (by decide) (by decide) rfl (by decide) (q_L_25 F S hin hJ hu K)
  by_cases n26 : x = 26
  · exact w_tabIn (tgt := 1755) F dL_law_39 n26 (by decide) (by decide) rfl (by decide) (q_L_26 F S hin hJ hu K)
  by_cases n27 : x = 27
  · exact w_tabIn (tgt := 1811) F dL_law_39 n27 (by decide) (by decide) rfl (by decide) (q_L_27 F S hin hJ hu K)
  by_cases n28 : x = 28
  · exact w_tabIn (tgt := 1867) F dL_law_39 n28 (by decide) (by decide) rfl (by decide) (q_L_28 F S hin hJ hu K)
  by_cases n29 : x = 29
  · exact w_tabIn (tgt := 1923) F dL_law_39 n29 (by decide) (by decide) rfl (by decide) (q_L_29 F S hin hJ hu K)
  by_cases n30 : x = 30
  · exact w_tabIn (tgt := 1964) F dL_law_39 n30 (by decide) (by decide) rfl (by decide) (q_L_30 F S hin hJ hu K)
  refine w_tabOut (tgt := 1978) F dL_law_39 (by have e0 := lv_neT (a := 0) n0 (by decide); have e1 := lv_neT (a := 1) n1 (by decide); have e2 := lv_neT (a := 2) n2 (by decide); have e3 := lv_neT (a := 3) n3 (by decide); have e4 := lv_neT (a := 4) n4 (by decide); have e5 := lv_neT (a := 5) n5 (by decide); have e6 := lv_neT (a := 6) n6 (by decide); have e7 := lv_neT (a := 7) n7 (by decide); have e8 := lv_neT (a := 8) n8 (by decide); have e9 := lv_neT (a := 9) n9 (by decide); have e10 := lv_neT (a := 10) n10 (by decide); have e11 := lv_neT (a := 11) n11 (by decide); have e12 := lv_neT (a := 12) n12 (by decide); have e13 := lv_neT (a := 13) n13 (by decide); have e14 := lv_neT (a := 14) n14 (by decide); have e15 := lv_neT (a := 15) n15 (by decide); have e16 := lv_neT (a := 16) n16 (by decide); have e17 := lv_neT (a := 17) n17 (by decide); have e18 := lv_neT (a := 18) n18 (by decide); have e19 := lv_neT (a := 19) n19 (by decide); have e20 := lv_neT (a := 20) n20 (by decide); have e21 := lv_neT (a := 21) n21 (by decide); have e22 := lv_neT (a := 22) n22 (by decide); have e23 := lv_neT (a := 23) n23 (by decide); have e24 := lv_neT (a := 24) n24 (by decide); have e25 := lv_neT (a := 25) n25 (by decide); have e26 := lv_neT (a := 26) n26 (by decide); have e27 := lv_neT (a := 27) n27 (by decide); have e28 := lv_neT (a := 28) n28 (by decide); have e29 := lv_neT (a := 29) n29 (by decide); have e30 := lv_neT (a := 30) n30 (by decide); omega) (by decide) ?_
  exact w_wide (Nat.le_add_right _ _) (Nat.le_add_right _ _) (K M hJ)
