/-! ===== the law's cases ===== -/
set_option maxRecDepth 100000 in
set_option maxHeartbeats 4000000 in
theorem q_L_0 {G : GM} {p : Program} {l : Launch} {e : Env} {s : State} {m : MethodId} {args : Array Value} {below : List Frame} {meth : Method} {c : Code} {ret : Option FieldType} {u9 w9 : Nat} {Q : State → Prop} {b L : Nat} {xs : Nat → Int32} {i : Int32} {M : Mem} (F : Fy G p l s m args meth c cL_law RL 9 ret) (S : Sx G b L xs s) (hin : ∀ j : Nat, j < 5 → vp_in (i + nI j) L) (hJ : Jt M) (hu : u9 + 1 ≤ 601024 ∧ w9 + 6 ≤ 7293034) (K : ∀ M', Jt M' → Rw G p l e room_1 s m args below meth c 9 (u9 + 1) (w9 + 6) Q 1978 [(4, .int i), (0, .ref b), (1, .ref (gA G 0)), (2, .ref (gA G 24)), (3, .ref (gA G 23))] [] M') : Rw G p l e room_1 s m args below meth c 9 u9 w9 Q 176 [(4, .int i), (0, .ref b), (1, .ref (gA G 0)), (2, .ref (gA G 24)), (3, .ref (gA G 23))] [] M := by
  obtain ⟨r, M1, c9, M2, v, M3, hc, hw, hm, hJ3, hc9, hq⟩ := (o_addTown hJ (xs (i + nI 1).toNatClampNeg)).go (by decide)
  refine w_aload_n F 2 dL_law_176 rfl rfl ?_
  refine w_aload_n F 1 dL_law_177 rfl rfl ?_
  refine w_iload F 0 dL_law_178 rfl ?_
  refine w_iconst F dL_law_180 (v := nI 1) (by decide) ?_
  refine w_iadd F dL_law_181 ?_
  refine w_sld F S (hin 1 (by decide)) dL_law_182 ?_
  refine w_aload_n F 4 dL_law_183 rfl rfl ?_
  refine w_cSW (n := 3) (As := [.ref (gA G 0), .int (xs (i + nI 1).toNatClampNeg), .ref (gA G 23)]) (rest := []) F (m_L_addTown F.st F.gg (xs (i + nI 1).toNatClampNeg) hc hw) dL_law_184 ml_L_102 sc_L_addTown ini_L cw_L_addTown ⟨by decide, by decide, by decide +kernel⟩ rfl ⟨rfl, rfl⟩ ⟨by decide, by decide⟩ hu rfl (Nat.le_of_ble_eq_true rfl) ?_
  refine w_istore (ls' := [(5, .int c9), (4, .int i), (0, .ref b), (1, .ref (gA G 0)), (2, .ref (gA G 24)), (3, .ref (gA G 23))]) F dL_law_187 (by decide) rfl ?_
  refine w_aload_n F 4 dL_law_189 rfl rfl ?_
  refine w_aload_n F 2 dL_law_190 rfl rfl ?_
  refine w_iload F 1 dL_law_191 rfl ?_
  refine w_iconst F dL_law_193 (v := nI 1) (by decide) ?_
  refine w_iadd F dL_law_194 ?_
  refine w_sld F S (hin 1 (by decide)) dL_law_195 ?_
  refine w_cV (v := some (.int v)) (As := [.int (xs (i + nI 1).toNatClampNeg)]) (rest := []) F (c_X7_addTown F.st F.gg (xs (i + nI 1).toNatClampNeg) M2 _ hm) dL_law_196 ml_L_107 yv_X7_addTown (rfl : kd 24 = 7) (by decide) rfl rfl ⟨by decide, by decide⟩ hu rfl (Nat.le_of_ble_eq_true rfl) ?_
  refine w_istore (ls' := [(6, .int v), (5, .int c9), (4, .int i), (0, .ref b), (1, .ref (gA G 0)), (2, .ref (gA G 24)), (3, .ref (gA G 23))]) F dL_law_199 (by decide) rfl ?_
  refine w_aload_n F 5 dL_law_201 rfl rfl ?_
  refine w_cV (v := some (.int (M3.1 24 2))) (As := []) (rest := []) F (c_X7_thrown F.st F.gg M3 _ th_ok) dL_law_202 ml_L_108 yv_X7_thrown (rfl : kd 24 = 7) (by decide) rfl rfl ⟨by decide, by decide⟩ hu rfl (Nat.le_of_ble_eq_true rfl) ?_
  refine w_iload F 1 dL_law_205 rfl ?_
  refine w_icmp_eq (tgt := 212) F dL_law_207 (by decide) hc9 ?_
  refine w_iload F 1 dL_law_212 rfl ?_
  refine w_if_ne (tgt := 229) F dL_law_214 (by decide) (fun h0 => ?_) (fun h0 => ?_)
  · skip
    refine w_aload_n F 6 dL_law_217 rfl rfl ?_
    refine w_iconst F dL_law_218 (v := 0) (by decide) ?_
    refine w_lald F dL_law_219 (rfl : kd 23 = 12) (by decide) ?_
    refine w_iload F 0 dL_law_220 rfl ?_
    refine w_i2l F dL_law_222 ?_
    refine w_lcmp F dL_law_223 ?_
    refine w_if_eq (tgt := 229) F dL_law_224 (by decide) (lcmp0 (hq h0)) ?_
    refine w_goto (tgt := 1978) F dL_law_229 (by decide) ?_
    exact w_sub [2, 3, 4, 5, 6] rfl (K M3 hJ3)
  · skip
    refine w_goto (tgt := 1978) F dL_law_229 (by decide) ?_
    exact w_sub [2, 3, 4, 5, 6] rfl (K M3 hJ3)
set_option maxRecDepth 100000 in
set_option maxHeartbeats 4000000 in
theorem q_L_1 {G : GM} {p : Program} {l : Launch} {e : Env} {s : State} {m : MethodId} {args : Array Value} {below : List Frame} {meth : Method} {c : Code} {ret : Option FieldType} {u9 w9 : Nat} {Q : State → Prop} {b L : Nat} {xs : Nat → Int32} {i : Int32} {M : Mem} (F : Fy G p l s m args meth c cL_law RL 9 ret) (S : Sx G b L xs s) (hin : ∀ j : Nat, j < 5 → vp_in (i + nI j) L) (hJ : Jt M) (hu : u9 + 1 ≤ 601024 ∧ w9 + 6 ≤ 7293034) (K : ∀ M', Jt M' → Rw G p l e room_1 s m args below meth c 9 (u9 + 1) (w9 + 6) Q 1978 [(4, .int i), (0, .ref b), (1, .ref (gA G 0)), (2, .ref (gA G 24)), (3, .ref (gA G 23))] [] M') : Rw G p l e room_1 s m args below meth c 9 u9 w9 Q 232 [(4, .int i), (0, .ref b), (1, .ref (gA G 0)), (2, .ref (gA G 24)), (3, .ref (gA G 23))] [] M := by
  obtain ⟨r, M1, c9, M2, v, M3, hc, hw, hm, hJ3, hc9, hq⟩ := (o_set hJ (xs (i + nI 1).toNatClampNeg) (xs (i + nI 2).toNatClampNeg)).go (by decide)
  refine w_aload_n F 2 dL_law_232 rfl rfl ?_
  refine w_aload_n F 1 dL_law_233 rfl rfl ?_
  refine w_iload F 0 dL_law_234 rfl ?_
  refine w_iconst F dL_law_236 (v := nI 1) (by decide) ?_
  refine w_iadd F dL_law_237 ?_
  refine w_sld F S (hin 1 (by decide)) dL_law_238 ?_
  refine w_aload_n F 1 dL_law_239 rfl rfl ?_
  refine w_iload F 0 dL_law_240 rfl ?_
  refine w_iconst F dL_law_242 (v := nI 2) (by decide) ?_
  refine w_iadd F dL_law_243 ?_
  refine w_sld F S (hin 2 (by decide)) dL_law_244 ?_
  refine w_aload_n F 4 dL_law_245 rfl rfl ?_
  refine w_cSW (n := 4) (As := [.ref (gA G 0), .int (xs (i + nI 1).toNatClampNeg), .int (xs (i + nI 2).toNatClampNeg), .ref (gA G 23)]) (rest := []) F (m_L_set F.st F.gg (xs (i + nI 1).toNatClampNeg) (xs (i + nI 2).toNatClampNeg) hc hw) dL_law_246 ml_L_111 sc_L_set ini_L cw_L_set ⟨by decide, by decide, by decide +kernel⟩ rfl ⟨rfl, rfl⟩ ⟨by decide, by decide⟩ hu rfl (Nat.le_of_ble_eq_true rfl) ?_
  refine w_istore (ls' := [(5, .int c9), (4, .int i), (0, .ref b), (1, .ref (gA G 0)), (2, .ref (gA G 24)), (3, .ref (gA G 23))]) F dL_law_249 (by decide) rfl ?_
  refine w_aload_n F 4 dL_law_251 rfl rfl ?_
  refine w_aload_n F 2 dL_law_252 rfl rfl ?_
  refine w_iload F 1 dL_law_253 rfl ?_
  refine w_iconst F dL_law_255 (v := nI 1) (by decide) ?_
  refine w_iadd F dL_law_256 ?_
  refine w_sld F S (hin 1 (by decide)) dL_law_257 ?_
  refine w_aload_n F 2 dL_law_258 rfl rfl ?_
  refine w_iload F 1 dL_law_259 rfl ?_
  refine w_iconst F dL_law_261 (v := nI 2) (by decide) ?_
  refine w_iadd F dL_law_262 ?_
  refine w_sld F S (hin 2 (by decide)) dL_law_263 ?_
  refine w_cV (v := some (.int v)) (As := [.int (xs (i + nI 1).toNatClampNeg), .int (xs (i + nI 2).toNatClampNeg)]) (rest := []) F (c_X7_set F.st F.gg (xs (i + nI 1).toNatClampNeg) (xs (i + nI 2).toNatClampNeg) M2 _ hm) dL_law_264 ml_L_114 yv_X7_set (rfl : kd 24 = 7) (by decide) rfl rfl ⟨by decide, by decide⟩ hu rfl (Nat.le_of_ble_eq_true rfl) ?_
  refine w_istore (ls' := [(6, .int v), (5, .int c9), (4, .int i), (0, .ref b), (1, .ref (gA G 0)), (2, .ref (gA G 24)), (3, .ref (gA G 23))]) F dL_law_267 (by decide) rfl ?_
  refine w_aload_n F 5 dL_law_269 rfl rfl ?_
  refine w_cV (v := some (.int (M3.1 24 2))) (As := []) (rest := []) F (c_X7_thrown F.st F.gg M3 _ th_ok) dL_law_270 ml_L_108 yv_X7_thrown (rfl : kd 24 = 7) (by decide) rfl rfl ⟨by decide, by decide⟩ hu rfl (Nat.le_of_ble_eq_true rfl) ?_
  refine w_iload F 1 dL_law_273 rfl ?_
  refine w_icmp_eq (tgt := 280) F dL_law_275 (by decide) hc9 ?_
  refine w_iload F 1 dL_law_280 rfl ?_
  refine w_if_ne (tgt := 297) F dL_law_282 (by decide) (fun h0 => ?_) (fun h0 => ?_)
  · skip
    refine w_aload_n F 6 dL_law_285 rfl rfl ?_
    refine w_iconst F dL_law_286 (v := 0) (by decide) ?_
    refine w_lald F dL_law_287 (rfl : kd 23 = 12) (by decide) ?_
    refine w_iload F 0 dL_law_288 rfl ?_
    refine w_i2l F dL_law_290 ?_
    refine w_lcmp F dL_law_291 ?_
    refine w_if_eq (tgt := 297) F dL_law_292 (by decide) (lcmp0 (hq h0)) ?_
    refine w_goto (tgt := 1978) F dL_law_297 (by decide) ?_
    exact w_sub [2, 3, 4, 5, 6] rfl (K M3 hJ3)
  · skip
    refine w_goto (tgt := 1978) F dL_law_297 (by decide) ?_
    exact w_sub [2, 3, 4, 5, 6] rfl (K M3 hJ3)
set_option maxRecDepth 100000 in
set_option maxHeartbeats 4000000 in
theorem q_L_2 {G : GM} {p : Program} {l : Launch} {e : Env} {s : State} {m : MethodId} {args : Array Value} {below : List Frame} {meth : Method} {c : Code} {ret : Option FieldType} {u9 w9 : Nat} {Q : State → Prop} {b L : Nat} {xs : Nat → Int32} {i : Int32} {M : Mem} (F : Fy G p l s m args meth c cL_law RL 9 ret) (S : Sx G b L xs s) (hin : ∀ j : Nat, j < 5 → vp_in (i + nI j) L) (hJ : Jt M) (hu : u9 + 1 ≤ 601024 ∧ w9 + 6 ≤ 7293034) (K : ∀ M', Jt M' → Rw G p l e room_1 s m args below meth c 9 (u9 + 1) (w9 + 6) Q 1978 [(4, .int i), (0, .ref b), (1, .ref (gA G 0)), (2, .ref (gA G 24)), (3, .ref (gA G 23))] [] M') : Rw G p l e room_1 s m args below meth c 9 u9 w9 Q 300 [(4, .int i), (0, .ref b), (1, .ref (gA G 0)), (2, .ref (gA G 24)), (3, .ref (gA G 23))] [] M := by
  obtain ⟨r, M1, c9, M2, v, M3, hc, hw, hm, hJ3, hc9, hq⟩ := (o_put hJ (xs (i + nI 1).toNatClampNeg) (xs (i + nI 2).toNatClampNeg) (xs (i + nI 3).toNatClampNeg)).go (by decide)
  refine w_aload_n F 2 dL_law_300 rfl rfl ?_
  refine w_aload_n F 1 dL_law_301 rfl rfl ?_
  refine w_iload F 0 dL_law_302 rfl ?_
  refine w_iconst F dL_law_304 (v := nI 1) (by decide) ?_
  refine w_iadd F dL_law_305 ?_
  refine w_sld F S (hin 1 (by decide)) dL_law_306 ?_
  refine w_aload_n F 1 dL_law_307 rfl rfl ?_
  refine w_iload F 0 dL_law_308 rfl ?_
  refine w_iconst F dL_law_310 (v := nI 2) (by decide) ?_
  refine w_iadd F dL_law_311 ?_
  refine w_sld F S (hin 2 (by decide)) dL_law_312 ?_
  refine w_aload_n F 1 dL_law_313 rfl rfl ?_
  refine w_iload F 0 dL_law_314 rfl ?_
  refine w_iconst F dL_law_316 (v := nI 3) (by decide) ?_
  refine w_iadd F dL_law_317 ?_
  refine w_sld F S (hin 3 (by decide)) dL_law_318 ?_
  refine w_aload_n F 4 dL_law_319 rfl rfl ?_
  refine w_cSW (n := 5) (As := [.ref (gA G 0), .int (xs (i + nI 1).toNatClampNeg), .int (xs (i + nI 2).toNatClampNeg), .int (xs (i + nI 3).toNatClampNeg), .ref (gA G 23)]) (rest := []) F (m_L_put F.st F.gg (xs (i + nI 1).toNatClampNeg) (xs (i + nI 2).toNatClampNeg) (xs (i + nI 3).toNatClampNeg) hc hw) dL_law_320 ml_L_115 sc_L_put ini_L cw_L_put ⟨by decide, by decide, by decide +kernel⟩ rfl ⟨rfl, rfl⟩ ⟨by decide, by decide⟩ hu rfl (Nat.le_of_ble_eq_true rfl) ?_
  refine w_istore (ls' := [(5, .int c9), (4, .int i), (0, .ref b), (1, .ref (gA G 0)), (2, .ref (gA G 24)), (3, .ref (gA G 23))]) F dL_law_323 (by decide) rfl ?_
  refine w_aload_n F 4 dL_law_325 rfl rfl ?_
  refine w_aload_n F 2 dL_law_326 rfl rfl ?_
  refine w_iload F 1 dL_law_327 rfl ?_
  refine w_iconst F dL_law_329 (v := nI 1) (by decide) ?_
  refine w_iadd F dL_law_330 ?_
  refine w_sld F S (hin 1 (by decide)) dL_law_331 ?_
  refine w_aload_n F 2 dL_law_332 rfl rfl ?_
  refine w_iload F 1 dL_law_333 rfl ?_
  refine w_iconst F dL_law_335 (v := nI 2) (by decide) ?_
  refine w_iadd F dL_law_336 ?_
  refine w_sld F S (hin 2 (by decide)) dL_law_337 ?_
  refine w_aload_n F 2 dL_law_338 rfl rfl ?_
  refine w_iload F 1 dL_law_339 rfl ?_
  refine w_iconst F dL_law_341 (v := nI 3) (by decide) ?_
  refine w_iadd F dL_law_342 ?_
  refine w_sld F S (hin 3 (by decide)) dL_law_343 ?_
  refine w_cV (v := some (.int v)) (As := [.int (xs (i + nI 1).toNatClampNeg), .int (xs (i + nI 2).toNatClampNeg), .int (xs (i + nI 3).toNatClampNeg)]) (rest := []) F (c_X7_put F.st F.gg (xs (i + nI 1).toNatClampNeg) (xs (i + nI 2).toNatClampNeg) (xs (i + nI 3).toNatClampNeg) M2 _ hm) dL_law_344 ml_L_118 yv_X7_put (rfl : kd 24 = 7) (by decide) rfl rfl ⟨by decide, by decide⟩ hu rfl (Nat.le_of_ble_eq_true rfl) ?_
  refine w_istore (ls' := [(6, .int v), (5, .int c9), (4, .int i), (0, .ref b), (1, .ref (gA G 0)), (2, .ref (gA G 24)), (3, .ref (gA G 23))]) F dL_law_347 (by decide) rfl ?_
  refine w_aload_n F 5 dL_law_349 rfl rfl ?_
  refine w_cV (v := some (.int (M3.1 24 2))) (As := []) (rest := []) F (c_X7_thrown F.st F.gg M3 _ th_ok) dL_law_350 ml_L_108 yv_X7_thrown (rfl : kd 24 = 7) (by decide) rfl rfl ⟨by decide, by decide⟩ hu rfl (Nat.le_of_ble_eq_true rfl) ?_
  refine w_iload F 1 dL_law_353 rfl ?_
  refine w_icmp_eq (tgt := 360) F dL_law_355 (by decide) hc9 ?_
  refine w_iload F 1 dL_law_360 rfl ?_
  refine w_if_ne (tgt := 377) F dL_law_362 (by decide) (fun h0 => ?_) (fun h0 => ?_)
  · skip
    refine w_aload_n F 6 dL_law_365 rfl rfl ?_
    refine w_iconst F dL_law_366 (v := 0) (by decide) ?_
    refine w_lald F dL_law_367 (rfl : kd 23 = 12) (by decide) ?_
    refine w_iload F 0 dL_law_368 rfl ?_
    refine w_i2l F dL_law_370 ?_
    refine w_lcmp F dL_law_371 ?_
    refine w_if_eq (tgt := 377) F dL_law_372 (by decide) (lcmp0 (hq h0)) ?_
    refine w_goto (tgt := 1978) F dL_law_377 (by decide) ?_
    exact w_sub [2, 3, 4, 5, 6] rfl (K M3 hJ3)
  · skip
    refine w_goto (tgt := 1978) F dL_law_377 (by decide) ?_
    exact w_sub [2, 3, 4, 5, 6] rfl (K M3 hJ3)
set_option maxRecDepth 100000 in
set_option maxHeartbeats 4000000 in
theorem q_L_3 {G : GM} {p : Program} {l : Launch} {e : Env} {s : State} {m : MethodId} {args : Array Value} {below : List Frame} {meth : Method} {c : Code} {ret : Option FieldType} {u9 w9 : Nat} {Q : State → Prop} {b L : Nat} {xs : Nat → Int32} {i : Int32} {M : Mem} (F : Fy G p l s m args meth c cL_law RL 9 ret) (S : Sx G b L xs s) (hin : ∀ j : Nat, j < 5 → vp_in (i + nI j) L) (hJ : Jt M) (hu : u9 + 1 ≤ 601024 ∧ w9 + 6 ≤ 7293034) (K : ∀ M', Jt M' → Rw G p l e room_1 s m args below meth c 9 (u9 + 1) (w9 + 6) Q 1978 [(4, .int i), (0, .ref b), (1, .ref (gA G 0)), (2, .ref (gA G 24)), (3, .ref (gA G 23))] [] M') : Rw G p l e room_1 s m args below meth c 9 u9 w9 Q 380 [(4, .int i), (0, .ref b), (1, .ref (gA G 0)), (2, .ref (gA G 24)), (3, .ref (gA G 23))] [] M := by
  obtain ⟨r, M1, c9, M2, v, M3, hc, hw, hm, hJ3, hc9, hq⟩ := (o_pull hJ (xs (i + nI 1).toNatClampNeg) (xs (i + nI 2).toNatClampNeg) (xs (i + nI 3).toNatClampNeg)).go (by decide)
  refine w_aload_n F 2 dL_law_380 rfl rfl ?_
  refine w_aload_n F 1 dL_law_381 rfl rfl ?_
  refine w_iload F 0 dL_law_382 rfl ?_
  refine w_iconst F dL_law_384 (v := nI 1) (by decide) ?_
  refine w_iadd F dL_law_385 ?_
  refine w_sld F S (hin 1 (by decide)) dL_law_386 ?_
  refine w_aload_n F 1 dL_law_387 rfl rfl ?_
  refine w_iload F 0 dL_law_388 rfl ?_
  refine w_iconst F dL_law_390 (v := nI 2) (by decide) ?_
  refine w_iadd F dL_law_391 ?_
  refine w_sld F S (hin 2 (by decide)) dL_law_392 ?_
  refine w_aload_n F 1 dL_law_393 rfl rfl ?_
  refine w_iload F 0 dL_law_394 rfl ?_
  refine w_iconst F dL_law_396 (v := nI 3) (by decide) ?_
  refine w_iadd F dL_law_397 ?_
  refine w_sld F S (hin 3 (by decide)) dL_law_398 ?_
  refine w_aload_n F 4 dL_law_399 rfl rfl ?_
  refine w_cSW (n := 5) (As := [.ref (gA G 0), .int (xs (i + nI 1).toNatClampNeg), .int (xs (i + nI 2).toNatClampNeg), .int (xs (i + nI 3).toNatClampNeg), .ref (gA G 23)]) (rest := []) F (m_L_pull F.st F.gg (xs (i + nI 1).toNatClampNeg) (xs (i + nI 2).toNatClampNeg) (xs (i + nI 3).toNatClampNeg) hc hw) dL_law_400 ml_L_119 sc_L_pull ini_L cw_L_pull ⟨by decide, by decide, by decide +kernel⟩ rfl ⟨rfl, rfl⟩ ⟨by decide, by decide⟩ hu rfl (Nat.le_of_ble_eq_true rfl) ?_
  refine w_istore (ls' := [(5, .int c9), (4, .int i), (0, .ref b), (1, .ref (gA G 0)), (2, .ref (gA G 24)), (3, .ref (gA G 23))]) F dL_law_403 (by decide) rfl ?_
  refine w_aload_n F 4 dL_law_405 rfl rfl ?_
  refine w_aload_n F 2 dL_law_406 rfl rfl ?_
  refine w_iload F 1 dL_law_407 rfl ?_
  refine w_iconst F dL_law_409 (v := nI 1) (by decide) ?_
  refine w_iadd F dL_law_410 ?_
  refine w_sld F S (hin 1 (by decide)) dL_law_411 ?_
  refine w_aload_n F 2 dL_law_412 rfl rfl ?_
  refine w_iload F 1 dL_law_413 rfl ?_
  refine w_iconst F dL_law_415 (v := nI 2) (by decide) ?_
  refine w_iadd F dL_law_416 ?_
  refine w_sld F S (hin 2 (by decide)) dL_law_417 ?_
  refine w_aload_n F 2 dL_law_418 rfl rfl ?_
  refine w_iload F 1 dL_law_419 rfl ?_
  refine w_iconst F dL_law_421 (v := nI 3) (by decide) ?_
  refine w_iadd F dL_law_422 ?_
  refine w_sld F S (hin 3 (by decide)) dL_law_423 ?_
  refine w_cV (v := some (.int v)) (As := [.int (xs (i + nI 1).toNatClampNeg), .int (xs (i + nI 2).toNatClampNeg), .int (xs (i + nI 3).toNatClampNeg)]) (rest := []) F (c_X7_pull F.st F.gg (xs (i + nI 1).toNatClampNeg) (xs (i + nI 2).toNatClampNeg) (xs (i + nI 3).toNatClampNeg) M2 _ hm) dL_law_424 ml_L_121 yv_X7_pull (rfl : kd 24 = 7) (by decide) rfl rfl ⟨by decide, by decide⟩ hu rfl (Nat.le_of_ble_eq_true rfl) ?_
  refine w_istore (ls' := [(6, .int v), (5, .int c9), (4, .int i), (0, .ref b), (1, .ref (gA G 0)), (2, .ref (gA G 24)), (3, .ref (gA G 23))]) F dL_law_427 (by decide) rfl ?_
  refine w_aload_n F 5 dL_law_429 rfl rfl ?_
  refine w_cV (v := some (.int (M3.1 24 2))) (As := []) (rest := []) F (c_X7_thrown F.st F.gg M3 _ th_ok) dL_law_430 ml_L_108 yv_X7_thrown (rfl : kd 24 = 7) (by decide) rfl rfl ⟨by decide, by decide⟩ hu rfl (Nat.le_of_ble_eq_true rfl) ?_
  refine w_iload F 1 dL_law_433 rfl ?_
  refine w_icmp_eq (tgt := 440) F dL_law_435 (by decide) hc9 ?_
  refine w_iload F 1 dL_law_440 rfl ?_
  refine w_if_ne (tgt := 457) F dL_law_442 (by decide) (fun h0 => ?_) (fun h0 => ?_)
  · skip
    refine w_aload_n F 6 dL_law_445 rfl rfl ?_
    refine w_iconst F dL_law_446 (v := 0) (by decide) ?_
    refine w_lald F dL_law_447 (rfl : kd 23 = 12) (by decide) ?_
    refine w_iload F 0 dL_law_448 rfl ?_
    refine w_i2l F dL_law_450 ?_
    refine w_lcmp F dL_law_451 ?_
    refine w_if_eq (tgt := 457) F dL_law_452 (by decide) (lcmp0 (hq h0)) ?_
    refine w_goto (tgt := 1978) F dL_law_457 (by decide) ?_
    exact w_sub [2, 3, 4, 5, 6] rfl (K M3 hJ3)
  · skip
    refine w_goto (tgt := 1978) F dL_law_457 (by decide) ?_
    exact w_sub [2, 3, 4, 5, 6] rfl (K M3 hJ3)
set_option maxRecDepth 100000 in
set_option maxHeartbeats 4000000 in
theorem q_L_4 {G : GM} {p : Program} {l : Launch} {e : Env} {s : State} {m : MethodId} {args : Array Value} {below : List Frame} {meth : Method} {c : Code} {ret : Option FieldType} {u9 w9 : Nat} {Q : State → Prop} {b L : Nat} {xs : Nat → Int32} {i : Int32} {M : Mem} (F : Fy G p l s m args meth c cL_law RL 9 ret) (S : Sx G b L xs s) (hin : ∀ j : Nat, j < 5 → vp_in (i + nI j) L) (hJ : Jt M) (hu : u9 + 1 ≤ 601024 ∧ w9 + 6 ≤ 7293034) (K : ∀ M', Jt M' → Rw G p l e room_1 s m args below meth c 9 (u9 + 1) (w9 + 6) Q 1978 [(4, .int i), (0, .ref b), (1, .ref (gA G 0)), (2, .ref (gA G 24)), (3, .ref (gA G 23))] [] M') : Rw G p l e room_1 s m args below meth c 9 u9 w9 Q 460 [(4, .int i), (0, .ref b), (1, .ref (gA G 0)), (2, .ref (gA G 24)), (3, .ref (gA G 23))] [] M := by
  obtain ⟨r, M1, c9, M2, v, M3, hc, hw, hm, hJ3, hc9, hq⟩ := (o_move hJ (xs (i + nI 1).toNatClampNeg) (xs (i + nI 2).toNatClampNeg) (xs (i + nI 3).toNatClampNeg) (xs (i + nI 4).toNatClampNeg)).go (by decide)
  refine w_aload_n F 2 dL_law_460 rfl rfl ?_
  refine w_aload_n F 1 dL_law_461 rfl rfl ?_
  refine w_iload F 0 dL_law_462 rfl ?_
  refine w_iconst F dL_law_464 (v := nI 1) (by decide) ?_
  refine w_iadd F dL_law_465 ?_
  refine w_sld F S (hin 1 (by decide)) dL_law_466 ?_
  refine w_aload_n F 1 dL_law_467 rfl rfl ?_
  refine w_iload F 0 dL_law_468 rfl ?_
  refine w_iconst F dL_law_470 (v := nI 2) (by decide) ?_
  refine w_iadd F dL_law_471 ?_
  refine w_sld F S (hin 2 (by decide)) dL_law_472 ?_
  refine w_aload_n F 1 dL_law_473 rfl rfl ?_
  refine w_iload F 0 dL_law_474 rfl ?_
  refine w_iconst F dL_law_476 (v := nI 3) (by decide) ?_
  refine w_iadd F dL_law_477 ?_
  refine w_sld F S (hin 3 (by decide)) dL_law_478 ?_
  refine w_aload_n F 1 dL_law_479 rfl rfl ?_
  refine w_iload F 0 dL_law_480 rfl ?_
  refine w_iconst F dL_law_482 (v := nI 4) (by decide) ?_
  refine w_iadd F dL_law_483 ?_
  refine w_sld F S (hin 4 (by decide)) dL_law_484 ?_
  refine w_aload_n F 4 dL_law_485 rfl rfl ?_
  refine w_cSW (n := 6) (As := [.ref (gA G 0), .int (xs (i + nI 1).toNatClampNeg), .int (xs (i + nI 2).toNatClampNeg), .int (xs (i + nI 3).toNatClampNeg), .int (xs (i + nI 4).toNatClampNeg), .ref (gA G 23)]) (rest := []) F (m_L_move F.st F.gg (xs (i + nI 1).toNatClampNeg) (xs (i + nI 2).toNatClampNeg) (xs (i + nI 3).toNatClampNeg) (xs (i + nI 4).toNatClampNeg) hc hw) dL_law_486 ml_L_122 sc_L_move ini_L cw_L_move ⟨by decide, by decide, by decide +kernel⟩ rfl ⟨rfl, rfl⟩ ⟨by decide, by decide⟩ hu rfl (Nat.le_of_ble_eq_true rfl) ?_
  refine w_istore (ls' := [(5, .int c9), (4, .int i), (0, .ref b), (1, .ref (gA G 0)), (2, .ref (gA G 24)), (3, .ref (gA G 23))]) F dL_law_489 (by decide) rfl ?_
  refine w_aload_n F 4 dL_law_491 rfl rfl ?_
  refine w_aload_n F 2 dL_law_492 rfl rfl ?_
  refine w_iload F 1 dL_law_493 rfl ?_
  refine w_iconst F dL_law_495 (v := nI 1) (by decide) ?_
  refine w_iadd F dL_law_496 ?_
  refine w_sld F S (hin 1 (by decide)) dL_law_497 ?_
  refine w_aload_n F 2 dL_law_498 rfl rfl ?_
  refine w_iload F 1 dL_law_499 rfl ?_
  refine w_iconst F dL_law_501 (v := nI 2) (by decide) ?_
  refine w_iadd F dL_law_502 ?_
  refine w_sld F S (hin 2 (by decide)) dL_law_503 ?_
  refine w_aload_n F 2 dL_law_504 rfl rfl ?_
  refine w_iload F 1 dL_law_505 rfl ?_
  refine w_iconst F dL_law_507 (v := nI 3) (by decide) ?_
  refine w_iadd F dL_law_508 ?_
  refine w_sld F S (hin 3 (by decide)) dL_law_509 ?_
  refine w_aload_n F 2 dL_law_510 rfl rfl ?_
  refine w_iload F 1 dL_law_511 rfl ?_
  refine w_iconst F dL_law_513 (v := nI 4) (by decide) ?_
  refine w_iadd F dL_law_514 ?_
  refine w_sld F S (hin 4 (by decide)) dL_law_515 ?_
  refine w_cV (v := some (.int v)) (As := [.int (xs (i + nI 1).toNatClampNeg), .int (xs (i + nI 2).toNatClampNeg), .int (xs (i + nI 3).toNatClampNeg), .int (xs (i + nI 4).toNatClampNeg)]) (rest := []) F (c_X7_move F.st F.gg (xs (i + nI 1).toNatClampNeg) (xs (i + nI 2).toNatClampNeg) (xs (i + nI 3).toNatClampNeg) (xs (i + nI 4).toNatClampNeg) M2 _ hm) dL_law_516 ml_L_125 yv_X7_move (rfl : kd 24 = 7) (by decide) rfl rfl ⟨by decide, by decide⟩ hu rfl (Nat.le_of_ble_eq_true rfl) ?_
  refine w_istore (ls' := [(6, .int v), (5, .int c9), (4, .int i), (0, .ref b), (1, .ref (gA G 0)), (2, .ref (gA G 24)), (3, .ref (gA G 23))]) F dL_law_519 (by decide) rfl ?_
  refine w_aload_n F 5 dL_law_521 rfl rfl ?_
  refine w_cV (v := some (.int (M3.1 24 2))) (As := []) (rest := []) F (c_X7_thrown F.st F.gg M3 _ th_ok) dL_law_522 ml_L_108 yv_X7_thrown (rfl : kd 24 = 7) (by decide) rfl rfl ⟨by decide, by decide⟩ hu rfl (Nat.le_of_ble_eq_true rfl) ?_
  refine w_iload F 1 dL_law_525 rfl ?_
  refine w_icmp_eq (tgt := 532) F dL_law_527 (by decide) hc9 ?_
  refine w_iload F 1 dL_law_532 rfl ?_
  refine w_if_ne (tgt := 549) F dL_law_534 (by decide) (fun h0 => ?_) (fun h0 => ?_)
  · skip
    refine w_aload_n F 6 dL_law_537 rfl rfl ?_
    refine w_iconst F dL_law_538 (v := 0) (by decide) ?_
    refine w_lald F dL_law_539 (rfl : kd 23 = 12) (by decide) ?_
    refine w_iload F 0 dL_law_540 rfl ?_
    refine w_i2l F dL_law_542 ?_
    refine w_lcmp F dL_law_543 ?_
    refine w_if_eq (tgt := 549) F dL_law_544 (by decide) (lcmp0 (hq h0)) ?_
    refine w_goto (tgt := 1978) F dL_law_549 (by decide) ?_
    exact w_sub [2, 3, 4, 5, 6] rfl (K M3 hJ3)
  · skip
    refine w_goto (tgt := 1978) F dL_law_549 (by decide) ?_
    exact w_sub [2, 3, 4, 5, 6] rfl (K M3 hJ3)
set_option maxRecDepth 100000 in
set_option maxHeartbeats 4000000 in
theorem q_L_5 {G : GM} {p : Program} {l : Launch} {e : Env} {s : State} {m : MethodId} {args : Array Value} {below : List Frame} {meth : Method} {c : Code} {ret : Option FieldType} {u9 w9 : Nat} {Q : State → Prop} {b L : Nat} {xs : Nat → Int32} {i : Int32} {M : Mem} (F : Fy G p l s m args meth c cL_law RL 9 ret) (S : Sx G b L xs s) (hin : ∀ j : Nat, j < 5 → vp_in (i + nI j) L) (hJ : Jt M) (hu : u9 + 1 ≤ 601024 ∧ w9 + 6 ≤ 7293034) (K : ∀ M', Jt M' → Rw G p l e room_1 s m args below meth c 9 (u9 + 1) (w9 + 6) Q 1978 [(4, .int i), (0, .ref b), (1, .ref (gA G 0)), (2, .ref (gA G 24)), (3, .ref (gA G 23))] [] M') : Rw G p l e room_1 s m args below meth c 9 u9 w9 Q 552 [(4, .int i), (0, .ref b), (1, .ref (gA G 0)), (2, .ref (gA G 24)), (3, .ref (gA G 23))] [] M := by
  obtain ⟨r, M1, c9, M2, v, M3, hc, hw, hm, hJ3, hc9, hq⟩ := (o_trade hJ (xs (i + nI 1).toNatClampNeg) (xs (i + nI 2).toNatClampNeg)).go (by decide)
  refine w_aload_n F 2 dL_law_552 rfl rfl ?_
  refine w_aload_n F 1 dL_law_553 rfl rfl ?_
  refine w_iload F 0 dL_law_554 rfl ?_
  refine w_iconst F dL_law_556 (v := nI 1) (by decide) ?_
  refine w_iadd F dL_law_557 ?_
  refine w_sld F S (hin 1 (by decide)) dL_law_558 ?_
  refine w_aload_n F 1 dL_law_559 rfl rfl ?_
  refine w_iload F 0 dL_law_560 rfl ?_
  refine w_iconst F dL_law_562 (v := nI 2) (by decide) ?_
  refine w_iadd F dL_law_563 ?_
  refine w_sld F S (hin 2 (by decide)) dL_law_564 ?_
  refine w_aload_n F 4 dL_law_565 rfl rfl ?_
  refine w_cSW (n := 4) (As := [.ref (gA G 0), .int (xs (i + nI 1).toNatClampNeg), .int (xs (i + nI 2).toNatClampNeg), .ref (gA G 23)]) (rest := []) F (m_L_trade F.st F.gg (xs (i + nI 1).toNatClampNeg) (xs (i + nI 2).toNatClampNeg) hc hw) dL_law_566 ml_L_126 sc_L_trade ini_L cw_L_trade ⟨by decide, by decide, by decide +kernel⟩ rfl ⟨rfl, rfl⟩ ⟨by decide, by decide⟩ hu rfl (Nat.le_of_ble_eq_true rfl) ?_
  refine w_istore (ls' := [(5, .int c9), (4, .int i), (0, .ref b), (1, .ref (gA G 0)), (2, .ref (gA G 24)), (3, .ref (gA G 23))]) F dL_law_569 (by decide) rfl ?_
  refine w_aload_n F 4 dL_law_571 rfl rfl ?_
  refine w_aload_n F 2 dL_law_572 rfl rfl ?_
  refine w_iload F 1 dL_law_573 rfl ?_
  refine w_iconst F dL_law_575 (v := nI 1) (by decide) ?_
  refine w_iadd F dL_law_576 ?_
  refine w_sld F S (hin 1 (by decide)) dL_law_577 ?_
  refine w_aload_n F 2 dL_law_578 rfl rfl ?_
  refine w_iload F 1 dL_law_579 rfl ?_
  refine w_iconst F dL_law_581 (v := nI 2) (by decide) ?_
  refine w_iadd F dL_law_582 ?_
  refine w_sld F S (hin 2 (by decide)) dL_law_583 ?_
  refine w_cV (v := some (.int v)) (As := [.int (xs (i + nI 1).toNatClampNeg), .int (xs (i + nI 2).toNatClampNeg)]) (rest := []) F (c_X7_trade F.st F.gg (xs (i + nI 1).toNatClampNeg) (xs (i + nI 2).toNatClampNeg) M2 _ hm) dL_law_584 ml_L_128 yv_X7_trade (rfl : kd 24 = 7) (by decide) rfl rfl ⟨by decide, by decide⟩ hu rfl (Nat.le_of_ble_eq_true rfl) ?_
  refine w_istore (ls' := [(6, .int v), (5, .int c9), (4, .int i), (0, .ref b), (1, .ref (gA G 0)), (2, .ref (gA G 24)), (3, .ref (gA G 23))]) F dL_law_587 (by decide) rfl ?_
  refine w_aload_n F 5 dL_law_589 rfl rfl ?_
  refine w_cV (v := some (.int (M3.1 24 2))) (As := []) (rest := []) F (c_X7_thrown F.st F.gg M3 _ th_ok) dL_law_590 ml_L_108 yv_X7_thrown (rfl : kd 24 = 7) (by decide) rfl rfl ⟨by decide, by decide⟩ hu rfl (Nat.le_of_ble_eq_true rfl) ?_
  refine w_iload F 1 dL_law_593 rfl ?_
  refine w_icmp_eq (tgt := 600) F dL_law_595 (by decide) hc9 ?_
  refine w_iload F 1 dL_law_600 rfl ?_
  refine w_if_ne (tgt := 617) F dL_law_602 (by decide) (fun h0 => ?_) (fun h0 => ?_)
  · skip
    refine w_aload_n F 6 dL_law_605 rfl rfl ?_
    refine w_iconst F dL_law_606 (v := 0) (by decide) ?_
    refine w_lald F dL_law_607 (rfl : kd 23 = 12) (by decide) ?_
    refine w_iload F 0 dL_law_608 rfl ?_
    refine w_i2l F dL_law_610 ?_
    refine w_lcmp F dL_law_611 ?_
    refine w_if_eq (tgt := 617) F dL_law_612 (by decide) (lcmp0 (hq h0)) ?_
    refine w_goto (tgt := 1978) F dL_law_617 (by decide) ?_
    exact w_sub [2, 3, 4, 5, 6] rfl (K M3 hJ3)
  · skip
    refine w_goto (tgt := 1978) F dL_law_617 (by decide) ?_
    exact w_sub [2, 3, 4, 5, 6] rfl (K M3 hJ3)
set_option maxRecDepth 100000 in
set_option maxHeartbeats 4000000 in
theorem q_L_6 {G : GM} {p : Program} {l : Launch} {e : Env} {s : State} {m : MethodId} {args : Array Value} {below : List Frame} {meth : Method} {c : Code} {ret : Option FieldType} {u9 w9 : Nat} {Q : State → Prop} {b L : Nat} {xs : Nat → Int32} {i : Int32} {M : Mem} (F : Fy G p l s m args meth c cL_law RL 9 ret) (S : Sx G b L xs s) (hin : ∀ j : Nat, j < 5 → vp_in (i + nI j) L) (hJ : Jt M) (hu : u9 + 1 ≤ 601024 ∧ w9 + 6 ≤ 7293034) (K : ∀ M', Jt M' → Rw G p l e room_1 s m args below meth c 9 (u9 + 1) (w9 + 6) Q 1978 [(4, .int i), (0, .ref b), (1, .ref (gA G 0)), (2, .ref (gA G 24)), (3, .ref (gA G 23))] [] M') : Rw G p l e room_1 s m args below meth c 9 u9 w9 Q 620 [(4, .int i), (0, .ref b), (1, .ref (gA G 0)), (2, .ref (gA G 24)), (3, .ref (gA G 23))] [] M := by
  obtain ⟨r, M1, c9, M2, v, M3, hc, hw, hm, hJ3, hc9, hq⟩ := (o_turn hJ (xs (i + nI 1).toNatClampNeg) (xs (i + nI 2).toNatClampNeg)).go (by decide)
  refine w_aload_n F 2 dL_law_620 rfl rfl ?_
  refine w_aload_n F 1 dL_law_621 rfl rfl ?_
  refine w_iload F 0 dL_law_622 rfl ?_
  refine w_iconst F dL_law_624 (v := nI 1) (by decide) ?_
  refine w_iadd F dL_law_625 ?_
  refine w_sld F S (hin 1 (by decide)) dL_law_626 ?_
  refine w_aload_n F 1 dL_law_627 rfl rfl ?_
  refine w_iload F 0 dL_law_628 rfl ?_
  refine w_iconst F dL_law_630 (v := nI 2) (by decide) ?_
  refine w_iadd F dL_law_631 ?_
  refine w_sld F S (hin 2 (by decide)) dL_law_632 ?_
  refine w_aload_n F 4 dL_law_633 rfl rfl ?_
  refine w_cSW (n := 4) (As := [.ref (gA G 0), .int (xs (i + nI 1).toNatClampNeg), .int (xs (i + nI 2).toNatClampNeg), .ref (gA G 23)]) (rest := []) F (m_L_turn F.st F.gg (xs (i + nI 1).toNatClampNeg) (xs (i + nI 2).toNatClampNeg) hc hw) dL_law_634 ml_L_129 sc_L_turn ini_L cw_L_turn ⟨by decide, by decide, by decide +kernel⟩ rfl ⟨rfl, rfl⟩ ⟨by decide, by decide⟩ hu rfl (Nat.le_of_ble_eq_true rfl) ?_
  refine w_istore (ls' := [(5, .int c9), (4, .int i), (0, .ref b), (1, .ref (gA G 0)), (2, .ref (gA G 24)), (3, .ref (gA G 23))]) F dL_law_637 (by decide) rfl ?_
  refine w_aload_n F 4 dL_law_639 rfl rfl ?_
  refine w_aload_n F 2 dL_law_640 rfl rfl ?_
  refine w_iload F 1 dL_law_641 rfl ?_
  refine w_iconst F dL_law_643 (v := nI 1) (by decide) ?_
  refine w_iadd F dL_law_644 ?_
  refine w_sld F S (hin 1 (by decide)) dL_law_645 ?_
  refine w_aload_n F 2 dL_law_646 rfl rfl ?_
  refine w_iload F 1 dL_law_647 rfl ?_
  refine w_iconst F dL_law_649 (v := nI 2) (by decide) ?_
  refine w_iadd F dL_law_650 ?_
  refine w_sld F S (hin 2 (by decide)) dL_law_651 ?_
  refine w_cV (v := some (.int v)) (As := [.int (xs (i + nI 1).toNatClampNeg), .int (xs (i + nI 2).toNatClampNeg)]) (rest := []) F (c_X7_turn F.st F.gg (xs (i + nI 1).toNatClampNeg) (xs (i + nI 2).toNatClampNeg) M2 _ hm) dL_law_652 ml_L_131 yv_X7_turn (rfl : kd 24 = 7) (by decide) rfl rfl ⟨by decide, by decide⟩ hu rfl (Nat.le_of_ble_eq_true rfl) ?_
  refine w_istore (ls' := [(6, .int v), (5, .int c9), (4, .int i), (0, .ref b), (1, .ref (gA G 0)), (2, .ref (gA G 24)), (3, .ref (gA G 23))]) F dL_law_655 (by decide) rfl ?_
  refine w_aload_n F 5 dL_law_657 rfl rfl ?_
  refine w_cV (v := some (.int (M3.1 24 2))) (As := []) (rest := []) F (c_X7_thrown F.st F.gg M3 _ th_ok) dL_law_658 ml_L_108 yv_X7_thrown (rfl : kd 24 = 7) (by decide) rfl rfl ⟨by decide, by decide⟩ hu rfl (Nat.le_of_ble_eq_true rfl) ?_
  refine w_iload F 1 dL_law_661 rfl ?_
  refine w_icmp_eq (tgt := 668) F dL_law_663 (by decide) hc9 ?_
  refine w_iload F 1 dL_law_668 rfl ?_
  refine w_if_ne (tgt := 685) F dL_law_670 (by decide) (fun h0 => ?_) (fun h0 => ?_)
  · skip
    refine w_aload_n F 6 dL_law_673 rfl rfl ?_
    refine w_iconst F dL_law_674 (v := 0) (by decide) ?_
    refine w_lald F dL_law_675 (rfl : kd 23 = 12) (by decide) ?_
    refine w_iload F 0 dL_law_676 rfl ?_
    refine w_i2l F dL_law_678 ?_
    refine w_lcmp F dL_law_679 ?_
    refine w_if_eq (tgt := 685) F dL_law_680 (by decide) (lcmp0 (hq h0)) ?_
    refine w_goto (tgt := 1978) F dL_law_685 (by decide) ?_
    exact w_sub [2, 3, 4, 5, 6] rfl (K M3 hJ3)
  · skip
    refine w_goto (tgt := 1978) F dL_law_685 (by decide) ?_
    exact w_sub [2, 3, 4, 5, 6] rfl (K M3 hJ3)
set_option maxRecDepth 100000 in
set_option maxHeartbeats 4000000 in
theorem q_L_7 {G : GM} {p : Program} {l : Launch} {e : Env} {s : State} {m : MethodId} {args : Array Value} {below : List Frame} {meth : Method} {c : Code} {ret : Option FieldType} {u9 w9 : Nat} {Q : State → Prop} {b L : Nat} {xs : Nat → Int32} {i : Int32} {M : Mem} (F : Fy G p l s m args meth c cL_law RL 9 ret) (S : Sx G b L xs s) (hin : ∀ j : Nat, j < 5 → vp_in (i + nI j) L) (hJ : Jt M) (hu : u9 + 1 ≤ 601024 ∧ w9 + 6 ≤ 7293034) (K : ∀ M', Jt M' → Rw G p l e room_1 s m args below meth c 9 (u9 + 1) (w9 + 6) Q 1978 [(4, .int i), (0, .ref b), (1, .ref (gA G 0)), (2, .ref (gA G 24)), (3, .ref (gA G 23))] [] M') : Rw G p l e room_1 s m args below meth c 9 u9 w9 Q 688 [(4, .int i), (0, .ref b), (1, .ref (gA G 0)), (2, .ref (gA G 24)), (3, .ref (gA G 23))] [] M := by
  obtain ⟨r, M1, c9, M2, v, M3, hc, hw, hm, hJ3, hc9, hq⟩ := (o_file hJ (xs (i + nI 1).toNatClampNeg) (xs (i + nI 2).toNatClampNeg)).go (by decide)
  refine w_aload_n F 2 dL_law_688 rfl rfl ?_
  refine w_aload_n F 1 dL_law_689 rfl rfl ?_
  refine w_iload F 0 dL_law_690 rfl ?_
  refine w_iconst F dL_law_692 (v := nI 1) (by decide) ?_
  refine w_iadd F dL_law_693 ?_
  refine w_sld F S (hin 1 (by decide)) dL_law_694 ?_
  refine w_aload_n F 1 dL_law_695 rfl rfl ?_
  refine w_iload F 0 dL_law_696 rfl ?_
  refine w_iconst F dL_law_698 (v := nI 2) (by decide) ?_
  refine w_iadd F dL_law_699 ?_
  refine w_sld F S (hin 2 (by decide)) dL_law_700 ?_
  refine w_aload_n F 4 dL_law_701 rfl rfl ?_
  refine w_cSW (n := 4) (As := [.ref (gA G 0), .int (xs (i + nI 1).toNatClampNeg), .int (xs (i + nI 2).toNatClampNeg), .ref (gA G 23)]) (rest := []) F (m_L_file F.st F.gg (xs (i + nI 1).toNatClampNeg) (xs (i + nI 2).toNatClampNeg) hc hw) dL_law_702 ml_L_132 sc_L_file ini_L cw_L_file ⟨by decide, by decide, by decide +kernel⟩ rfl ⟨rfl, rfl⟩ ⟨by decide, by decide⟩ hu rfl (Nat.le_of_ble_eq_true rfl) ?_
  refine w_istore (ls' := [(5, .int c9), (4, .int i), (0, .ref b), (1, .ref (gA G 0)), (2, .ref (gA G 24)), (3, .ref (gA G 23))]) F dL_law_705 (by decide) rfl ?_
  refine w_aload_n F 4 dL_law_707 rfl rfl ?_
  refine w_aload_n F 2 dL_law_708 rfl rfl ?_
  refine w_iload F 1 dL_law_709 rfl ?_
  refine w_iconst F dL_law_711 (v := nI 1) (by decide) ?_
  refine w_iadd F dL_law_712 ?_
  refine w_sld F S (hin 1 (by decide)) dL_law_713 ?_
  refine w_aload_n F 2 dL_law_714 rfl rfl ?_
  refine w_iload F 1 dL_law_715 rfl ?_
  refine w_iconst F dL_law_717 (v := nI 2) (by decide) ?_
  refine w_iadd F dL_law_718 ?_
  refine w_sld F S (hin 2 (by decide)) dL_law_719 ?_
  refine w_cV (v := some (.int v)) (As := [.int (xs (i + nI 1).toNatClampNeg), .int (xs (i + nI 2).toNatClampNeg)]) (rest := []) F (c_X7_file F.st F.gg (xs (i + nI 1).toNatClampNeg) (xs (i + nI 2).toNatClampNeg) M2 _ hm) dL_law_720 ml_L_134 yv_X7_file (rfl : kd 24 = 7) (by decide) rfl rfl ⟨by decide, by decide⟩ hu rfl (Nat.le_of_ble_eq_true rfl) ?_
  refine w_istore (ls' := [(6, .int v), (5, .int c9), (4, .int i), (0, .ref b), (1, .ref (gA G 0)), (2, .ref (gA G 24)), (3, .ref (gA G 23))]) F dL_law_723 (by decide) rfl ?_
  refine w_aload_n F 5 dL_law_725 rfl rfl ?_
  refine w_cV (v := some (.int (M3.1 24 2))) (As := []) (rest := []) F (c_X7_thrown F.st F.gg M3 _ th_ok) dL_law_726 ml_L_108 yv_X7_thrown (rfl : kd 24 = 7) (by decide) rfl rfl ⟨by decide, by decide⟩ hu rfl (Nat.le_of_ble_eq_true rfl) ?_
  refine w_iload F 1 dL_law_729 rfl ?_
  refine w_icmp_eq (tgt := 736) F dL_law_731 (by decide) hc9 ?_
  refine w_iload F 1 dL_law_736 rfl ?_
  refine w_if_ne (tgt := 753) F dL_law_738 (by decide) (fun h0 => ?_) (fun h0 => ?_)
  · skip
    refine w_aload_n F 6 dL_law_741 rfl rfl ?_
    refine w_iconst F dL_law_742 (v := 0) (by decide) ?_
    refine w_lald F dL_law_743 (rfl : kd 23 = 12) (by decide) ?_
    refine w_iload F 0 dL_law_744 rfl ?_
    refine w_i2l F dL_law_746 ?_
    refine w_lcmp F dL_law_747 ?_
    refine w_if_eq (tgt := 753) F dL_law_748 (by decide) (lcmp0 (hq h0)) ?_
    refine w_goto (tgt := 1978) F dL_law_753 (by decide) ?_
    exact w_sub [2, 3, 4, 5, 6] rfl (K M3 hJ3)
  · skip
    refine w_goto (tgt := 1978) F dL_law_753 (by decide) ?_
    exact w_sub [2, 3, 4, 5, 6] rfl (K M3 hJ3)
set_option maxRecDepth 100000 in
set_option maxHeartbeats 4000000 in
theorem q_L_8 {G : GM} {p : Program} {l : Launch} {e : Env} {s : State} {m : MethodId} {args : Array Value} {below : List Frame} {meth : Method} {c : Code} {ret : Option FieldType} {u9 w9 : Nat} {Q : State → Prop} {b L : Nat} {xs : Nat → Int32} {i : Int32} {M : Mem} (F : Fy G p l s m args meth c cL_law RL 9 ret) (S : Sx G b L xs s) (hin : ∀ j : Nat, j < 5 → vp_in (i + nI j) L) (hJ : Jt M) (hu : u9 + 1 ≤ 601024 ∧ w9 + 6 ≤ 7293034) (K : ∀ M', Jt M' → Rw G p l e room_1 s m args below meth c 9 (u9 + 1) (w9 + 6) Q 1978 [(4, .int i), (0, .ref b), (1, .ref (gA G 0)), (2, .ref (gA G 24)), (3, .ref (gA G 23))] [] M') : Rw G p l e room_1 s m args below meth c 9 u9 w9 Q 756 [(4, .int i), (0, .ref b), (1, .ref (gA G 0)), (2, .ref (gA G 24)), (3, .ref (gA G 23))] [] M := by
  obtain ⟨r, M1, c9, M2, v, M3, hc, hw, hm, hJ3, hc9, hq⟩ := (o_play hJ (xs (i + nI 1).toNatClampNeg)).go (by decide)
  refine w_aload_n F 2 dL_law_756 rfl rfl ?_
  refine w_aload_n F 1 dL_law_757 rfl rfl ?_
  refine w_iload F 0 dL_law_758 rfl ?_
  refine w_iconst F dL_law_760 (v := nI 1) (by decide) ?_
  refine w_iadd F dL_law_761 ?_
  refine w_sld F S (hin 1 (by decide)) dL_law_762 ?_
  refine w_aload_n F 4 dL_law_763 rfl rfl ?_
  refine w_cSW (n := 3) (As := [.ref (gA G 0), .int (xs (i + nI 1).toNatClampNeg), .ref (gA G 23)]) (rest := []) F (m_L_play F.st F.gg (xs (i + nI 1).toNatClampNeg) hc hw) dL_law_764 ml_L_135 sc_L_play ini_L cw_L_play ⟨by decide, by decide, by decide +kernel⟩ rfl ⟨rfl, rfl⟩ ⟨by decide, by decide⟩ hu rfl (Nat.le_of_ble_eq_true rfl) ?_
  refine w_istore (ls' := [(5, .int c9), (4, .int i), (0, .ref b), (1, .ref (gA G 0)), (2, .ref (gA G 24)), (3, .ref (gA G 23))]) F dL_law_767 (by decide) rfl ?_
  refine w_aload_n F 4 dL_law_769 rfl rfl ?_
  refine w_aload_n F 2 dL_law_770 rfl rfl ?_
  refine w_iload F 1 dL_law_771 rfl ?_
  refine w_iconst F dL_law_773 (v := nI 1) (by decide) ?_
  refine w_iadd F dL_law_774 ?_
  refine w_sld F S (hin 1 (by decide)) dL_law_775 ?_
  refine w_cV (v := some (.int v)) (As := [.int (xs (i + nI 1).toNatClampNeg)]) (rest := []) F (c_X7_play F.st F.gg (xs (i + nI 1).toNatClampNeg) M2 _ hm) dL_law_776 ml_L_137 yv_X7_play (rfl : kd 24 = 7) (by decide) rfl rfl ⟨by decide, by decide⟩ hu rfl (Nat.le_of_ble_eq_true rfl) ?_
  refine w_istore (ls' := [(6, .int v), (5, .int c9), (4, .int i), (0, .ref b), (1, .ref (gA G 0)), (2, .ref (gA G 24)), (3, .ref (gA G 23))]) F dL_law_779 (by decide) rfl ?_
  refine w_aload_n F 5 dL_law_781 rfl rfl ?_
  refine w_cV (v := some (.int (M3.1 24 2))) (As := []) (rest := []) F (c_X7_thrown F.st F.gg M3 _ th_ok) dL_law_782 ml_L_108 yv_X7_thrown (rfl : kd 24 = 7) (by decide) rfl rfl ⟨by decide, by decide⟩ hu rfl (Nat.le_of_ble_eq_true rfl) ?_
  refine w_iload F 1 dL_law_785 rfl ?_
  refine w_icmp_eq (tgt := 792) F dL_law_787 (by decide) hc9 ?_
  refine w_iload F 1 dL_law_792 rfl ?_
  refine w_if_ne (tgt := 809) F dL_law_794 (by decide) (fun h0 => ?_) (fun h0 => ?_)
  · skip
    refine w_aload_n F 6 dL_law_797 rfl rfl ?_
    refine w_iconst F dL_law_798 (v := 0) (by decide) ?_
    refine w_lald F dL_law_799 (rfl : kd 23 = 12) (by decide) ?_
    refine w_iload F 0 dL_law_800 rfl ?_
    refine w_i2l F dL_law_802 ?_
    refine w_lcmp F dL_law_803 ?_
    refine w_if_eq (tgt := 809) F dL_law_804 (by decide) (lcmp0 (hq h0)) ?_
    refine w_goto (tgt := 1978) F dL_law_809 (by decide) ?_
    exact w_sub [2, 3, 4, 5, 6] rfl (K M3 hJ3)
  · skip
    refine w_goto (tgt := 1978) F dL_law_809 (by decide) ?_
    exact w_sub [2, 3, 4, 5, 6] rfl (K M3 hJ3)
set_option maxRecDepth 100000 in
set_option maxHeartbeats 4000000 in
theorem q_L_9 {G : GM} {p : Program} {l : Launch} {e : Env} {s : State} {m : MethodId} {args : Array Value} {below : List Frame} {meth : Method} {c : Code} {ret : Option FieldType} {u9 w9 : Nat} {Q : State → Prop} {b L : Nat} {xs : Nat → Int32} {i : Int32} {M : Mem} (F : Fy G p l s m args meth c cL_law RL 9 ret) (S : Sx G b L xs s) (hin : ∀ j : Nat, j < 5 → vp_in (i + nI j) L) (hJ : Jt M) (hu : u9 + 1 ≤ 601024 ∧ w9 + 6 ≤ 7293034) (K : ∀ M', Jt M' → Rw G p l e room_1 s m args below meth c 9 (u9 + 1) (w9 + 6) Q 1978 [(4, .int i), (0, .ref b), (1, .ref (gA G 0)), (2, .ref (gA G 24)), (3, .ref (gA G 23))] [] M') : Rw G p l e room_1 s m args below meth c 9 u9 w9 Q 812 [(4, .int i), (0, .ref b), (1, .ref (gA G 0)), (2, .ref (gA G 24)), (3, .ref (gA G 23))] [] M := by
  obtain ⟨r, M1, c9, M2, v, M3, hc, hw, hm, hJ3, hc9, hq⟩ := (o_lend hJ (xs (i + nI 1).toNatClampNeg) (xs (i + nI 2).toNatClampNeg) (xs (i + nI 3).toNatClampNeg)).go (by decide)
  refine w_aload_n F 2 dL_law_812 rfl rfl ?_
  refine w_aload_n F 1 dL_law_813 rfl rfl ?_
  refine w_iload F 0 dL_law_814 rfl ?_
  refine w_iconst F dL_law_816 (v := nI 1) (by decide) ?_
  refine w_iadd F dL_law_817 ?_
  refine w_sld F S (hin 1 (by decide)) dL_law_818 ?_
  refine w_aload_n F 1 dL_law_819 rfl rfl ?_
  refine w_iload F 0 dL_law_820 rfl ?_
  refine w_iconst F dL_law_822 (v := nI 2) (by decide) ?_
  refine w_iadd F dL_law_823 ?_
  refine w_sld F S (hin 2 (by decide)) dL_law_824 ?_
  refine w_aload_n F 1 dL_law_825 rfl rfl ?_
  refine w_iload F 0 dL_law_826 rfl ?_
  refine w_iconst F dL_law_828 (v := nI 3) (by decide) ?_
  refine w_iadd F dL_law_829 ?_
  refine w_sld F S (hin 3 (by decide)) dL_law_830 ?_
  refine w_aload_n F 4 dL_law_831 rfl rfl ?_
  refine w_cSW (n := 5) (As := [.ref (gA G 0), .int (xs (i + nI 1).toNatClampNeg), .int (xs (i + nI 2).toNatClampNeg), .int (xs (i + nI 3).toNatClampNeg), .ref (gA G 23)]) (rest := []) F (m_L_lend F.st F.gg (xs (i + nI 1).toNatClampNeg) (xs (i + nI 2).toNatClampNeg) (xs (i + nI 3).toNatClampNeg) hc hw) dL_law_832 ml_L_138 sc_L_lend ini_L cw_L_lend ⟨by decide, by decide, by decide +kernel⟩ rfl ⟨rfl, rfl⟩ ⟨by decide, by decide⟩ hu rfl (Nat.le_of_ble_eq_true rfl) ?_
  refine w_istore (ls' := [(5, .int c9), (4, .int i), (0, .ref b), (1, .ref (gA G 0)), (2, .ref (gA G 24)), (3, .ref (gA G 23))]) F dL_law_835 (by decide) rfl ?_
  refine w_aload_n F 4 dL_law_837 rfl rfl ?_
  refine w_aload_n F 2 dL_law_838 rfl rfl ?_
  refine w_iload F 1 dL_law_839 rfl ?_
  refine w_iconst F dL_law_841 (v := nI 1) (by decide) ?_
  refine w_iadd F dL_law_842 ?_
  refine w_sld F S (hin 1 (by decide)) dL_law_843 ?_
  refine w_aload_n F 2 dL_law_844 rfl rfl ?_
  refine w_iload F 1 dL_law_845 rfl ?_
  refine w_iconst F dL_law_847 (v := nI 2) (by decide) ?_
  refine w_iadd F dL_law_848 ?_
  refine w_sld F S (hin 2 (by decide)) dL_law_849 ?_
  refine w_aload_n F 2 dL_law_850 rfl rfl ?_
  refine w_iload F 1 dL_law_851 rfl ?_
  refine w_iconst F dL_law_853 (v := nI 3) (by decide) ?_
  refine w_iadd F dL_law_854 ?_
  refine w_sld F S (hin 3 (by decide)) dL_law_855 ?_
  refine w_cV (v := some (.int v)) (As := [.int (xs (i + nI 1).toNatClampNeg), .int (xs (i + nI 2).toNatClampNeg), .int (xs (i + nI 3).toNatClampNeg)]) (rest := []) F (c_X7_lend F.st F.gg (xs (i + nI 1).toNatClampNeg) (xs (i + nI 2).toNatClampNeg) (xs (i + nI 3).toNatClampNeg) M2 _ hm) dL_law_856 ml_L_140 yv_X7_lend (rfl : kd 24 = 7) (by decide) rfl rfl ⟨by decide, by decide⟩ hu rfl (Nat.le_of_ble_eq_true rfl) ?_
  refine w_istore (ls' := [(6, .int v), (5, .int c9), (4, .int i), (0, .ref b), (1, .ref (gA G 0)), (2, .ref (gA G 24)), (3, .ref (gA G 23))]) F dL_law_859 (by decide) rfl ?_
  refine w_aload_n F 5 dL_law_861 rfl rfl ?_
  refine w_cV (v := some (.int (M3.1 24 2))) (As := []) (rest := []) F (c_X7_thrown F.st F.gg M3 _ th_ok) dL_law_862 ml_L_108 yv_X7_thrown (rfl : kd 24 = 7) (by decide) rfl rfl ⟨by decide, by decide⟩ hu rfl (Nat.le_of_ble_eq_true rfl) ?_
  refine w_iload F 1 dL_law_865 rfl ?_
  refine w_icmp_eq (tgt := 872) F dL_law_867 (by decide) hc9 ?_
  refine w_iload F 1 dL_law_872 rfl ?_
  refine w_if_ne (tgt := 889) F dL_law_874 (by decide) (fun h0 => ?_) (fun h0 => ?_)
  · skip
    refine w_aload_n F 6 dL_law_877 rfl rfl ?_
    refine w_iconst F dL_law_878 (v := 0) (by decide) ?_
    refine w_lald F dL_law_879 (rfl : kd 23 = 12) (by decide) ?_
    refine w_iload F 0 dL_law_880 rfl ?_
    refine w_i2l F dL_law_882 ?_
    refine w_lcmp F dL_law_883 ?_
    refine w_if_eq (tgt := 889) F dL_law_884 (by decide) (lcmp0 (hq h0)) ?_
    refine w_goto (tgt := 1978) F dL_law_889 (by decide) ?_
    exact w_sub [2, 3, 4, 5, 6] rfl (K M3 hJ3)
  · skip
    refine w_goto (tgt := 1978) F dL_law_889 (by decide) ?_
    exact w_sub [2, 3, 4, 5, 6] rfl (K M3 hJ3)
set_option maxRecDepth 100000 in
set_option maxHeartbeats 4000000 in
theorem q_L_10 {G : GM} {p : Program} {l : Launch} {e : Env} {s : State} {m : MethodId} {args : Array Value} {below : List Frame} {meth : Method} {c : Code} {ret : Option FieldType} {u9 w9 : Nat} {Q : State → Prop} {b L : Nat} {xs : Nat → Int32} {i : Int32} {M : Mem} (F : Fy G p l s m args meth c cL_law RL 9 ret) (S : Sx G b L xs s) (hin : ∀ j : Nat, j < 5 → vp_in (i + nI j) L) (hJ : Jt M) (hu : u9 + 1 ≤ 601024 ∧ w9 + 6 ≤ 7293034) (K : ∀ M', Jt M' → Rw G p l e room_1 s m args below meth c 9 (u9 + 1) (w9 + 6) Q 1978 [(4, .int i), (0, .ref b), (1, .ref (gA G 0)), (2, .ref (gA G 24)), (3, .ref (gA G 23))] [] M') : Rw G p l e room_1 s m args below meth c 9 u9 w9 Q 892 [(4, .int i), (0, .ref b), (1, .ref (gA G 0)), (2, .ref (gA G 24)), (3, .ref (gA G 23))] [] M := by
  obtain ⟨r, M1, c9, M2, v, M3, hc, hw, hm, hJ3, hc9, hq⟩ := (o_repay hJ (xs (i + nI 1).toNatClampNeg) (xs (i + nI 2).toNatClampNeg) (xs (i + nI 3).toNatClampNeg)).go (by decide)
  refine w_aload_n F 2 dL_law_892 rfl rfl ?_
  refine w_aload_n F 1 dL_law_893 rfl rfl ?_
  refine w_iload F 0 dL_law_894 rfl ?_
  refine w_iconst F dL_law_896 (v := nI 1) (by decide) ?_
  refine w_iadd F dL_law_897 ?_
  refine w_sld F S (hin 1 (by decide)) dL_law_898 ?_
  refine w_aload_n F 1 dL_law_899 rfl rfl ?_
  refine w_iload F 0 dL_law_900 rfl ?_
  refine w_iconst F dL_law_902 (v := nI 2) (by decide) ?_
  refine w_iadd F dL_law_903 ?_
  refine w_sld F S (hin 2 (by decide)) dL_law_904 ?_
  refine w_aload_n F 1 dL_law_905 rfl rfl ?_
  refine w_iload F 0 dL_law_906 rfl ?_
  refine w_iconst F dL_law_908 (v := nI 3) (by decide) ?_
  refine w_iadd F dL_law_909 ?_
  refine w_sld F S (hin 3 (by decide)) dL_law_910 ?_
  refine w_aload_n F 4 dL_law_911 rfl rfl ?_
  refine w_cSW (n := 5) (As := [.ref (gA G 0), .int (xs (i + nI 1).toNatClampNeg), .int (xs (i + nI 2).toNatClampNeg), .int (xs (i + nI 3).toNatClampNeg), .ref (gA G 23)]) (rest := []) F (m_L_repay F.st F.gg (xs (i + nI 1).toNatClampNeg) (xs (i + nI 2).toNatClampNeg) (xs (i + nI 3).toNatClampNeg) hc hw) dL_law_912 ml_L_141 sc_L_repay ini_L cw_L_repay ⟨by decide, by decide, by decide +kernel⟩ rfl ⟨rfl, rfl⟩ ⟨by decide, by decide⟩ hu rfl (Nat.le_of_ble_eq_true rfl) ?_
  refine w_istore (ls' := [(5, .int c9), (4, .int i), (0, .ref b), (1, .ref (gA G 0)), (2, .ref (gA G 24)), (3, .ref (gA G 23))]) F dL_law_915 (by decide) rfl ?_
  refine w_aload_n F 4 dL_law_917 rfl rfl ?_
  refine w_aload_n F 2 dL_law_918 rfl rfl ?_
  refine w_iload F 1 dL_law_919 rfl ?_
  refine w_iconst F dL_law_921 (v := nI 1) (by decide) ?_
  refine w_iadd F dL_law_922 ?_
  refine w_sld F S (hin 1 (by decide)) dL_law_923 ?_
  refine w_aload_n F 2 dL_law_924 rfl rfl ?_
  refine w_iload F 1 dL_law_925 rfl ?_
  refine w_iconst F dL_law_927 (v := nI 2) (by decide) ?_
  refine w_iadd F dL_law_928 ?_
  refine w_sld F S (hin 2 (by decide)) dL_law_929 ?_
  refine w_aload_n F 2 dL_law_930 rfl rfl ?_
  refine w_iload F 1 dL_law_931 rfl ?_
  refine w_iconst F dL_law_933 (v := nI 3) (by decide) ?_
  refine w_iadd F dL_law_934 ?_
  refine w_sld F S (hin 3 (by decide)) dL_law_935 ?_
  refine w_cV (v := some (.int v)) (As := [.int (xs (i + nI 1).toNatClampNeg), .int (xs (i + nI 2).toNatClampNeg), .int (xs (i + nI 3).toNatClampNeg)]) (rest := []) F (c_X7_repay F.st F.gg (xs (i + nI 1).toNatClampNeg) (xs (i + nI 2).toNatClampNeg) (xs (i + nI 3).toNatClampNeg) M2 _ hm) dL_law_936 ml_L_143 yv_X7_repay (rfl : kd 24 = 7) (by decide) rfl rfl ⟨by decide, by decide⟩ hu rfl (Nat.le_of_ble_eq_true rfl) ?_
  refine w_istore (ls' := [(6, .int v), (5, .int c9), (4, .int i), (0, .ref b), (1, .ref (gA G 0)), (2, .ref (gA G 24)), (3, .ref (gA G 23))]) F dL_law_939 (by decide) rfl ?_
  refine w_aload_n F 5 dL_law_941 rfl rfl ?_
  refine w_cV (v := some (.int (M3.1 24 2))) (As := []) (rest := []) F (c_X7_thrown F.st F.gg M3 _ th_ok) dL_law_942 ml_L_108 yv_X7_thrown (rfl : kd 24 = 7) (by decide) rfl rfl ⟨by decide, by decide⟩ hu rfl (Nat.le_of_ble_eq_true rfl) ?_
  refine w_iload F 1 dL_law_945 rfl ?_
  refine w_icmp_eq (tgt := 952) F dL_law_947 (by decide) hc9 ?_
  refine w_iload F 1 dL_law_952 rfl ?_
  refine w_if_ne (tgt := 969) F dL_law_954 (by decide) (fun h0 => ?_) (fun h0 => ?_)
  · skip
    refine w_aload_n F 6 dL_law_957 rfl rfl ?_
    refine w_iconst F dL_law_958 (v := 0) (by decide) ?_
    refine w_lald F dL_law_959 (rfl : kd 23 = 12) (by decide) ?_
    refine w_iload F 0 dL_law_960 rfl ?_
    refine w_i2l F dL_law_962 ?_
    refine w_lcmp F dL_law_963 ?_
    refine w_if_eq (tgt := 969) F dL_law_964 (by decide) (lcmp0 (hq h0)) ?_
    refine w_goto (tgt := 1978) F dL_law_969 (by decide) ?_
    exact w_sub [2, 3, 4, 5, 6] rfl (K M3 hJ3)
  · skip
    refine w_goto (tgt := 1978) F dL_law_969 (by decide) ?_
    exact w_sub [2, 3, 4, 5, 6] rfl (K M3 hJ3)
set_option maxRecDepth 100000 in
set_option maxHeartbeats 4000000 in
theorem q_L_11 {G : GM} {p : Program} {l : Launch} {e : Env} {s : State} {m : MethodId} {args : Array Value} {below : List Frame} {meth : Method} {c : Code} {ret : Option FieldType} {u9 w9 : Nat} {Q : State → Prop} {b L : Nat} {xs : Nat → Int32} {i : Int32} {M : Mem} (F : Fy G p l s m args meth c cL_law RL 9 ret) (S : Sx G b L xs s) (hin : ∀ j : Nat, j < 5 → vp_in (i + nI j) L) (hJ : Jt M) (hu : u9 + 1 ≤ 601024 ∧ w9 + 6 ≤ 7293034) (K : ∀ M', Jt M' → Rw G p l e room_1 s m args below meth c 9 (u9 + 1) (w9 + 6) Q 1978 [(4, .int i), (0, .ref b), (1, .ref (gA G 0)), (2, .ref (gA G 24)), (3, .ref (gA G 23))] [] M') : Rw G p l e room_1 s m args below meth c 9 u9 w9 Q 972 [(4, .int i), (0, .ref b), (1, .ref (gA G 0)), (2, .ref (gA G 24)), (3, .ref (gA G 23))] [] M := by
  obtain ⟨v, M1, hc, hm⟩ := o_settle hJ
  obtain ⟨M2, hm, hJ2⟩ := hm M1 rfl
  refine w_aload_n F 2 dL_law_972 rfl rfl ?_
  refine w_cV (v := some (.int v)) (As := []) (rest := []) F (c_X6_settle F.st F.gg M _ hc) dL_law_973 ml_L_144 yv_X6_settle (rfl : kd 0 = 0) (by decide) rfl rfl ⟨by decide, by decide⟩ ⟨Nat.le_of_succ_le hu.1, Nat.le_trans (Nat.le_add_right _ _) hu.2⟩ rfl (Nat.le_of_ble_eq_true rfl) ?_
  refine w_aload_n F 3 dL_law_976 rfl rfl ?_
  refine w_cV (v := some (.int v)) (As := []) (rest := [.int v]) F (c_X7_settle F.st F.gg M1 _ hm) dL_law_977 ml_L_147 yv_X7_settle (rfl : kd 24 = 7) (by decide) rfl rfl ⟨by decide, by decide⟩ ⟨Nat.le_of_succ_le hu.1, Nat.le_trans (Nat.le_add_right _ _) hu.2⟩ rfl (Nat.le_of_ble_eq_true rfl) ?_
  refine w_icmp_eq (tgt := 1978) F dL_law_980 (by decide) rfl ?_
  exact w_wide (u2 := u9 + 1) (w2 := w9 + 6) (Nat.le_add_right _ _) (Nat.le_add_right _ _) (w_sub [0, 1, 2, 3, 4] rfl (K M2 hJ2))
set_option maxRecDepth 100000 in
set_option maxHeartbeats 4000000 in
theorem q_L_12 {G : GM} {p : Program} {l : Launch} {e : Env} {s : State} {m : MethodId} {args : Array Value} {below : List Frame} {meth : Method} {c : Code} {ret : Option FieldType} {u9 w9 : Nat} {Q : State → Prop} {b L : Nat} {xs : Nat → Int32} {i : Int32} {M : Mem} (F : Fy G p l s m args meth c cL_law RL 9 ret) (S : Sx G b L xs s) (hin : ∀ j : Nat, j < 5 → vp_in (i + nI j) L) (hJ : Jt M) (hu : u9 + 1 ≤ 601024 ∧ w9 + 6 ≤ 7293034) (K : ∀ M', Jt M' → Rw G p l e room_1 s m args below meth c 9 (u9 + 1) (w9 + 6) Q 1978 [(4, .int i), (0, .ref b), (1, .ref (gA G 0)), (2, .ref (gA G 24)), (3, .ref (gA G 23))] [] M') : Rw G p l e room_1 s m args below meth c 9 u9 w9 Q 985 [(4, .int i), (0, .ref b), (1, .ref (gA G 0)), (2, .ref (gA G 24)), (3, .ref (gA G 23))] [] M := by
  obtain ⟨r, M1, c9, M2, v, M3, hc, hw, hm, hJ3, hc9, hq⟩ := (o_append hJ (xs (i + nI 1).toNatClampNeg)).go (by decide)
  refine w_aload_n F 2 dL_law_985 rfl rfl ?_
  refine w_aload_n F 1 dL_law_986 rfl rfl ?_
  refine w_iload F 0 dL_law_987 rfl ?_
  refine w_iconst F dL_law_989 (v := nI 1) (by decide) ?_
  refine w_iadd F dL_law_990 ?_
  refine w_sld F S (hin 1 (by decide)) dL_law_991 ?_
  refine w_aload_n F 4 dL_law_992 rfl rfl ?_
  refine w_cSW (n := 3) (As := [.ref (gA G 0), .int (xs (i + nI 1).toNatClampNeg), .ref (gA G 23)]) (rest := []) F (m_L_append F.st F.gg (xs (i + nI 1).toNatClampNeg) hc hw) dL_law_993 ml_L_148 sc_L_append ini_L cw_L_append ⟨by decide, by decide, by decide +kernel⟩ rfl ⟨rfl, rfl⟩ ⟨by decide, by decide⟩ hu rfl (Nat.le_of_ble_eq_true rfl) ?_
  refine w_istore (ls' := [(5, .int c9), (4, .int i), (0, .ref b), (1, .ref (gA G 0)), (2, .ref (gA G 24)), (3, .ref (gA G 23))]) F dL_law_996 (by decide) rfl ?_
  refine w_aload_n F 4 dL_law_998 rfl rfl ?_
  refine w_aload_n F 2 dL_law_999 rfl rfl ?_
  refine w_iload F 1 dL_law_1000 rfl ?_
  refine w_iconst F dL_law_1002 (v := nI 1) (by decide) ?_
  refine w_iadd F dL_law_1003 ?_
  refine w_sld F S (hin 1 (by decide)) dL_law_1004 ?_
  refine w_cV (v := some (.int v)) (As := [.int (xs (i + nI 1).toNatClampNeg)]) (rest := []) F (c_X7_append F.st F.gg (xs (i + nI 1).toNatClampNeg) M2 _ hm) dL_law_1005 ml_L_150 yv_X7_append (rfl : kd 24 = 7) (by decide) rfl rfl ⟨by decide, by decide⟩ hu rfl (Nat.le_of_ble_eq_true rfl) ?_
  refine w_istore (ls' := [(6, .int v), (5, .int c9), (4, .int i), (0, .ref b), (1, .ref (gA G 0)), (2, .ref (gA G 24)), (3, .ref (gA G 23))]) F dL_law_1008 (by decide) rfl ?_
  refine w_aload_n F 5 dL_law_1010 rfl rfl ?_
  refine w_cV (v := some (.int (M3.1 24 2))) (As := []) (rest := []) F (c_X7_thrown F.st F.gg M3 _ th_ok) dL_law_1011 ml_L_108 yv_X7_thrown (rfl : kd 24 = 7) (by decide) rfl rfl ⟨by decide, by decide⟩ hu rfl (Nat.le_of_ble_eq_true rfl) ?_
  refine w_iload F 1 dL_law_1014 rfl ?_
  refine w_icmp_eq (tgt := 1021) F dL_law_1016 (by decide) hc9 ?_
  refine w_iload F 1 dL_law_1021 rfl ?_
  refine w_if_ne (tgt := 1038) F dL_law_1023 (by decide) (fun h0 => ?_) (fun h0 => ?_)
  · skip
    refine w_aload_n F 6 dL_law_1026 rfl rfl ?_
    refine w_iconst F dL_law_1027 (v := 0) (by decide) ?_
    refine w_lald F dL_law_1028 (rfl : kd 23 = 12) (by decide) ?_
    refine w_iload F 0 dL_law_1029 rfl ?_
    refine w_i2l F dL_law_1031 ?_
    refine w_lcmp F dL_law_1032 ?_
    refine w_if_eq (tgt := 1038) F dL_law_1033 (by decide) (lcmp0 (hq h0)) ?_
    refine w_goto (tgt := 1978) F dL_law_1038 (by decide) ?_
    exact w_sub [2, 3, 4, 5, 6] rfl (K M3 hJ3)
  · skip
    refine w_goto (tgt := 1978) F dL_law_1038 (by decide) ?_
    exact w_sub [2, 3, 4, 5, 6] rfl (K M3 hJ3)
set_option maxRecDepth 100000 in
set_option maxHeartbeats 4000000 in
theorem q_L_13 {G : GM} {p : Program} {l : Launch} {e : Env} {s : State} {m : MethodId} {args : Array Value} {below : List Frame} {meth : Method} {c : Code} {ret : Option FieldType} {u9 w9 : Nat} {Q : State → Prop} {b L : Nat} {xs : Nat → Int32} {i : Int32} {M : Mem} (F : Fy G p l s m args meth c cL_law RL 9 ret) (S : Sx G b L xs s) (hin : ∀ j : Nat, j < 5 → vp_in (i + nI j) L) (hJ : Jt M) (hu : u9 + 1 ≤ 601024 ∧ w9 + 6 ≤ 7293034) (K : ∀ M', Jt M' → Rw G p l e room_1 s m args below meth c 9 (u9 + 1) (w9 + 6) Q 1978 [(4, .int i), (0, .ref b), (1, .ref (gA G 0)), (2, .ref (gA G 24)), (3, .ref (gA G 23))] [] M') : Rw G p l e room_1 s m args below meth c 9 u9 w9 Q 1041 [(4, .int i), (0, .ref b), (1, .ref (gA G 0)), (2, .ref (gA G 24)), (3, .ref (gA G 23))] [] M := by
  obtain ⟨v, M1, hc, hm⟩ := o_clearBuffer hJ
  obtain ⟨M2, hm, hJ2⟩ := hm M1 rfl
  refine w_aload_n F 2 dL_law_1041 rfl rfl ?_
  refine w_cV (v := some (.int v)) (As := []) (rest := []) F (c_X6_clearBuffer F.st F.gg M _ hc) dL_law_1042 ml_L_151 yv_X6_clearBuffer (rfl : kd 0 = 0) (by decide) rfl rfl ⟨by decide, by decide⟩ ⟨Nat.le_of_succ_le hu.1, Nat.le_trans (Nat.le_add_right _ _) hu.2⟩ rfl (Nat.le_of_ble_eq_true rfl) ?_
  refine w_aload_n F 3 dL_law_1045 rfl rfl ?_
  refine w_cV (v := some (.int v)) (As := []) (rest := [.int v]) F (c_X7_clearBuffer F.st F.gg M1 _ hm) dL_law_1046 ml_L_154 yv_X7_clearBuffer (rfl : kd 24 = 7) (by decide) rfl rfl ⟨by decide, by decide⟩ ⟨Nat.le_of_succ_le hu.1, Nat.le_trans (Nat.le_add_right _ _) hu.2⟩ rfl (Nat.le_of_ble_eq_true rfl) ?_
  refine w_icmp_eq (tgt := 1978) F dL_law_1049 (by decide) rfl ?_
  exact w_wide (u2 := u9 + 1) (w2 := w9 + 6) (Nat.le_add_right _ _) (Nat.le_add_right _ _) (w_sub [0, 1, 2, 3, 4] rfl (K M2 hJ2))
set_option maxRecDepth 100000 in
set_option maxHeartbeats 4000000 in
theorem q_L_14 {G : GM} {p : Program} {l : Launch} {e : Env} {s : State} {m : MethodId} {args : Array Value} {below : List Frame} {meth : Method} {c : Code} {ret : Option FieldType} {u9 w9 : Nat} {Q : State → Prop} {b L : Nat} {xs : Nat → Int32} {i : Int32} {M : Mem} (F : Fy G p l s m args meth c cL_law RL 9 ret) (S : Sx G b L xs s) (hin : ∀ j : Nat, j < 5 → vp_in (i + nI j) L) (hJ : Jt M) (hu : u9 + 1 ≤ 601024 ∧ w9 + 6 ≤ 7293034) (K : ∀ M', Jt M' → Rw G p l e room_1 s m args below meth c 9 (u9 + 1) (w9 + 6) Q 1978 [(4, .int i), (0, .ref b), (1, .ref (gA G 0)), (2, .ref (gA G 24)), (3, .ref (gA G 23))] [] M') : Rw G p l e room_1 s m args below meth c 9 u9 w9 Q 1054 [(4, .int i), (0, .ref b), (1, .ref (gA G 0)), (2, .ref (gA G 24)), (3, .ref (gA G 23))] [] M := by
  obtain ⟨v, M1, hc, hm⟩ := o_firstError hJ
  obtain ⟨M2, hm, hJ2⟩ := hm M1 rfl
  refine w_aload_n F 2 dL_law_1054 rfl rfl ?_
  refine w_cV (v := some (.int v)) (As := []) (rest := []) F (c_X6_firstError F.st F.gg M _ hc) dL_law_1055 ml_L_155 yv_X6_firstError (rfl : kd 0 = 0) (by decide) rfl rfl ⟨by decide, by decide⟩ ⟨Nat.le_of_succ_le hu.1, Nat.le_trans (Nat.le_add_right _ _) hu.2⟩ rfl (Nat.le_of_ble_eq_true rfl) ?_
  refine w_aload_n F 3 dL_law_1058 rfl rfl ?_
  refine w_cV (v := some (.int v)) (As := []) (rest := [.int v]) F (c_X7_firstError F.st F.gg M1 _ hm) dL_law_1059 ml_L_158 yv_X7_firstError (rfl : kd 24 = 7) (by decide) rfl rfl ⟨by decide, by decide⟩ ⟨Nat.le_of_succ_le hu.1, Nat.le_trans (Nat.le_add_right _ _) hu.2⟩ rfl (Nat.le_of_ble_eq_true rfl) ?_
  refine w_icmp_eq (tgt := 1978) F dL_law_1062 (by decide) rfl ?_
  exact w_wide (u2 := u9 + 1) (w2 := w9 + 6) (Nat.le_add_right _ _) (Nat.le_add_right _ _) (w_sub [0, 1, 2, 3, 4] rfl (K M2 hJ2))
set_option maxRecDepth 100000 in
set_option maxHeartbeats 4000000 in
theorem q_L_15 {G : GM} {p : Program} {l : Launch} {e : Env} {s : State} {m : MethodId} {args : Array Value} {below : List Frame} {meth : Method} {c : Code} {ret : Option FieldType} {u9 w9 : Nat} {Q : State → Prop} {b L : Nat} {xs : Nat → Int32} {i : Int32} {M : Mem} (F : Fy G p l s m args meth c cL_law RL 9 ret) (S : Sx G b L xs s) (hin : ∀ j : Nat, j < 5 → vp_in (i + nI j) L) (hJ : Jt M) (hu : u9 + 1 ≤ 601024 ∧ w9 + 6 ≤ 7293034) (K : ∀ M', Jt M' → Rw G p l e room_1 s m args below meth c 9 (u9 + 1) (w9 + 6) Q 1978 [(4, .int i), (0, .ref b), (1, .ref (gA G 0)), (2, .ref (gA G 24)), (3, .ref (gA G 23))] [] M') : Rw G p l e room_1 s m args below meth c 9 u9 w9 Q 1067 [(4, .int i), (0, .ref b), (1, .ref (gA G 0)), (2, .ref (gA G 24)), (3, .ref (gA G 23))] [] M := by
  obtain ⟨r, M1, c9, M2, v, M3, hc, hw, hm, hJ3, hc9, hq⟩ := (o_learn hJ (xs (i + nI 1).toNatClampNeg)).go (by decide)
  refine w_aload_n F 2 dL_law_1067 rfl rfl ?_
  refine w_aload_n F 1 dL_law_1068 rfl rfl ?_
  refine w_iload F 0 dL_law_1069 rfl ?_
  refine w_iconst F dL_law_1071 (v := nI 1) (by decide) ?_
  refine w_iadd F dL_law_1072 ?_
  refine w_sld F S (hin 1 (by decide)) dL_law_1073 ?_
  refine w_aload_n F 4 dL_law_1074 rfl rfl ?_
  refine w_cSW (n := 3) (As := [.ref (gA G 0), .int (xs (i + nI 1).toNatClampNeg), .ref (gA G 23)]) (rest := []) F (m_L_learn F.st F.gg (xs (i + nI 1).toNatClampNeg) hc hw) dL_law_1075 ml_L_159 sc_L_learn ini_L cw_L_learn ⟨by decide, by decide, by decide +kernel⟩ rfl ⟨rfl, rfl⟩ ⟨by decide, by decide⟩ hu rfl (Nat.le_of_ble_eq_true rfl) ?_
  refine w_istore (ls' := [(5, .int c9), (4, .int i), (0, .ref b), (1, .ref (gA G 0)), (2, .ref (gA G 24)), (3, .ref (gA G 23))]) F dL_law_1078 (by decide) rfl ?_
  refine w_aload_n F 4 dL_law_1080 rfl rfl ?_
  refine w_aload_n F 2 dL_law_1081 rfl rfl ?_
  refine w_iload F 1 dL_law_1082 rfl ?_
  refine w_iconst F dL_law_1084 (v := nI 1) (by decide) ?_
  refine w_iadd F dL_law_1085 ?_
  refine w_sld F S (hin 1 (by decide)) dL_law_1086 ?_
  refine w_cV (v := some (.int v)) (As := [.int (xs (i + nI 1).toNatClampNeg)]) (rest := []) F (c_X7_learn F.st F.gg (xs (i + nI 1).toNatClampNeg) M2 _ hm) dL_law_1087 ml_L_161 yv_X7_learn (rfl : kd 24 = 7) (by decide) rfl rfl ⟨by decide, by decide⟩ hu rfl (Nat.le_of_ble_eq_true rfl) ?_
  refine w_istore (ls' := [(6, .int v), (5, .int c9), (4, .int i), (0, .ref b), (1, .ref (gA G 0)), (2, .ref (gA G 24)), (3, .ref (gA G 23))]) F dL_law_1090 (by decide) rfl ?_
  refine w_aload_n F 5 dL_law_1092 rfl rfl ?_
  refine w_cV (v := some (.int (M3.1 24 2))) (As := []) (rest := []) F (c_X7_thrown F.st F.gg M3 _ th_ok) dL_law_1093 ml_L_108 yv_X7_thrown (rfl : kd 24 = 7) (by decide) rfl rfl ⟨by decide, by decide⟩ hu rfl (Nat.le_of_ble_eq_true rfl) ?_
  refine w_iload F 1 dL_law_1096 rfl ?_
  refine w_icmp_eq (tgt := 1103) F dL_law_1098 (by decide) hc9 ?_
  refine w_iload F 1 dL_law_1103 rfl ?_
  refine w_if_ne (tgt := 1120) F dL_law_1105 (by decide) (fun h0 => ?_) (fun h0 => ?_)
  · skip
    refine w_aload_n F 6 dL_law_1108 rfl rfl ?_
    refine w_iconst F dL_law_1109 (v := 0) (by decide) ?_
    refine w_lald F dL_law_1110 (rfl : kd 23 = 12) (by decide) ?_
    refine w_iload F 0 dL_law_1111 rfl ?_
    refine w_i2l F dL_law_1113 ?_
    refine w_lcmp F dL_law_1114 ?_
    refine w_if_eq (tgt := 1120) F dL_law_1115 (by decide) (lcmp0 (hq h0)) ?_
    refine w_goto (tgt := 1978) F dL_law_1120 (by decide) ?_
    exact w_sub [2, 3, 4, 5, 6] rfl (K M3 hJ3)
  · skip
    refine w_goto (tgt := 1978) F dL_law_1120 (by decide) ?_
    exact w_sub [2, 3, 4, 5, 6] rfl (K M3 hJ3)
